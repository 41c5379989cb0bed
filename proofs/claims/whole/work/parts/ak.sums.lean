/-! The model's sums. -/
/-- a pile as it may stand -/
def rqS : List Int → Prop
  | [] => True
  | p :: P => (p = 2 ∨ p = 40 ∨ ((p = 3 ∨ p = 4) ∧ rqHd (fun q => q = 40) P) ∨ ((p = 5 ∨ p = 6) ∧ rqHd (fun q => q = 40 ∨ q = 3 ∨ q = 4) P)) ∧ rqS P
def rqN : List Int → Int
  | [] => 0
  | p :: P => (if p = 2 ∨ p = 40 then 1 else 0) + rqN P
def rqT : List Int → Int
  | [] => 0
  | p :: _ => if p = 2 ∨ p = 40 then 0 else if p ≤ 4 then 1 else 2
theorem rqN_r : ∀ P : List Int, 0 ≤ rqN P
  | [] => Int.le_refl _
  | p :: P => by
    have := rqN_r P
    unfold rqN
    split <;> omega
theorem rqS_len : ∀ P : List Int, rqS P → (P.length : Int) ≤ 3 * rqN P + rqT P ∧ rqT P ≤ 2
  | [], _ => ⟨by show ((0 : Nat) : Int) ≤ 3 * 0 + 0; omega, by show (0 : Int) ≤ 2; omega⟩
  | p :: P, h => by
    have ih := rqS_len P h.2
    have hp := h.1
    rw [List.length_cons]
    unfold rqN
    by_cases g : p = 2 ∨ p = 40
    · have e : rqT (p :: P) = 0 := by rw [rqT, if_pos g]
      rw [if_pos g, e]
      omega
    · rw [if_neg g]
      rcases hp with hp | hp | ⟨hp, hh⟩ | ⟨hp, hh⟩
      · omega
      · omega
      · have e : rqT (p :: P) = 1 := by rw [rqT, if_neg g, if_pos (by omega)]
        have e2 : rqT P = 0 := by
          cases P with
          | nil => rfl
          | cons q P2 =>
            have hh : q = 40 := hh
            rw [rqT, if_pos (Or.inr hh)]
        rw [e]
        omega
      · have e : rqT (p :: P) = 2 := by rw [rqT, if_neg g, if_neg (by omega)]
        have e2 : rqT P ≤ 1 := by
          cases P with
          | nil => show (0 : Int) ≤ 1; omega
          | cons q P2 =>
            have hh : q = 40 ∨ q = 3 ∨ q = 4 := hh
            rw [rqT]
            (repeat' split) <;> omega
        rw [e]
        omega
def rqI (z : rpS) (P : List Int) (o : Int) : Prop := 0 ≤ z.2.2 ∧ z.2.2 + P.length ≤ z.1 ∧ rqS P ∧ rqN P ≤ o ∧ o ≤ 8
theorem rqI_len {z : rpS} {P : List Int} {o : Int} (h : rqI z P o) : (P.length : Int) ≤ 26 ∧ 0 ≤ o := by
  obtain ⟨-, -, h3, h4, h5⟩ := h
  have h1 := rqS_len P h3
  have h2 := rqN_r P
  omega
theorem rqWh_I : ∀ (P : List Int) (z : rpS) (o : Int), rqI z P o → rqI (rqWh P z o).1 (rqWh P z o).2.1 (rqWh P z o).2.2 ∧ rqHd (fun p => p ≠ 2) (rqWh P z o).2.1 ∧ z.2.2 ≤ (rqWh P z o).1.2.2
  | [], z, o, h => ⟨h, trivial, Int.le_refl _⟩
  | p :: P, z, o, h => by
    unfold rqWh
    by_cases g : p = 2
    · rw [if_pos g]
      obtain ⟨h1, h2, h3, h4, h5⟩ := h
      rw [List.length_cons] at h2
      unfold rqN at h4
      rw [if_pos (Or.inl g)] at h4
      have ih := rqWh_I P (rpPut 10045 z) (o - 1) ⟨by show 0 ≤ z.2.2 + 1; omega, by show z.2.2 + 1 + (P.length : Int) ≤ z.1; omega, h3.2, by omega, by omega⟩
      exact ⟨ih.1, ih.2.1, by have : z.2.2 + 1 ≤ _ := ih.2.2; omega⟩
    · rw [if_neg g]
      exact ⟨h, g, Int.le_refl _⟩
theorem rqSt_I (v : Int) : ∀ (P : List Int) (z : rpS) (o : Int), 3 ≤ v → rqI z P o → rqHd (fun p => p ≠ 2) P → rqI (rqSt v P z).1 (rqSt v P z).2 o ∧ rqHd (fun p => p ≠ 2 ∧ ¬ (p < 40 ∧ v ≤ p)) (rqSt v P z).2 ∧ z.2.2 ≤ (rqSt v P z).1.2.2 ∧ (40 ∈ (rqSt v P z).2 ↔ 40 ∈ P)
  | [], z, o, hv, h, _ => ⟨h, trivial, Int.le_refl _, Iff.rfl⟩
  | p :: P, z, o, hv, h, hd => by
    unfold rqSt
    have hd : p ≠ 2 := hd
    by_cases g : p < 40 ∧ v ≤ p
    · rw [if_pos g]
      obtain ⟨h1, h2, h3, h4, h5⟩ := h
      rw [List.length_cons] at h2
      unfold rqN at h4
      rw [if_neg (by omega)] at h4
      have hP : rqHd (fun p => p ≠ 2) P := by
        cases P with
        | nil => trivial
        | cons q P2 =>
          show q ≠ 2
          rcases h3.1 with e | e | ⟨-, e⟩ | ⟨-, e⟩
          · omega
          · omega
          · have e : q = 40 := e; omega
          · have e : q = 40 ∨ q = 3 ∨ q = 4 := e; omega
      have ih := rqSt_I v P (rpPut (10030 + p) z) o hv ⟨by show 0 ≤ z.2.2 + 1; omega, by show z.2.2 + 1 + (P.length : Int) ≤ z.1; omega, h3.2, by omega, h5⟩ hP
      refine ⟨ih.1, ih.2.1, by have : z.2.2 + 1 ≤ _ := ih.2.2.1; omega, ih.2.2.2.trans ?_⟩
      rw [List.mem_cons]
      exact ⟨Or.inr, fun e => e.elim (fun e => by omega) id⟩
    · rw [if_neg g]
      exact ⟨h, ⟨hd, g⟩, Int.le_refl _, Iff.rfl⟩
/-- the run's steps -/
def rqBg (k nm : Int → Int) (W : Int) (z : rpS) (P : List Int) (o : Int) : Int × rpS × List Int × Int × Int :=
  if k z.1 = 42 then (if 9999 < nm z.1 then (2, z, P, o, 0) else (0, (rqWh P (rpPut (nm z.1) (rpNx z)) o).1, (rqWh P (rpPut (nm z.1) (rpNx z)) o).2.1, (rqWh P (rpPut (nm z.1) (rpNx z)) o).2.2, 1))
  else if k z.1 < 15 then (if rpHr W (k z.1) = true then (0, (rqWh P (rpPut (10000 + k z.1) (rpNx z)) o).1, (rqWh P (rpPut (10000 + k z.1) (rpNx z)) o).2.1, (rqWh P (rpPut (10000 + k z.1) (rpNx z)) o).2.2, 1) else (5, z, P, o, 0))
  else if k z.1 = 37 ∨ k z.1 = 34 then (if o = 8 then (3, z, P, o, 0) else (0, rpNx z, (if k z.1 = 37 then 40 else 2) :: P, o + 1, 0))
  else (1, z, P, o, 0)
def rqBh (k : Int → Int) (z : rpS) (P : List Int) (o : Int) : rpS × List Int × Int × Int :=
  if k z.1 = 33 ∨ k z.1 = 34 then (rpNx (rqSt 3 P z).1, (k z.1 - 30) :: (rqSt 3 P z).2, o, 0)
  else if k z.1 = 35 ∨ k z.1 = 36 then (rpNx (rqSt 5 P z).1, (k z.1 - 30) :: (rqSt 5 P z).2, o, 0)
  else (rpNx (rqWh (rqSt 3 P z).2.tail (rqSt 3 P z).1 (o - 1)).1, (rqWh (rqSt 3 P z).2.tail (rqSt 3 P z).1 (o - 1)).2.1, (rqWh (rqSt 3 P z).2.tail (rqSt 3 P z).1 (o - 1)).2.2, 1)
def rqGo (k : Int → Int) (z : rpS) (P : List Int) : Prop := (33 ≤ k z.1 ∧ k z.1 ≤ 36) ∨ (k z.1 = 38 ∧ 40 ∈ P)
section RQU
variable {k nm : Int → Int} {W : Int} {z : rpS} {P : List Int} {o : Int} {N : Nat} {r : Int × rpS × Int}
theorem rqRun_b (h : rqRun k nm W (N + 1) z P o false = some r) : ((rqBg k nm W z P o).1 = 0 ∧ ∃ w9 : Bool, (rqBg k nm W z P o).2.2.2.2 = (if w9 = true then 1 else 0) ∧ rqRun k nm W N (rqBg k nm W z P o).2.1 (rqBg k nm W z P o).2.2.1 (rqBg k nm W z P o).2.2.2.1 w9 = some r) ∨ ((rqBg k nm W z P o).1 ≠ 0 ∧ r = ((rqBg k nm W z P o).1, z, o) ∧ (rqBg k nm W z P o).2 = (z, P, o, 0)) := by
  unfold rqRun at h
  unfold rqBg
  by_cases h0 : k z.1 = 42
  · rw [if_pos h0] at h ⊢
    by_cases h1 : 9999 < nm z.1
    · rw [if_pos h1] at h ⊢
      exact Or.inr ⟨by show (2 : Int) ≠ 0; decide, (Option.some.inj h).symm, rfl⟩
    · rw [if_neg h1] at h ⊢
      exact Or.inl ⟨rfl, true, rfl, h⟩
  · rw [if_neg h0] at h ⊢
    by_cases h1 : k z.1 < 15
    · rw [if_pos h1] at h ⊢
      by_cases h2 : rpHr W (k z.1) = true
      · rw [if_pos h2] at h ⊢
        exact Or.inl ⟨rfl, true, rfl, h⟩
      · rw [if_neg h2] at h ⊢
        exact Or.inr ⟨by show (5 : Int) ≠ 0; decide, (Option.some.inj h).symm, rfl⟩
    · rw [if_neg h1] at h ⊢
      by_cases h2 : k z.1 = 37 ∨ k z.1 = 34
      · rw [if_pos h2] at h ⊢
        by_cases h3 : o = 8
        · rw [if_pos h3] at h ⊢
          exact Or.inr ⟨by show (3 : Int) ≠ 0; decide, (Option.some.inj h).symm, rfl⟩
        · rw [if_neg h3] at h ⊢
          exact Or.inl ⟨rfl, false, rfl, h⟩
      · rw [if_neg h2] at h ⊢
        exact Or.inr ⟨by show (1 : Int) ≠ 0; decide, (Option.some.inj h).symm, rfl⟩
theorem rqRun_w (h : rqRun k nm W (N + 1) z P o true = some r) (hg : rqGo k z P) : ∃ w9 : Bool, (rqBh k z P o).2.2.2 = (if w9 = true then 1 else 0) ∧ rqRun k nm W N (rqBh k z P o).1 (rqBh k z P o).2.1 (rqBh k z P o).2.2.1 w9 = some r := by
  unfold rqRun at h
  unfold rqBh
  unfold rqGo at hg
  by_cases h0 : k z.1 = 33 ∨ k z.1 = 34
  · rw [if_pos h0] at h ⊢
    exact ⟨false, rfl, h⟩
  · rw [if_neg h0] at h ⊢
    by_cases h1 : k z.1 = 35 ∨ k z.1 = 36
    · rw [if_pos h1] at h ⊢
      exact ⟨false, rfl, h⟩
    · rw [if_neg h1] at h ⊢
      have h2 : k z.1 = 38 ∧ 40 ∈ P := hg.elim (fun e => by omega) id
      rw [if_pos h2] at h
      exact ⟨true, rfl, h⟩
theorem rqRun_e (h : rqRun k nm W (N + 1) z P o true = some r) (hg : ¬ rqGo k z P) : r = (if (rqSt 3 P z).2 = [] then 0 else 1, (rqSt 3 P z).1, o) := by
  unfold rqRun at h
  unfold rqGo at hg
  rw [if_neg (fun e => hg (Or.inl (by omega))), if_neg (fun e => hg (Or.inl (by omega))), if_neg (fun e => hg (Or.inr e))] at h
  exact (Option.some.inj h).symm
theorem rpPut_2 {x : Int} {z : rpS} : (rpPut x z).2.2 = z.2.2 + 1 := rfl
theorem rqBg_I (h : rqI z P o) : rqI (rqBg k nm W z P o).2.1 (rqBg k nm W z P o).2.2.1 (rqBg k nm W z P o).2.2.2.1 ∧ ((rqBg k nm W z P o).2.2.2.2 = 1 → rqHd (fun p => p ≠ 2) (rqBg k nm W z P o).2.2.1) := by
  obtain ⟨h1, h2, h3, h4, h5⟩ := id h
  unfold rqBg
  split
  · split
    · exact ⟨h, fun e => absurd (show (0 : Int) = 1 from e) (by decide)⟩
    · have := rqWh_I P (rpPut (nm z.1) (rpNx z)) o ⟨by show 0 ≤ z.2.2 + 1; omega, by show z.2.2 + 1 + (P.length : Int) ≤ z.1 + 1; omega, h3, h4, h5⟩
      exact ⟨this.1, fun _ => this.2.1⟩
  · split
    · split
      · have := rqWh_I P (rpPut (10000 + k z.1) (rpNx z)) o ⟨by show 0 ≤ z.2.2 + 1; omega, by show z.2.2 + 1 + (P.length : Int) ≤ z.1 + 1; omega, h3, h4, h5⟩
        exact ⟨this.1, fun _ => this.2.1⟩
      · exact ⟨h, fun e => absurd (show (0 : Int) = 1 from e) (by decide)⟩
    · split
      · split
        · exact ⟨h, fun e => absurd (show (0 : Int) = 1 from e) (by decide)⟩
        · refine ⟨⟨h1, ?_, ⟨?_, h3⟩, ?_, by show o + 1 ≤ 8; omega⟩, fun e => absurd (show (0 : Int) = 1 from e) (by decide)⟩
          · show z.2.2 + (((_ :: P : List Int).length : Nat) : Int) ≤ z.1 + 1
            rw [List.length_cons]; omega
          · split
            · exact Or.inr (Or.inl rfl)
            · exact Or.inl rfl
          · show rqN (_ :: P) ≤ o + 1
            unfold rqN
            split <;> omega
      · exact ⟨h, fun e => absurd (show (0 : Int) = 1 from e) (by decide)⟩
theorem rqBh_I (h : rqI z P o) (hd : rqHd (fun p => p ≠ 2) P) (hg : rqGo k z P) : rqI (rqBh k z P o).1 (rqBh k z P o).2.1 (rqBh k z P o).2.2.1 ∧ ((rqBh k z P o).2.2.2 = 1 → rqHd (fun p => p ≠ 2) (rqBh k z P o).2.1) := by
  have hs : ∀ v, 3 ≤ v → (rqSt v P z).1.1 = z.1 := fun v _ => rqSt_at v P z
  unfold rqBh
  split
  · rename_i g
    obtain ⟨⟨h1, h2, h3, h4, h5⟩, h6, -⟩ := rqSt_I 3 P z o (by decide) h hd
    refine ⟨⟨h1, ?_, ⟨?_, h3⟩, ?_, h5⟩, fun e => absurd (show (0 : Int) = 1 from e) (by decide)⟩
    · show (rqSt 3 P z).1.2.2 + (((_ :: (rqSt 3 P z).2 : List Int).length : Nat) : Int) ≤ (rqSt 3 P z).1.1 + 1
      rw [List.length_cons]; omega
    · refine Or.inr (Or.inr (Or.inl ⟨by omega, ?_⟩))
      revert h3 h6
      cases (rqSt 3 P z).2 with
      | nil => exact fun _ _ => trivial
      | cons q P2 =>
        intro h3 h6
        have h6 : q ≠ 2 ∧ ¬ (q < 40 ∧ 3 ≤ q) := h6
        show q = 40
        have := h3.1
        omega
    · show rqN (_ :: (rqSt 3 P z).2) ≤ o
      unfold rqN
      rw [if_neg (by omega)]; omega
  · split
    · rename_i g0 g
      obtain ⟨⟨h1, h2, h3, h4, h5⟩, h6, -⟩ := rqSt_I 5 P z o (by decide) h hd
      refine ⟨⟨h1, ?_, ⟨?_, h3⟩, ?_, h5⟩, fun e => absurd (show (0 : Int) = 1 from e) (by decide)⟩
      · show (rqSt 5 P z).1.2.2 + (((_ :: (rqSt 5 P z).2 : List Int).length : Nat) : Int) ≤ (rqSt 5 P z).1.1 + 1
        rw [List.length_cons]; omega
      · refine Or.inr (Or.inr (Or.inr ⟨by omega, ?_⟩))
        revert h3 h6
        cases (rqSt 5 P z).2 with
        | nil => exact fun _ _ => trivial
        | cons q P2 =>
          intro h3 h6
          have h6 : q ≠ 2 ∧ ¬ (q < 40 ∧ 5 ≤ q) := h6
          show q = 40 ∨ q = 3 ∨ q = 4
          have := h3.1
          omega
      · show rqN (_ :: (rqSt 5 P z).2) ≤ o
        unfold rqN
        rw [if_neg (by omega)]; omega
    · rename_i g0 g1
      have hm : 40 ∈ P := by
        rcases hg with e | e
        · omega
        · exact e.2
      obtain ⟨⟨h1, h2, h3, h4, h5⟩, h6, -, h7⟩ := rqSt_I 3 P z o (by decide) h hd
      have hm2 := h7.mpr hm
      revert h2 h3 h4 h6 hm2
      cases (rqSt 3 P z).2 with
      | nil => exact fun _ _ _ _ e => nomatch e
      | cons q P2 =>
        intro h2 h3 h4 h6 hm2
        have h6 : q ≠ 2 ∧ ¬ (q < 40 ∧ 3 ≤ q) := h6
        have hq : q = 40 := by have := h3.1; omega
        rw [List.length_cons] at h2
        unfold rqN at h4
        rw [if_pos (Or.inr hq)] at h4
        have := rqWh_I P2 (rqSt 3 P z).1 (o - 1) ⟨h1, by omega, h3.2, by omega, by omega⟩
        refine ⟨⟨this.1.1, ?_, this.1.2.2⟩, fun _ => this.2.1⟩
        have e := this.1.2.1
        show (rqWh P2 (rqSt 3 P z).1 (o - 1)).1.2.2 + ((rqWh P2 (rqSt 3 P z).1 (o - 1)).2.1.length : Int) ≤ (rqWh P2 (rqSt 3 P z).1 (o - 1)).1.1 + 1
        omega
theorem rqBh_38 (h : rqI z P o) (hd : rqHd (fun p => p ≠ 2) P) (hm : 40 ∈ P) : ∃ P4, (rqSt 3 P z).2 = 40 :: P4 := by
  obtain ⟨⟨h1, h2, h3, h4, h5⟩, h6, -, h7⟩ := rqSt_I 3 P z o (by decide) h hd
  have hm2 := h7.mpr hm
  revert h3 h6 hm2
  cases (rqSt 3 P z).2 with
  | nil => exact fun _ _ e => nomatch e
  | cons q P2 =>
    intro h3 h6 hm2
    have h6 : q ≠ 2 ∧ ¬ (q < 40 ∧ 3 ≤ q) := h6
    have hq : q = 40 := by have := h3.1; omega
    exact ⟨P2, by rw [hq]⟩
end RQU
theorem plN_mem {g : Int → Int} : ∀ {P : List Int}, plN g P → (40 ∈ P ↔ ∃ i, 0 ≤ i ∧ i < (P.length : Int) ∧ g i = 40)
  | [], _ => ⟨fun e => (nomatch e), fun ⟨i, h1, h2, _⟩ => by have h2 : i < ((0 : Nat) : Int) := h2; omega⟩
  | p :: P, h => by
    have ih := plN_mem h.2
    rw [List.mem_cons, ih, List.length_cons]
    constructor
    · rintro (e | ⟨i, h1, h2, h3⟩)
      · exact ⟨P.length, by omega, by omega, by rw [h.1, ← e]⟩
      · exact ⟨i, h1, by omega, h3⟩
    · rintro ⟨i, h1, h2, h3⟩
      by_cases q : i = P.length
      · left; rw [← h3, q]; exact h.1
      · right; exact ⟨i, h1, by omega, h3⟩
theorem FR_20 {b c : Int} {s s1 l l1 : Nat → Int → Int} (h : FR b c s s1 l l1) : s1 598 20 = s 598 20 := h.2.1 20 (by omega) (by omega) (by omega)
theorem pl_r {P : List Int} (h : rqS P) : ∀ p ∈ P, p = 2 ∨ p = 40 ∨ (3 ≤ p ∧ p ≤ 6) := by
  induction P with
  | nil => exact fun _ e => nomatch e
  | cons q P ih =>
    intro p hp
    rcases List.mem_cons.mp hp with e | e
    · rw [e]
      rcases h.1 with g | g | g | g <;> omega
    · exact ih h.2 p e
theorem sp_174 {d L t : Nat} {s l : Nat → Int → Int} {f : Int → Int} {n : Int} {k pl nm : Int → Int} {tn b : Int} {z : rpS} {P : List Int} {o w c : Int} (h : MSt f n k pl nm tn b s l z P o w) (b0 : 0 ≤ b ∧ b ≤ 2115) (hz : 0 ≤ z.2.2 ∧ z.2.2 + P.length ≤ 300) (hP : P.length ≤ 160) (hS : rqS P) (hcc : c ≤ z.2.2) : ∃ s1, mm_Ev mm_ct mm_CM (d + 2) 174 [.ref 598] (MX L t s l) (none, MX L t s1 l) ∧ MSt f n k pl nm tn b s1 l (rqWh P z o).1 (rqWh P z o).2.1 (rqWh P z o).2.2 1 ∧ FR b c s s1 l l := by
  have hc : (mm_CM 174).2.2.2.2.2.2.2 = mm_cf cd_174 := by rw [cm_174]; rfl
  refine ev_xs ?_
  refine ev_to (mx := 1) (by rw [cm_174]; decide) (by rw [cm_174]; rfl) (by show 1 ≤ _; decide) ?_
  show mm_wp _ _ (0, [some (.ref 598)], [], MX L t s l) (fun res => ∃ s1, res = (none, MX L t s1 l) ∧ MSt f n k pl nm tn b s1 l (rqWh P z o).1 (rqWh P z o).2.1 (rqWh P z o).2.2 1 ∧ FR b c s s1 l l)
  refine wi_a1 hc rfl rfl ?_
  refine wi_ic hc rfl ?_
  refine wi_pf (kz := 19) rfl hc rfl rfl (by decide) (Nat.le_of_ble_eq_true rfl) rfl (Nat.le_of_ble_eq_true rfl) ⟨rfl, rfl⟩ rfl ?_
  obtain ⟨s1_, es1_⟩ : ∃ q, q = up s 598 19 1 := ⟨_, rfl⟩
  rw [← es1_]
  have hMs1_ : MSt f n k pl nm tn b s1_ l z P o 1 := by rw [es1_]; exact MSt.sw h
  have hFs1_ : FR b c s s1_ l l := FR.rf.tr (by rw [es1_]; exact FR.u (by decide)) (Int.le_refl c)
  have loop5_ : ∀ P1 : List Int, ∀ z1 : rpS, ∀ o1 : Int, ∀ s1 : Nat → Int → Int, MSt f n k pl nm tn b s1 l z1 P1 o1 1 → FR b c s s1 l l → (0 ≤ z1.2.2 ∧ z1.2.2 + P1.length ≤ 300) → P1.length ≤ 160 → rqS P1 → c ≤ z1.2.2 → rqWh P1 z1 o1 = rqWh P z o → mm_wp (mm_Ev mm_ct mm_CM (d + 1)) 174 (5, [some (.ref 598)], [], MX L t s1 l) (fun res => ∃ s1, res = (none, MX L t s1 l) ∧ MSt f n k pl nm tn b s1 l (rqWh P z o).1 (rqWh P z o).2.1 (rqWh P z o).2.2 1 ∧ FR b c s s1 l l) := by
    refine ls_ind ?_
    intro P1 ih z1 o1 s1 hM1 hF1 hz1 hPl hS1 hcz hR
    obtain ⟨n1, hn1⟩ : ∃ n1 : Int, n1 = P1.length := ⟨_, rfl⟩
    refine wi_a1 hc rfl rfl ?_
    refine wi_gfv (kz := 17) rfl hc rfl rfl (by decide) (Nat.le_of_ble_eq_true rfl) rfl (v := n1) ((MSt.rn hM1).trans (hn1.symm)) ?_
    refine wi_zle hc rfl ⟨by omega, by omega⟩ (fun h1_ => ?_) (fun h1_ => ?_)
    · refine wi_rv hc rfl (by rw [cm_174]; rfl) ?_
      have hPe : P1 = [] := by
        cases P1 with
        | nil => rfl
        | cons p P2 => exfalso; rw [List.length_cons] at hn1; omega
      subst hPe
      refine ⟨s1, rfl, ?_⟩
      rw [← hR]
      exact ⟨hM1, hF1⟩
    · obtain ⟨p, P2, rfl⟩ : ∃ p P2, P1 = p :: P2 := by
        cases P1 with
        | nil => exfalso; have hn1 : n1 = ((0 : Nat) : Int) := hn1; omega
        | cons p P2 => exact ⟨p, P2, rfl⟩
      have hn2 : (P2.length : Int) = n1 - 1 := by rw [List.length_cons] at hn1; omega
      have hl2 := hz1.2
      rw [List.length_cons] at hl2 hPl
      have htop := MSt.rp hM1
      rw [hn2] at htop
      have hpr := pl_r hS1 p List.mem_cons_self
      refine wi_a1 hc rfl rfl ?_
      refine wi_gr (w := 603) hc rfl rfl (by decide) (Nat.le_of_ble_eq_true rfl) rfl ?_
      refine wi_a1 hc rfl rfl ?_
      refine wi_gfv (kz := 17) rfl hc rfl rfl (by decide) (Nat.le_of_ble_eq_true rfl) rfl (v := n1) ((MSt.rn hM1).trans (hn1.symm)) ?_
      refine wi_ic hc rfl ?_
      refine wi_sub hc rfl ?_
      refine wi_ildv (N := 160) hc rfl rfl (by decide) (by decide) (by omega) (by omega) (v := p) (htop) ?_
      refine wi_ic hc rfl ?_
      refine wi_cne hc rfl ⟨by omega, by omega⟩ ⟨by decide, by decide⟩ (fun h2_ => ?_) (fun h2_ => ?_)
      · refine wi_rv hc rfl (by rw [cm_174]; rfl) ?_
        refine ⟨s1, rfl, ?_⟩
        rw [← hR, rqWh, if_neg (by omega)]
        exact ⟨hM1, hF1⟩
      · refine wi_a1 hc rfl rfl ?_
        refine wi_dupr hc rfl ?_
        refine wi_gfv (kz := 17) rfl hc rfl rfl (by decide) (Nat.le_of_ble_eq_true rfl) rfl (v := n1) ((MSt.rn hM1).trans (hn1.symm)) ?_
        refine wi_ic hc rfl ?_
        refine wi_sub hc rfl ?_
        refine wi_pf (kz := 17) rfl hc rfl rfl (by decide) (Nat.le_of_ble_eq_true rfl) rfl (Nat.le_of_ble_eq_true rfl) ⟨rfl, rfl⟩ rfl ?_
        obtain ⟨s2_, es2_⟩ : ∃ q, q = up s1 598 17 (n1 - 1) := ⟨_, rfl⟩
        rw [← es2_]
        have hMs2_ : MSt f n k pl nm tn b s2_ l z1 P2 o1 1 := by rw [es2_]; exact MSt.pop hM1 (by omega)
        have hFs2_ : FR b c s s2_ l l := hF1.tr (by rw [es2_]; exact FR.u (by decide)) (Int.le_refl c)
        have hts2_ : s2_ 603 (n1 - 1) = p := by rw [es2_, up_c (by decide)]; exact htop
        refine wi_a1 hc rfl rfl ?_
        refine wi_dupr hc rfl ?_
        refine wi_gfv (kz := 18) rfl hc rfl rfl (by decide) (Nat.le_of_ble_eq_true rfl) rfl (v := o1) (MSt.ro hMs2_) ?_
        refine wi_ic hc rfl ?_
        refine wi_sub hc rfl ?_
        refine wi_pf (kz := 18) rfl hc rfl rfl (by decide) (Nat.le_of_ble_eq_true rfl) rfl (Nat.le_of_ble_eq_true rfl) ⟨rfl, rfl⟩ rfl ?_
        obtain ⟨s3_, es3_⟩ : ∃ q, q = up s2_ 598 18 (o1 - 1) := ⟨_, rfl⟩
        rw [← es3_]
        have hMs3_ : MSt f n k pl nm tn b s3_ l z1 P2 (o1 - 1) 1 := by rw [es3_]; exact MSt.so hMs2_
        have hFs3_ : FR b c s s3_ l l := hFs2_.tr (by rw [es3_]; exact FR.u (by decide)) (Int.le_refl c)
        have hts3_ : s3_ 603 (n1 - 1) = p := by rw [es3_, up_c (by decide)]; exact hts2_
        refine wi_a1 hc rfl rfl ?_
        refine wi_ic hc rfl ?_
        refine wi_ic hc rfl ?_
        obtain ⟨s4_, hE4_, hM4_, hF4_⟩ := em_172 (d := 0) (L := L) (t := t) (c := c) (x9 := 2) (v9 := 0) hMs3_ b0 ⟨by omega, by omega⟩ (by omega) (10045) rfl rfl
        refine wp_cv (b := 598) (As := [.int (iI 2), .int (iI 0)]) (r := []) hc rfl (by rw [cm_172]; rfl) rfl (Nat.le_of_ble_eq_true rfl) (show 598 < 621 by decide) (by rw [cm_172]; rfl) (ev_mono hE4_ (by omega)) ?_
        have hF4q : FR b c s s4_ l l := hFs3_.tr hF4_ (by omega)
        show mm_wp _ _ (53, [some (.ref 598)], [], MX L t s4_ l) _
        refine wi_go hc rfl ?_
        exact ih p P2 rfl _ _ s4_ hM4_ hF4q ⟨by show 0 ≤ z1.2.2 + 1; omega, by show z1.2.2 + 1 + (P2.length : Int) ≤ 300; omega⟩ (by omega) hS1.2 (by show c ≤ z1.2.2 + 1; omega) (by rw [← hR, rqWh, if_pos (by omega)])
  exact loop5_ P z o s1_ hMs1_ hFs1_ hz hP hS hcc rfl
theorem sp_175 {d L t : Nat} {s l : Nat → Int → Int} {f : Int → Int} {n : Int} {k pl nm : Int → Int} {tn b : Int} {z : rpS} {P : List Int} {o w c : Int} (h : MSt f n k pl nm tn b s l z P o w) (b0 : 0 ≤ b ∧ b ≤ 2115) (hz : 0 ≤ z.2.2 ∧ z.2.2 + P.length ≤ 300) (hP : P.length ≤ 160) (hS : rqS P) (hcc : c ≤ z.2.2) {v : Int} (hv : 3 ≤ v ∧ v ≤ 10) : ∃ s1, mm_Ev mm_ct mm_CM (d + 2) 175 [.ref 598, .int (iI v)] (MX L t s l) (none, MX L t s1 l) ∧ MSt f n k pl nm tn b s1 l (rqSt v P z).1 (rqSt v P z).2 o w ∧ FR b c s s1 l l := by
  have hc : (mm_CM 175).2.2.2.2.2.2.2 = mm_cf cd_175 := by rw [cm_175]; rfl
  refine ev_xs ?_
  refine ev_to (mx := 2) (by rw [cm_175]; decide) (by rw [cm_175]; rfl) (by show 2 ≤ _; decide) ?_
  show mm_wp _ _ (0, [some (.ref 598), some (.int (iI v))], [], MX L t s l) (fun res => ∃ s1, res = (none, MX L t s1 l) ∧ MSt f n k pl nm tn b s1 l (rqSt v P z).1 (rqSt v P z).2 o w ∧ FR b c s s1 l l)
  have loop0_ : ∀ P1 : List Int, ∀ z1 : rpS, ∀ s1 : Nat → Int → Int, MSt f n k pl nm tn b s1 l z1 P1 o w → FR b c s s1 l l → (0 ≤ z1.2.2 ∧ z1.2.2 + P1.length ≤ 300) → P1.length ≤ 160 → rqS P1 → c ≤ z1.2.2 → rqSt v P1 z1 = rqSt v P z → mm_wp (mm_Ev mm_ct mm_CM (d + 1)) 175 (0, [some (.ref 598), some (.int (iI v))], [], MX L t s1 l) (fun res => ∃ s1, res = (none, MX L t s1 l) ∧ MSt f n k pl nm tn b s1 l (rqSt v P z).1 (rqSt v P z).2 o w ∧ FR b c s s1 l l) := by
    refine ls_ind ?_
    intro P1 ih z1 s1 hM1 hF1 hz1 hPl hS1 hcz hR
    obtain ⟨n1, hn1⟩ : ∃ n1 : Int, n1 = P1.length := ⟨_, rfl⟩
    refine wi_a1 hc rfl rfl ?_
    refine wi_gfv (kz := 17) rfl hc rfl rfl (by decide) (Nat.le_of_ble_eq_true rfl) rfl (v := n1) ((MSt.rn hM1).trans (hn1.symm)) ?_
    refine wi_zle hc rfl ⟨by omega, by omega⟩ (fun h1_ => ?_) (fun h1_ => ?_)
    · refine wi_rv hc rfl (by rw [cm_175]; rfl) ?_
      have hPe : P1 = [] := by
        cases P1 with
        | nil => rfl
        | cons p P2 => exfalso; rw [List.length_cons] at hn1; omega
      subst hPe
      refine ⟨s1, rfl, ?_⟩
      rw [← hR]
      exact ⟨hM1, hF1⟩
    · obtain ⟨p, P2, rfl⟩ : ∃ p P2, P1 = p :: P2 := by
        cases P1 with
        | nil => exfalso; have hn1 : n1 = ((0 : Nat) : Int) := hn1; omega
        | cons p P2 => exact ⟨p, P2, rfl⟩
      have hn2 : (P2.length : Int) = n1 - 1 := by rw [List.length_cons] at hn1; omega
      have hl2 := hz1.2
      rw [List.length_cons] at hl2 hPl
      have htop := MSt.rp hM1
      rw [hn2] at htop
      have hpr := pl_r hS1 p List.mem_cons_self
      refine wi_a1 hc rfl rfl ?_
      refine wi_gr (w := 603) hc rfl rfl (by decide) (Nat.le_of_ble_eq_true rfl) rfl ?_
      refine wi_a1 hc rfl rfl ?_
      refine wi_gfv (kz := 17) rfl hc rfl rfl (by decide) (Nat.le_of_ble_eq_true rfl) rfl (v := n1) ((MSt.rn hM1).trans (hn1.symm)) ?_
      refine wi_ic hc rfl ?_
      refine wi_sub hc rfl ?_
      refine wi_ildv (N := 160) hc rfl rfl (by decide) (by decide) (by omega) (by omega) (v := p) (htop) ?_
      refine wi_bi hc rfl rfl ?_
      refine wi_cge hc rfl ⟨by omega, by omega⟩ ⟨by decide, by decide⟩ (fun h2_ => ?_) (fun h2_ => ?_)
      · refine wi_rv hc rfl (by rw [cm_175]; rfl) ?_
        refine ⟨s1, rfl, ?_⟩
        rw [← hR, rqSt, if_neg (by omega)]
        exact ⟨hM1, hF1⟩
      · refine wi_a1 hc rfl rfl ?_
        refine wi_gr (w := 603) hc rfl rfl (by decide) (Nat.le_of_ble_eq_true rfl) rfl ?_
        refine wi_a1 hc rfl rfl ?_
        refine wi_gfv (kz := 17) rfl hc rfl rfl (by decide) (Nat.le_of_ble_eq_true rfl) rfl (v := n1) ((MSt.rn hM1).trans (hn1.symm)) ?_
        refine wi_ic hc rfl ?_
        refine wi_sub hc rfl ?_
        refine wi_ildv (N := 160) hc rfl rfl (by decide) (by decide) (by omega) (by omega) (v := p) (htop) ?_
        refine wi_i1 hc rfl rfl ?_
        refine wi_clt hc rfl ⟨by omega, by omega⟩ ⟨by omega, by omega⟩ (fun h3_ => ?_) (fun h3_ => ?_)
        · refine wi_rv hc rfl (by rw [cm_175]; rfl) ?_
          refine ⟨s1, rfl, ?_⟩
          rw [← hR, rqSt, if_neg (by omega)]
          exact ⟨hM1, hF1⟩
        · refine wi_a1 hc rfl rfl ?_
          refine wi_dupr hc rfl ?_
          refine wi_gfv (kz := 17) rfl hc rfl rfl (by decide) (Nat.le_of_ble_eq_true rfl) rfl (v := n1) ((MSt.rn hM1).trans (hn1.symm)) ?_
          refine wi_ic hc rfl ?_
          refine wi_sub hc rfl ?_
          refine wi_pf (kz := 17) rfl hc rfl rfl (by decide) (Nat.le_of_ble_eq_true rfl) rfl (Nat.le_of_ble_eq_true rfl) ⟨rfl, rfl⟩ rfl ?_
          obtain ⟨s1_, es1_⟩ : ∃ q, q = up s1 598 17 (n1 - 1) := ⟨_, rfl⟩
          rw [← es1_]
          have hMs1_ : MSt f n k pl nm tn b s1_ l z1 P2 o w := by rw [es1_]; exact MSt.pop hM1 (by omega)
          have hFs1_ : FR b c s s1_ l l := hF1.tr (by rw [es1_]; exact FR.u (by decide)) (Int.le_refl c)
          have hts1_ : s1_ 603 (n1 - 1) = p := by rw [es1_, up_c (by decide)]; exact htop
          refine wi_a1 hc rfl rfl ?_
          refine wi_a1 hc rfl rfl ?_
          refine wi_gr (w := 603) hc rfl rfl (by decide) (Nat.le_of_ble_eq_true rfl) rfl ?_
          refine wi_a1 hc rfl rfl ?_
          refine wi_gfv (kz := 17) rfl hc rfl rfl (by decide) (Nat.le_of_ble_eq_true rfl) rfl (v := n1 - 1) ((MSt.rn hMs1_).trans ((by omega : (P2.length : Int) = n1 - 1))) ?_
          refine wi_ildv (N := 160) hc rfl rfl (by decide) (by decide) (by omega) (by omega) (v := p) (hts1_) ?_
          refine wi_ic hc rfl ?_
          obtain ⟨s2_, hE2_, hM2_, hF2_⟩ := em_172 (d := 0) (L := L) (t := t) (c := c) (x9 := p) (v9 := 0) hMs1_ b0 ⟨by omega, by omega⟩ (by omega) (10030 + p) (by unfold mop; rw [if_neg (by omega), if_neg (by omega), if_neg (by omega), if_pos (by omega)] <;> omega) (by unfold mvl; rw [if_neg (by omega), if_neg (by omega)])
          refine wp_cv (b := 598) (As := [.int (iI p), .int (iI 0)]) (r := []) hc rfl (by rw [cm_172]; rfl) rfl (Nat.le_of_ble_eq_true rfl) (show 598 < 621 by decide) (by rw [cm_172]; rfl) (ev_mono hE2_ (by omega)) ?_
          have hF2q : FR b c s s2_ l l := hFs1_.tr hF2_ (by omega)
          show mm_wp _ _ (62, [some (.ref 598), some (.int (iI v))], [], MX L t s2_ l) _
          refine wi_go hc rfl ?_
          exact ih p P2 rfl _ s2_ hM2_ hF2q ⟨by show 0 ≤ z1.2.2 + 1; omega, by show z1.2.2 + 1 + (P2.length : Int) ≤ 300; omega⟩ (by omega) hS1.2 (by show c ≤ z1.2.2 + 1; omega) (by rw [← hR, rqSt, if_pos (by omega)])
  exact loop0_ P z s h FR.rf hz hP hS hcc rfl
