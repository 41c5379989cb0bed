/-! The clauses, read by going down; G is the table of what was read. -/
def rcFig (k nm : Int → Int) (lo hi : Int) (z : rpS) : rpR := if k z.1 = 42 then (if lo ≤ nm z.1 ∧ nm z.1 ≤ hi then (0, rpNx z) else (2, z)) else (1, z)
def rcWd (k : Int → Int) (q : Int) (z : rpS) : rpR := if k z.1 = q then (0, rpNx z) else (1, z)
/-- the clause of a sort in the table; -1 -/
def rcHas (G : Int → Int) (so la : Int) : Int := clF G 0 so la (G 0).toNat 0
def rcBody (k nm G : Int → Int) (so : Int) (z : rpS) : rpR :=
  if so = 0 then rpB (rcFig k nm 0 5 z) (fun y => if 0 ≤ rcHas G 0 (nm z.1) then (4, z) else rpEi k nm 15 301 false false y)
  else if so = 1 then rpEi k nm 16 301 false false z
  else if so = 2 then rpSum k (rpOne k nm 17 8) z
  else if so = 3 then rcFig k nm 1 2 z
  else if so = 4 then rcFig k nm 1 99 z
  else if so = 5 then rpB (rcFig k nm 0 2 z) (fun y => rpB (rcWd k 24 y) (rcFig k nm 0 9))
  else if so = 6 then rcFig k nm 0 9 z
  else if so = 7 then rpB (rcFig k nm 0 9 z) (fun y => rpB (rcWd k 25 y) (fun x => rpB (rcFig k nm 0 2 x) (fun u => rpB (rcWd k 24 u) (rcFig k nm 0 9))))
  else (0, z)
def rcEnt (nm G : Int → Int) (so : Int) (z y : rpS) : Int → Int := fun j => if j = 0 then G 0 + 1 else if j = 1 + 4 * G 0 then so else if j = 2 + 4 * G 0 then nm z.1 else if j = 3 + 4 * G 0 then (if so ≤ 2 then z.2.2 else nm (z.1 + 2)) else if j = 4 + 4 * G 0 then (if so ≤ 2 then y.2.2 else nm (z.1 + 4)) else G j
abbrev rcR : Type := Int × rpS × (Int → Int)
def rcCl (k nm : Int → Int) (z : rpS) (G : Int → Int) : rcR :=
  if soO (k z.1) < 0 then (1, z, G)
  else if (1 ≤ soO (k z.1) ∧ soO (k z.1) ≤ 3) ∧ 0 ≤ rcHas G (soO (k z.1)) 0 then (4, z, G)
  else if G 0 = 24 then (6, z, G)
  else ((rpB (rcBody k nm G (soO (k z.1)) (rpNx z)) (rcWd k 39)).1, (rpB (rcBody k nm G (soO (k z.1)) (rpNx z)) (rcWd k 39)).2, rcEnt nm G (soO (k z.1)) (rpNx z) (rpB (rcBody k nm G (soO (k z.1)) (rpNx z)) (rcWd k 39)).2)
def rcAll (k nm : Int → Int) : Nat → rpS → (Int → Int) → rcR
  | 0, z, G => (0, z, G)
  | n + 1, z, G => if k z.1 = 43 then (0, z, G) else if (rcCl k nm z G).1 = 0 then rcAll k nm n (rcCl k nm z G).2.1 (rcCl k nm z G).2.2 else rcCl k nm z G
theorem soO_s (x : Int) : (soO x = -1 ∧ x ≠ 5 ∧ ¬ (15 ≤ x ∧ x ≤ 23)) ∨ (0 ≤ soO x ∧ soO x ≤ 9 ∧ x = wdS (soO x) ∧ (x = 5 ∨ (15 ≤ x ∧ x ≤ 23))) := by
  unfold soO
  by_cases h : x = 5
  · rw [if_pos h]
    exact Or.inr ⟨by decide, by decide, h, Or.inl h⟩
  · rw [if_neg h]
    by_cases h2 : x = 23
    · rw [if_pos h2]
      exact Or.inr ⟨by decide, by decide, h2, Or.inr (by omega)⟩
    · rw [if_neg h2]
      by_cases h3 : 15 ≤ x ∧ x ≤ 22
      · rw [if_pos h3]
        refine Or.inr ⟨by omega, by omega, ?_, Or.inr (by omega)⟩
        unfold wdS
        rw [if_neg (by omega), if_neg (by omega)]
        omega
      · rw [if_neg h3]
        exact Or.inl ⟨rfl, h, by omega⟩
/-! One clause more in a table. -/
theorem clF_app {T : Int → Int} {b so la : Int} : ∀ (n : Nat) (k : Int), 0 ≤ k → clF T b so la (n + 1) k = if 0 ≤ clF T b so la n k then clF T b so la n k else if T (b + 1 + 4 * (k + n)) = so ∧ (so ≠ 0 ∨ T (b + 2 + 4 * (k + n)) = la) then k + n else -1
  | 0, k, hk => by
    show (if _ then k else (-1 : Int)) = if 0 ≤ (-1 : Int) then _ else _
    rw [if_neg (by decide : ¬ (0 : Int) ≤ -1), show k + ((0 : Nat) : Int) = k by omega]
  | n + 1, k, hk => by
    have ih := clF_app (T := T) (b := b) (so := so) (la := la) n (k + 1) (by omega)
    rw [clF]
    conv => rhs; rw [clF]
    by_cases h : T (b + 1 + 4 * k) = so ∧ (so ≠ 0 ∨ T (b + 2 + 4 * k) = la)
    · rw [if_pos h, if_pos h, if_pos hk]
    · rw [if_neg h, if_neg h, ih, show k + 1 + (n : Int) = k + ((n + 1 : Nat) : Int) by omega]
theorem clF_cg {T T' : Int → Int} {b b' so la : Int} : ∀ (n : Nat) (k : Int), (∀ j, k ≤ j → j < k + n → T (b + 1 + 4 * j) = T' (b' + 1 + 4 * j) ∧ (T' (b' + 1 + 4 * j) = 0 → T (b + 2 + 4 * j) = T' (b' + 2 + 4 * j))) → clF T b so la n k = clF T' b' so la n k
  | 0, _, _ => rfl
  | n + 1, k, h => by
    have h0 := h k (Int.le_refl _) (by omega)
    rw [clF, clF, clF_cg n (k + 1) (fun j j0 j1 => h j (by omega) (by omega))]
    by_cases q : T' (b' + 1 + 4 * k) = so ∧ (so ≠ 0 ∨ T' (b' + 2 + 4 * k) = la)
    · rw [if_pos q, if_pos]
      refine ⟨h0.1.trans q.1, ?_⟩
      rcases q.2 with e | e
      · exact Or.inl e
      · by_cases e0 : so = 0
        · exact Or.inr ((h0.2 (by omega)).trans e)
        · exact Or.inl e0
    · rw [if_neg q, if_neg]
      intro q2
      apply q
      refine ⟨h0.1.symm.trans q2.1, ?_⟩
      rcases q2.2 with e | e
      · exact Or.inl e
      · by_cases e0 : so = 0
        · exact Or.inr ((h0.2 (by rw [← h0.1]; omega)).symm.trans e)
        · exact Or.inl e0
theorem rcEnt_lo {nm G : Int → Int} {so : Int} {z y : rpS} {j : Int} (h0 : 1 ≤ j) (h1 : j < 1 + 4 * G 0) : rcEnt nm G so z y j = G j := by
  unfold rcEnt
  rw [if_neg (by omega), if_neg (by omega), if_neg (by omega), if_neg (by omega), if_neg (by omega)]
theorem rcEnt_0 {nm G : Int → Int} {so : Int} {z y : rpS} : rcEnt nm G so z y 0 = G 0 + 1 := if_pos rfl
theorem rcEnt_1 {nm G : Int → Int} {so : Int} {z y : rpS} (h : 0 ≤ G 0) : rcEnt nm G so z y (1 + 4 * G 0) = so := by
  unfold rcEnt
  rw [if_neg (by omega), if_pos rfl]
theorem rcEnt_2 {nm G : Int → Int} {so : Int} {z y : rpS} (h : 0 ≤ G 0) : rcEnt nm G so z y (2 + 4 * G 0) = nm z.1 := by
  unfold rcEnt
  rw [if_neg (by omega), if_neg (by omega), if_pos rfl]
theorem rcEnt_3 {nm G : Int → Int} {so : Int} {z y : rpS} (h : 0 ≤ G 0) : rcEnt nm G so z y (3 + 4 * G 0) = if so ≤ 2 then z.2.2 else nm (z.1 + 2) := by
  unfold rcEnt
  rw [if_neg (by omega), if_neg (by omega), if_neg (by omega), if_pos rfl]
theorem rcEnt_4 {nm G : Int → Int} {so : Int} {z y : rpS} (h : 0 ≤ G 0) : rcEnt nm G so z y (4 + 4 * G 0) = if so ≤ 2 then y.2.2 else nm (z.1 + 4) := by
  unfold rcEnt
  rw [if_neg (by omega), if_neg (by omega), if_neg (by omega), if_neg (by omega), if_pos rfl]
theorem rcHas_r {G : Int → Int} {so la : Int} (h : 0 ≤ G 0) : -1 ≤ rcHas G so la ∧ rcHas G so la < G 0 ∧ (0 ≤ rcHas G so la → G (1 + 4 * rcHas G so la) = so ∧ (so ≠ 0 ∨ G (2 + 4 * rcHas G so la) = la)) ∧ (rcHas G so la < 0 → rcHas G so la = -1 ∧ ∀ j, 0 ≤ j → j < G 0 → ¬ (G (1 + 4 * j) = so ∧ (so ≠ 0 ∨ G (2 + 4 * j) = la))) := by
  have hs := clF_spec (T := G) (b := 0) (so := so) (la := la) (G 0).toNat 0
  unfold rcHas
  rcases hs with ⟨h1, h2⟩ | ⟨h1, h2, h3, h4⟩
  · refine ⟨by omega, by omega, fun e => by omega, fun _ => ⟨h1, fun j j0 j1 => ?_⟩⟩
    have := h2 j j0 (by omega)
    rw [show (0 : Int) + 1 + 4 * j = 1 + 4 * j by omega, show (0 : Int) + 2 + 4 * j = 2 + 4 * j by omega] at this
    exact this
  · rw [show ∀ q : Int, (0 : Int) + 1 + 4 * q = 1 + 4 * q by intro q; omega, show ∀ q : Int, (0 : Int) + 2 + 4 * q = 2 + 4 * q by intro q; omega] at h3
    exact ⟨by omega, by omega, fun _ => h3, fun e => by omega⟩
theorem rcHas_ent {nm G : Int → Int} {so : Int} {z y : rpS} (h : 0 ≤ G 0) (so' la : Int) : rcHas (rcEnt nm G so z y) so' la = if 0 ≤ rcHas G so' la then rcHas G so' la else if so = so' ∧ (so' ≠ 0 ∨ nm z.1 = la) then G 0 else -1 := by
  have e : clF (rcEnt nm G so z y) 0 so' la (G 0).toNat 0 = rcHas G so' la := clF_cg (G 0).toNat 0 (fun j j0 j1 => ⟨rcEnt_lo (by omega) (by omega), fun _ => rcEnt_lo (by omega) (by omega)⟩)
  unfold rcHas at e ⊢
  rw [rcEnt_0, show (G 0 + 1).toNat = (G 0).toNat + 1 by omega, clF_app _ _ (Int.le_refl _), e, show (0 : Int) + ((G 0).toNat : Int) = G 0 by omega, show (0 : Int) + 1 + 4 * G 0 = 1 + 4 * G 0 by omega, show (0 : Int) + 2 + 4 * G 0 = 2 + 4 * G 0 by omega, rcEnt_1 h, rcEnt_2 h]
/-! What a clause's body keeps. -/
def rpKw (tn : Int) (z y : rpS) : Prop := z.1 ≤ y.1 ∧ z.2.2 ≤ y.2.2 ∧ y.2.2 - z.2.2 ≤ y.1 - z.1 ∧ y.1 ≤ tn ∧ ∀ j, j < z.2.2 → y.2.1 j = z.2.1 j
theorem rpKw_tr {tn : Int} {z y x : rpS} (h : rpKw tn z y) (g : rpKw tn y x) : rpKw tn z x := by
  obtain ⟨h1, h2, h3, h4, h5⟩ := h
  obtain ⟨g1, g2, g3, g4, g5⟩ := g
  exact ⟨by omega, by omega, by omega, g4, fun j hj => (g5 j (by omega)).trans (h5 j hj)⟩
theorem rpKw_K {tn : Int} {z y : rpS} (h : rpK tn z y) : rpKw tn z y := by
  obtain ⟨h1, h2, h3, h4, h5⟩ := h
  exact ⟨by omega, by omega, h3, h4, h5⟩
theorem rpKw_nx {tn : Int} {z : rpS} (h : z.1 + 1 ≤ tn) : rpKw tn z (rpNx z) := ⟨by show z.1 ≤ z.1 + 1; omega, Int.le_refl _, by show z.2.2 - z.2.2 ≤ z.1 + 1 - z.1; omega, h, fun _ _ => rfl⟩
section RC
variable {k nm G : Int → Int} {tn : Int}
theorem rc_43 (hk : ∀ a, tn ≤ a → k a = 43) {a : Int} (h : k a ≠ 43) : a + 1 ≤ tn := by
  rcases Int.lt_or_le a tn with g | g
  · omega
  · exact absurd (hk _ g) h
theorem rcFig_K (hk : ∀ a, tn ≤ a → k a = 43) {lo hi : Int} {z y : rpS} (h : rcFig k nm lo hi z = (0, y)) : rpKw tn z y ∧ y = rpNx z ∧ (lo ≤ nm z.1 ∧ nm z.1 ≤ hi) := by
  unfold rcFig at h
  split at h
  · rename_i g
    split at h
    · rename_i g2
      cases h
      exact ⟨rpKw_nx (rc_43 hk (by omega)), rfl, g2⟩
    · cases h
  · cases h
theorem rcWd_K (hk : ∀ a, tn ≤ a → k a = 43) {q : Int} (hq : q ≠ 43) {z y : rpS} (h : rcWd k q z = (0, y)) : rpKw tn z y ∧ y = rpNx z := by
  unfold rcWd at h
  split at h
  · cases h
    exact ⟨rpKw_nx (rc_43 hk (by omega)), rfl⟩
  · cases h
theorem rpEi_Kw (hk : ∀ a, tn ≤ a → k a = 43) {w : Int} {n : Nat} {z y : rpS} (h : rpEi k nm w n false false z = (0, y)) : rpKw tn z y ∧ z.2.2 < y.2.2 := by
  obtain ⟨a1, a2, a3, a4, a5⟩ := rpEi_K hk n false false z y h
  have e0 : bI (false = true) = 0 := bI_f (by decide)
  exact ⟨⟨by omega, by omega, by omega, a4, a5⟩, by omega⟩
/-- the numbers of a clause that was read -/
def rcNs (nm : Int → Int) (so : Int) (z : rpS) : Prop := (so = 0 → 0 ≤ nm z.1 ∧ nm z.1 ≤ 5) ∧ (so = 3 → 1 ≤ nm z.1 ∧ nm z.1 ≤ 2) ∧ (so = 4 → 1 ≤ nm z.1 ∧ nm z.1 ≤ 99) ∧ (so = 5 → (0 ≤ nm z.1 ∧ nm z.1 ≤ 2) ∧ 0 ≤ nm (z.1 + 2) ∧ nm (z.1 + 2) ≤ 9) ∧ (so = 6 → 0 ≤ nm z.1 ∧ nm z.1 ≤ 9) ∧ (so = 7 → (0 ≤ nm z.1 ∧ nm z.1 ≤ 9) ∧ (0 ≤ nm (z.1 + 2) ∧ nm (z.1 + 2) ≤ 2) ∧ 0 ≤ nm (z.1 + 4) ∧ nm (z.1 + 4) ≤ 9)
theorem rcBody_K (hk : ∀ a, tn ≤ a → k a = 43) {so : Int} {z y : rpS} (hz : z.1 ≤ tn) (h : rcBody k nm G so z = (0, y)) : rpKw tn z y ∧ (0 ≤ so ∧ so ≤ 2 → z.2.2 < y.2.2) ∧ rcNs nm so z := by
  unfold rcBody at h
  unfold rcNs
  by_cases e : so = 0
  · rw [if_pos e] at h
    obtain ⟨u, h1, h2⟩ := rpB_0 h
    obtain ⟨g1, g2, g3⟩ := rcFig_K hk h1
    split at h2
    · cases h2
    · obtain ⟨q1, q2⟩ := rpEi_Kw hk h2
      have e2 : u.2.2 = z.2.2 := by rw [g2]; rfl
      refine ⟨rpKw_tr g1 q1, fun _ => by omega, fun _ => g3, ?_⟩
      refine ⟨?_, ?_, ?_, ?_, ?_⟩ <;> (intro q; exfalso; omega)
  · rw [if_neg e] at h
    by_cases e1 : so = 1
    · rw [if_pos e1] at h
      obtain ⟨q1, q2⟩ := rpEi_Kw hk h
      refine ⟨q1, fun _ => q2, ?_⟩
      refine ⟨?_, ?_, ?_, ?_, ?_, ?_⟩ <;> (intro q; exfalso; omega)
    · rw [if_neg e1] at h
      by_cases e2 : so = 2
      · rw [if_pos e2] at h
        obtain ⟨q1, -⟩ := rpSum_K (rpOne_K (nm := nm) (w := 17) hk 8) h
        have q2 := q1.2.1
        refine ⟨rpKw_K q1, fun _ => by omega, ?_⟩
        refine ⟨?_, ?_, ?_, ?_, ?_, ?_⟩ <;> (intro q; exfalso; omega)
      · rw [if_neg e2] at h
        by_cases e3 : so = 3
        · rw [if_pos e3] at h
          obtain ⟨g1, g2, g3⟩ := rcFig_K hk h
          refine ⟨g1, fun _ => by omega, ?_, fun _ => g3, ?_, ?_, ?_, ?_⟩ <;> (intro q; exfalso; omega)
        · rw [if_neg e3] at h
          by_cases e4 : so = 4
          · rw [if_pos e4] at h
            obtain ⟨g1, g2, g3⟩ := rcFig_K hk h
            refine ⟨g1, fun _ => by omega, ?_, ?_, fun _ => g3, ?_, ?_, ?_⟩ <;> (intro q; exfalso; omega)
          · rw [if_neg e4] at h
            by_cases e5 : so = 5
            · rw [if_pos e5] at h
              obtain ⟨u, h1, h2⟩ := rpB_0 h
              obtain ⟨g1, g2, g3⟩ := rcFig_K hk h1
              obtain ⟨u2, h3, h4⟩ := rpB_0 h2
              obtain ⟨q1, q2⟩ := rcWd_K hk (by decide) h3
              obtain ⟨p1, p2, p3⟩ := rcFig_K hk h4
              have e7 : u2.1 = z.1 + 2 := by rw [q2, g2]; show z.1 + 1 + 1 = z.1 + 2; omega
              rw [e7] at p3
              refine ⟨rpKw_tr g1 (rpKw_tr q1 p1), fun _ => by omega, ?_, ?_, ?_, fun _ => ⟨g3, p3⟩, ?_, ?_⟩ <;> (intro q; exfalso; omega)
            · rw [if_neg e5] at h
              by_cases e6 : so = 6
              · rw [if_pos e6] at h
                obtain ⟨g1, g2, g3⟩ := rcFig_K hk h
                refine ⟨g1, fun _ => by omega, ?_, ?_, ?_, ?_, fun _ => g3, ?_⟩ <;> (intro q; exfalso; omega)
              · rw [if_neg e6] at h
                by_cases e7 : so = 7
                · rw [if_pos e7] at h
                  obtain ⟨u, h1, h2⟩ := rpB_0 h
                  obtain ⟨g1, g2, g3⟩ := rcFig_K hk h1
                  obtain ⟨u2, h3, h4⟩ := rpB_0 h2
                  obtain ⟨q1, q2⟩ := rcWd_K hk (by decide) h3
                  obtain ⟨u3, h5, h6⟩ := rpB_0 h4
                  obtain ⟨p1, p2, p3⟩ := rcFig_K hk h5
                  obtain ⟨u4, h7, h8⟩ := rpB_0 h6
                  obtain ⟨r1, r2⟩ := rcWd_K hk (by decide) h7
                  obtain ⟨t1, t2, t3⟩ := rcFig_K hk h8
                  have a7 : u2.1 = z.1 + 2 := by rw [q2, g2]; show z.1 + 1 + 1 = z.1 + 2; omega
                  have a8 : u4.1 = z.1 + 4 := by rw [r2, p2]; show u2.1 + 1 + 1 = z.1 + 4; omega
                  rw [a7] at p3
                  rw [a8] at t3
                  refine ⟨rpKw_tr g1 (rpKw_tr q1 (rpKw_tr p1 (rpKw_tr r1 t1))), fun _ => by omega, ?_, ?_, ?_, ?_, ?_, fun _ => ⟨g3, p3, t3⟩⟩ <;> (intro q; exfalso; omega)
                · rw [if_neg e7] at h
                  cases h
                  refine ⟨⟨Int.le_refl _, Int.le_refl _, by omega, hz, fun _ _ => rfl⟩, fun _ => by omega, ?_⟩
                  refine ⟨?_, ?_, ?_, ?_, ?_, ?_⟩ <;> (intro q; exfalso; omega)
end RC
