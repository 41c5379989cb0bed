/-! THE FALL on both sides. -/
theorem kbb_hit {A T : Int → Int} {x b : Int} (hB : okB A) (hx0 : 0 ≤ x) (hx1 : x < 3) {p : Nat} (hp : (p : Int) < A (13 + x)) (hb : A (16 + 10 * x + p) = b) (hf : fallP A T (A (16 + 10 * x + p)) x p (A (13 + x)) = 1) : ∀ j : Nat, (j : Int) < A (13 + x) → kbb A T x (b + 1) j = kdel (kbb A T x b) p j := by
  intro j hj
  unfold kdel kbb
  by_cases q : (j : Int) = p
  · rw [if_pos q, if_pos ⟨by omega, hj, by rw [q]; exact hf, by rw [q, hb]; omega⟩]
  · rw [if_neg q]
    have hne : A (16 + 10 * x + j) ≠ b := by
      rw [← hb]
      rcases (by omega : (j : Int) < p ∨ (p : Int) < j) with z | z
      · exact hB.2.2.2.1 x j p hx0 hx1 (by omega) z hp
      · exact fun w => hB.2.2.2.1 x p j hx0 hx1 (by omega) z hj w.symm
    by_cases q2 : 0 ≤ (j : Int) ∧ (j : Int) < A (13 + x) ∧ fallP A T (A (16 + 10 * x + j)) x j (A (13 + x)) = 1 ∧ A (16 + 10 * x + j) < b
    · rw [if_pos q2, if_pos ⟨q2.1, q2.2.1, q2.2.2.1, by omega⟩]
    · rw [if_neg q2, if_neg (fun z => q2 ⟨z.1, z.2.1, z.2.2.1, by omega⟩)]
theorem kbb_miss {A T : Int → Int} {x b : Int} (h : ¬ ∃ p : Nat, p < (A (13 + x)).toNat ∧ A (16 + 10 * x + p) = b ∧ fallP A T (A (16 + 10 * x + p)) x p (A (13 + x)) = 1) : ∀ j : Nat, (j : Int) < A (13 + x) → kbb A T x (b + 1) j = kbb A T x b j := by
  intro j hj
  unfold kbb
  by_cases q2 : 0 ≤ (j : Int) ∧ (j : Int) < A (13 + x) ∧ fallP A T (A (16 + 10 * x + j)) x j (A (13 + x)) = 1 ∧ A (16 + 10 * x + j) < b
  · rw [if_pos q2, if_pos ⟨q2.1, q2.2.1, q2.2.2.1, by omega⟩]
  · rw [if_neg q2, if_neg (fun z => ?_)]
    by_cases q3 : A (16 + 10 * x + j) = b
    · exact h ⟨j, by omega, q3, z.2.2.1⟩
    · exact q2 ⟨z.1, z.2.1, z.2.2.1, by omega⟩
theorem kbb_all {A T : Int → Int} {x b : Int} (hB : okB A) (hx0 : 0 ≤ x) (hx1 : x < 3) (hb : A 0 ≤ b) : ∀ j : Nat, (j : Int) < A (13 + x) → kap A T x (A (13 + x)) j = kbb A T x b j := by
  intro j hj
  have g := hB.2.2.1 x j hx0 hx1 (by omega) hj
  unfold kap kbb
  by_cases q : 0 ≤ (j : Int) ∧ (j : Int) < A (13 + x) ∧ fallP A T (A (16 + 10 * x + j)) x j (A (13 + x)) = 1
  · rw [if_pos q, if_pos ⟨q.1, q.2.1, q.2.2, by omega⟩]
  · rw [if_neg q, if_neg (fun z => q ⟨z.1, z.2.1, z.2.2.1⟩)]
theorem sp_224 {d L t : Nat} {s l : Nat → Int → Int} {A T : Int → Int} (hJ : JM s A T) (hK : KA A T) : ∃ s1 l1, mm_Ev mm_ct mm_CM (d + 7) 224 [.ref 598] (MX L t s l) (some (.int (iI (fallAll A T 3).2)), MX L t s1 l1) ∧ (∀ c, c ≠ 599 ∧ c ≠ 604 ∧ c ≠ 606 → s1 c = s c) ∧ (∀ c, c ≠ 605 → l1 c = l c) ∧ JM s1 (fallAll A T 3).1 T := by
  have hc : (mm_CM 224).2.2.2.2.2.2.2 = mm_cf cd_224 := by rw [cm_224]; rfl
  refine ev_xsl ?_
  refine ev_to (mx := 3) (by rw [cm_224]; decide) (by rw [cm_224]; rfl) (by show 1 ≤ _; decide) ?_
  show mm_wp _ _ (0, [some (.ref 598), none, none], [], MX L t s l) (fun res => ∃ s1 l1, res = (some (.int (iI (fallAll A T 3).2)), MX L t s1 l1) ∧ (∀ c, c ≠ 599 ∧ c ≠ 604 ∧ c ≠ 606 → s1 c = s c) ∧ (∀ c, c ≠ 605 → l1 c = l c) ∧ JM s1 (fallAll A T 3).1 T)
  refine wi_ic hc rfl ?_
  refine wi_is1 (L' := [some (.ref 598), some (.int (iI 0)), none]) hc rfl (Nat.le_of_ble_eq_true rfl) rfl ?_
  refine wi_ic hc rfl ?_
  refine wi_is1 (L' := [some (.ref 598), some (.int (iI 0)), some (.int (iI 0))]) hc rfl (Nat.le_of_ble_eq_true rfl) rfl ?_
  have loop4_ : ∀ x : Int, x ≤ 3 → 0 ≤ x → ∀ (B : Int → Int) (f : Int) (s2 l2 : Nat → Int → Int), B = (fallAll A T x.toNat).1 → f = (fallAll A T x.toNat).2 → KA B T → (∀ c, c ≠ 599 ∧ c ≠ 604 ∧ c ≠ 606 → s2 c = s c) → (∀ c, c ≠ 605 → l2 c = l c) → JM s2 B T → mm_wp (mm_Ev mm_ct mm_CM (d + 6)) 224 (4, [some (.ref 598), some (.int (iI f)), some (.int (iI x))], [], MX L t s2 l2) (fun res => ∃ s1 l1, res = (some (.int (iI (fallAll A T 3).2)), MX L t s1 l1) ∧ (∀ c, c ≠ 599 ∧ c ≠ 604 ∧ c ≠ 606 → s1 c = s c) ∧ (∀ c, c ≠ 605 → l1 c = l c) ∧ JM s1 (fallAll A T 3).1 T) := by
    refine up_ind ?_
    intro x hx ih hx0 B f s2 l2 hB hf hKB hF hG hJ2
    refine wi_i1 hc rfl rfl ?_
    refine wi_ic hc rfl ?_
    refine wi_cge hc rfl ⟨by omega, by omega⟩ ⟨by decide, by decide⟩ (fun h1_ => ?_) (fun h1_ => ?_)
    · refine wi_i1 hc rfl rfl ?_
      refine wi_ri hc rfl (by rw [cm_224]; rfl) ?_
      have e3 : x = 3 := by omega
      subst e3
      refine ⟨s2, l2, ?_, hF, hG, ?_⟩
      · rw [hf]; rfl
      · rw [hB] at hJ2; exact hJ2
    · refine wi_i1 hc rfl rfl ?_
      refine wi_a1 hc rfl rfl ?_
      refine wi_i1 hc rfl rfl ?_
      obtain ⟨s1_, l1_, hE1_, hF1_, hG1_, hJ1_⟩ := sp_223 (d := 0) (L := L) (t := t) (l := l2) hJ2 hKB (x := x) (by omega) (by omega)
      refine wp_cv (b := 598) (As := [.int (iI x)]) (r := [.int (iI f)]) hc rfl (by rw [cm_223]; rfl) rfl (Nat.le_of_ble_eq_true rfl) (show 598 < 621 by decide) (by rw [cm_223]; rfl) (ev_mono hE1_ (by omega)) ?_
      have hfo := fallF_ok hKB.1 hKB.2.1 (by have := hKB.2.2.1.2.2.2.2.1 x (by omega) (by omega); omega) (x := x) (by omega) (by omega)
      have hK1_ : KA (fallF B T x) T := hfo.1.KA hKB hfo.2.1
      have hbx := hKB.2.1.2.1 x (by omega) (by omega)
      show mm_wp _ _ (15, [some (.ref 598), some (.int (iI f)), some (.int (iI x))], [.int (iI (B (13 + x) - fallF B T x (13 + x))), .int (iI f)], MX L t s1_ l1_) _
      refine wi_add hc rfl ?_
      refine wi_is1 (L' := [some (.ref 598), some (.int (iI (f + (B (13 + x) - fallF B T x (13 + x))))), some (.int (iI x))]) hc rfl (Nat.le_of_ble_eq_true rfl) rfl ?_
      refine wi_inc (L' := [some (.ref 598), some (.int (iI (f + (B (13 + x) - fallF B T x (13 + x))))), some (.int (iI (x + 1)))]) hc rfl rfl rfl ?_
      refine wi_go hc rfl ?_
      refine ih (by omega) (by omega) _ _ s1_ l1_ ?_ ?_ hK1_ (fun c hc9_ => (hF1_ c (by omega)).trans (hF c (by omega))) (fun c hc9_ => (hG1_ c (by omega)).trans (hG c (by omega))) hJ1_
      · rw [show (x + 1).toNat = x.toNat + 1 by omega, fallAll, ← hB, show ((x.toNat : Nat) : Int) = x by omega]
      · rw [show (x + 1).toNat = x.toNat + 1 by omega, fallAll, ← hB, ← hf, show ((x.toNat : Nat) : Int) = x by omega]
  exact loop4_ 0 (by omega) (by omega) A 0 s l rfl rfl hK (fun c _ => rfl) (fun c _ => rfl) hJ
theorem sp_139 {d L t : Nat} {s l : Nat → Int → Int} {A T : Int → Int} (hJ : JC s A T) (hK : KA A T) : ∃ s1, mm_Ev mm_ct mm_CM (d + 5) 139 [.ref 0] (MX L t s l) (some (.int (iI (fallAll A T 3).2)), MX L t s1 l) ∧ (∀ c, ¬ (4 ≤ c ∧ c ≤ 8) ∧ c ≠ 578 ∧ c ≠ 579 → s1 c = s c) ∧ JC s1 (fallAll A T 3).1 T := by
  have hc : (mm_CM 139).2.2.2.2.2.2.2 = mm_cf cd_139 := by rw [cm_139]; rfl
  refine ev_xs ?_
  refine ev_to (mx := 9) (by rw [cm_139]; decide) (by rw [cm_139]; rfl) (by show 1 ≤ _; decide) ?_
  show mm_wp _ _ (0, [some (.ref 0), none, none, none, none, none, none, none, none], [], MX L t s l) (fun res => ∃ s1, res = (some (.int (iI (fallAll A T 3).2)), MX L t s1 l) ∧ (∀ c, ¬ (4 ≤ c ∧ c ≤ 8) ∧ c ≠ 578 ∧ c ≠ 579 → s1 c = s c) ∧ JC s1 (fallAll A T 3).1 T)
  have hV := hK.1
  refine wi_a1 hc rfl rfl ?_
  refine wi_gr (w := 1) hc rfl rfl (by decide) (Nat.le_of_ble_eq_true rfl) rfl ?_
  refine wi_gr (w := 2) hc rfl rfl (by decide) (Nat.le_of_ble_eq_true rfl) rfl ?_
  refine wi_as1 (L' := [some (.ref 0), some (.ref 2), none, none, none, none, none, none, none]) hc rfl (Nat.le_of_ble_eq_true rfl) rfl ?_
  refine wi_ic hc rfl ?_
  refine wi_is1 (L' := [some (.ref 0), some (.ref 2), some (.int (iI 0)), none, none, none, none, none, none]) hc rfl (Nat.le_of_ble_eq_true rfl) rfl ?_
  refine wi_ic hc rfl ?_
  refine wi_is1 (L' := [some (.ref 0), some (.ref 2), some (.int (iI 0)), some (.int (iI 0)), none, none, none, none, none]) hc rfl (Nat.le_of_ble_eq_true rfl) rfl ?_
  have loop12_ : ∀ x : Int, x ≤ 3 → 0 ≤ x → ∀ (B : Int → Int) (f : Int) (q4 q5 q6 q7 q8 : Option Value) (s2 : Nat → Int → Int), B = (fallAll A T x.toNat).1 → f = (fallAll A T x.toNat).2 → KA B T → mv A B → (∀ c, ¬ (4 ≤ c ∧ c ≤ 8) ∧ c ≠ 578 ∧ c ≠ 579 → s2 c = s c) → JC s2 B T → mm_wp (mm_Ev mm_ct mm_CM (d + 4)) 139 (12, [some (.ref 0), some (.ref 2), some (.int (iI f)), some (.int (iI x)), q4, q5, q6, q7, q8], [], MX L t s2 l) (fun res => ∃ s1, res = (some (.int (iI (fallAll A T 3).2)), MX L t s1 l) ∧ (∀ c, ¬ (4 ≤ c ∧ c ≤ 8) ∧ c ≠ 578 ∧ c ≠ 579 → s1 c = s c) ∧ JC s1 (fallAll A T 3).1 T) := by
    refine up_ind ?_
    intro x hx ih hx0 B f q4 q5 q6 q7 q8 s2 hB hf hKB hmB hF hJ2
    have hBB := hKB.2.1
    have hB00 := hBB.1
    refine wi_i1 hc rfl rfl ?_
    refine wi_ic hc rfl ?_
    refine wi_cge hc rfl ⟨by omega, by omega⟩ ⟨by decide, by decide⟩ (fun h1_ => ?_) (fun h1_ => ?_)
    · refine wi_i1 hc rfl rfl ?_
      refine wi_ri hc rfl (by rw [cm_139]; rfl) ?_
      have e3 : x = 3 := by omega
      subst e3
      refine ⟨s2, ?_, hF, ?_⟩
      · rw [hf]; rfl
      · rw [hB] at hJ2; exact hJ2
    · have hx3 : x < 3 := by omega
      have hm9 := hBB.2.1 x hx0 hx3
      have hfs := fallS_r hBB hx0 hx3 (T := T) (B (13 + x)).toNat (by omega)
      refine wi_a1 hc rfl rfl ?_
      refine wi_gr (w := 7) hc rfl rfl (by decide) (Nat.le_of_ble_eq_true rfl) rfl ?_
      refine wi_i1 hc rfl rfl ?_
      refine wi_ildv (N := 3) hc rfl rfl (by decide) (by decide) (by omega) (by omega) (v := B (13 + x)) (lb_many hJ2.1 (by omega) (by omega)) ?_
      refine wi_is2 (L' := [some (.ref 0), some (.ref 2), some (.int (iI f)), some (.int (iI x)), some (.int (iI (B (13 + x)))), q5, q6, q7, q8]) hc rfl (Nat.le_of_ble_eq_true rfl) rfl ?_
      refine wi_a1 hc rfl rfl ?_
      refine wi_gr (w := 577) hc rfl rfl (by decide) (Nat.le_of_ble_eq_true rfl) rfl ?_
      refine wi_a1 hc rfl rfl ?_
      refine wi_gr (w := 1) hc rfl rfl (by decide) (Nat.le_of_ble_eq_true rfl) rfl ?_
      refine wi_i1 hc rfl rfl ?_
      obtain ⟨s1_, hE1_, hF1_, hJ1_⟩ := sp_5 (d := 0) (L := L) (t := t) (l := l) hJ2 hKB (x := x) (by omega) (by omega)
      refine wp_cv (b := 577) (As := [.ref 1, .int (iI x)]) (r := []) hc rfl (by rw [cm_5]; rfl) rfl (Nat.le_of_ble_eq_true rfl) (show 577 < 621 by decide) (by rw [cm_5]; rfl) (ev_mono hE1_ (by omega)) ?_
      show mm_wp _ _ (37, [some (.ref 0), some (.ref 2), some (.int (iI f)), some (.int (iI x)), some (.int (iI (B (13 + x)))), q5, q6, q7, q8], [.int (iI (fallS B T x (B (13 + x)).toNat))], MX L t s1_ l) _
      refine wi_is2 (L' := [some (.ref 0), some (.ref 2), some (.int (iI f)), some (.int (iI x)), some (.int (iI (B (13 + x)))), some (.int (iI (fallS B T x (B (13 + x)).toNat))), q6, q7, q8]) hc rfl (Nat.le_of_ble_eq_true rfl) rfl ?_
      refine wi_ic hc rfl ?_
      refine wi_is2 (L' := [some (.ref 0), some (.ref 2), some (.int (iI f)), some (.int (iI x)), some (.int (iI (B (13 + x)))), some (.int (iI (fallS B T x (B (13 + x)).toNat))), some (.int (iI 0)), q7, q8]) hc rfl (Nat.le_of_ble_eq_true rfl) rfl ?_
      have loop42_ : ∀ b : Int, b ≤ B 0 → 0 ≤ b → ∀ (q7 q8 : Option Value) (C : Int → Int) (s3 : Nat → Int → Int), FIL B C x (kbb B T x b) → KA C T → (∀ c, ¬ (4 ≤ c ∧ c ≤ 8) ∧ c ≠ 578 ∧ c ≠ 579 → s3 c = s c) → JC s3 C T → mm_wp (mm_Ev mm_ct mm_CM (d + 4)) 139 (42, [some (.ref 0), some (.ref 2), some (.int (iI f)), some (.int (iI x)), some (.int (iI (B (13 + x)))), some (.int (iI (fallS B T x (B (13 + x)).toNat))), some (.int (iI b)), q7, q8], [], MX L t s3 l) (fun res => ∃ s1, res = (some (.int (iI (fallAll A T 3).2)), MX L t s1 l) ∧ (∀ c, ¬ (4 ≤ c ∧ c ≤ 8) ∧ c ≠ 578 ∧ c ≠ 579 → s1 c = s c) ∧ JC s1 (fallAll A T 3).1 T) := by
        refine up_ind ?_
        intro b hb ih2 hb0 q7 q8 C s3 hfil hKC hF3 hJ3
        have h0C : C 0 = B 0 := hfil.1.lo (by decide)
        have hbit := fallS_bit hBB hx0 hx3 hb0 (T := T) (B (13 + x)).toNat (by omega)
        refine wi_i2 hc rfl rfl ?_
        refine wi_a1 hc rfl rfl ?_
        refine wi_gr (w := 1) hc rfl rfl (by decide) (Nat.le_of_ble_eq_true rfl) rfl ?_
        refine wi_gfv (kz := 8) rfl hc rfl rfl (by decide) (Nat.le_of_ble_eq_true rfl) rfl (v := C 0) (lb_books hJ3.1) ?_
        refine wi_cge hc rfl ⟨by omega, by omega⟩ ⟨by omega, by omega⟩ (fun h2_ => ?_) (fun h2_ => ?_)
        · have hfil2 := hfil.congr (kap_01 B T x (B (13 + x))) (kbb_all hBB hx0 hx3 (b := b) (by omega))
          obtain ⟨fD, fD1, fD2, fD3, fD4⟩ := filF_ok (T := T) hBB hx0 hx3 (B (13 + x)).toNat (by omega)
          rw [show (((B (13 + x)).toNat : Nat) : Int) = B (13 + x) by omega] at fD
          obtain ⟨D, hD⟩ : ∃ D, D = (filF B T x (B (13 + x)).toNat).1 := ⟨_, rfl⟩
          rw [← hD] at fD
          have hJD : JC s3 D T := ⟨hJ3.1.eqv hKC (hfil2.eqv hBB hx0 hx3 fD), hJ3.2⟩
          have hKD : KA D T := fD.1.KA hKB fD.2.1
          have hmD : mv A D := hmB.tr fD.1
          have hdd : fallF B T x = trim T x 10 D := by unfold fallF; rw [hD]
          have hD13 := hKD.2.1.2.1 x hx0 hx3
          have hfr0 := fullN_r hKD.1 hKD.2.1 hx0 hx3 (D (13 + x)).toNat (by omega)
          have hfd0 : fullP D T x = fullN D T x (D (13 + x)).toNat := rfl
          refine wi_a1 hc rfl rfl ?_
          refine wi_gr (w := 577) hc rfl rfl (by decide) (Nat.le_of_ble_eq_true rfl) rfl ?_
          refine wi_a1 hc rfl rfl ?_
          refine wi_gr (w := 1) hc rfl rfl (by decide) (Nat.le_of_ble_eq_true rfl) rfl ?_
          refine wi_i1 hc rfl rfl ?_
          obtain ⟨s2_, hE2_, hF2_, hJ2_⟩ := sp_4 (d := 0) (L := L) (t := t) (l := l) hJD hKD.1 (x := x) (by omega) (by omega) (hKD.2.1.2.1 _ (by omega) (by omega)).1 (hKD.2.1.2.1 _ (by omega) (by omega)).2 (fun p p0 p1 => ⟨(hKD.2.1.2.2.1 _ p (by omega) (by omega) p0 p1).1, (hKD.2.1.2.2.1 _ p (by omega) (by omega) p0 p1).2.1⟩)
          refine wp_cv (b := 577) (As := [.ref 1, .int (iI x)]) (r := []) hc rfl (by rw [cm_4]; rfl) rfl (Nat.le_of_ble_eq_true rfl) (show 577 < 621 by decide) (by rw [cm_4]; rfl) (ev_mono hE2_ (by omega)) ?_
          show mm_wp _ _ (89, [some (.ref 0), some (.ref 2), some (.int (iI f)), some (.int (iI x)), some (.int (iI (B (13 + x)))), some (.int (iI (fallS B T x (B (13 + x)).toNat))), some (.int (iI b)), q7, q8], [.int (iI (fullP D T x))], MX L t s2_ l) _
          refine wi_is2 (L' := [some (.ref 0), some (.ref 2), some (.int (iI f)), some (.int (iI x)), some (.int (iI (B (13 + x)))), some (.int (iI (fallS B T x (B (13 + x)).toNat))), some (.int (iI (fullP D T x))), q7, q8]) hc rfl (Nat.le_of_ble_eq_true rfl) rfl ?_
          refine wi_a1 hc rfl rfl ?_
          refine wi_gr (w := 7) hc rfl rfl (by decide) (Nat.le_of_ble_eq_true rfl) rfl ?_
          refine wi_i1 hc rfl rfl ?_
          refine wi_ildv (N := 3) hc rfl rfl (by decide) (by decide) (by omega) (by omega) (v := D (13 + x)) (lb_many hJ2_.1 (by omega) (by omega)) ?_
          refine wi_ic hc rfl ?_
          refine wi_sub hc rfl ?_
          refine wi_is2 (L' := [some (.ref 0), some (.ref 2), some (.int (iI f)), some (.int (iI x)), some (.int (iI (B (13 + x)))), some (.int (iI (fallS B T x (B (13 + x)).toNat))), some (.int (iI (fullP D T x))), some (.int (iI ((D (13 + x)) - 1))), q8]) hc rfl (Nat.le_of_ble_eq_true rfl) rfl ?_
          have loop101_ : ∀ (m n : Nat) (E : Int → Int) (i fl : Int) (s4 : Nat → Int → Int) (q8 : Option Value), E (13 + x) = m → i = E (13 + x) - 1 → fl = fullP E T x → m ≤ n → KA E T → mv A E → trim T x n E = fallF B T x → (∀ c, ¬ (4 ≤ c ∧ c ≤ 8) ∧ c ≠ 578 ∧ c ≠ 579 → s4 c = s c) → JC s4 E T → mm_wp (mm_Ev mm_ct mm_CM (d + 4)) 139 (101, [some (.ref 0), some (.ref 2), some (.int (iI f)), some (.int (iI x)), some (.int (iI (B (13 + x)))), some (.int (iI (fallS B T x (B (13 + x)).toNat))), some (.int (iI fl)), some (.int (iI i)), q8], [], MX L t s4 l) (fun res => ∃ s1, res = (some (.int (iI (fallAll A T 3).2)), MX L t s1 l) ∧ (∀ c, ¬ (4 ≤ c ∧ c ≤ 8) ∧ c ≠ 578 ∧ c ≠ 579 → s1 c = s c) ∧ JC s1 (fallAll A T 3).1 T) := by
            intro m
            induction m using Nat.strongRecOn with
            | ind m ihm =>
            intro n E i fl s4 q8 hEm hi hfl hmn hKE hmE htr hF4 hJ4
            have hwE : E (10 + x) = A (10 + x) := hmE.lo (by omega)
            have hw9 := hK.2.2.1.2.2.2.2.1 x hx0 hx3
            have hE13 := hKE.2.1.2.1 x hx0 hx3
            have hfr := fullN_r hKE.1 hKE.2.1 hx0 hx3 (E (13 + x)).toNat (by omega)
            have hfd : fullP E T x = fullN E T x (E (13 + x)).toNat := rfl
            have h0E : E 0 = A 0 := hmE.lo (by decide)
            refine wi_i2 hc rfl rfl ?_
            refine wi_zlt hc rfl ⟨by omega, by omega⟩ (fun h3_ => ?_) (fun h3_ => ?_)
            · refine wi_i1 hc rfl rfl ?_
              refine wi_i2 hc rfl rfl ?_
              refine wi_a1 hc rfl rfl ?_
              refine wi_gr (w := 7) hc rfl rfl (by decide) (Nat.le_of_ble_eq_true rfl) rfl ?_
              refine wi_i1 hc rfl rfl ?_
              refine wi_ildv (N := 3) hc rfl rfl (by decide) (by decide) (by omega) (by omega) (v := E (13 + x)) (lb_many hJ4.1 (by omega) (by omega)) ?_
              refine wi_sub hc rfl ?_
              refine wi_add hc rfl ?_
              refine wi_is1 (L' := [some (.ref 0), some (.ref 2), some (.int (iI (f + ((B (13 + x)) - (E (13 + x)))))), some (.int (iI x)), some (.int (iI (B (13 + x)))), some (.int (iI (fallS B T x (B (13 + x)).toNat))), some (.int (iI fl)), some (.int (iI i)), q8]) hc rfl (Nat.le_of_ble_eq_true rfl) rfl ?_
              refine wi_inc (L' := [some (.ref 0), some (.ref 2), some (.int (iI (f + ((B (13 + x)) - (E (13 + x)))))), some (.int (iI (x + 1))), some (.int (iI (B (13 + x)))), some (.int (iI (fallS B T x (B (13 + x)).toNat))), some (.int (iI fl)), some (.int (iI i)), q8]) hc rfl rfl rfl ?_
              refine wi_go hc rfl ?_
              have hst := trim_stop (T := T) (x := x) (A := E) (by omega) n
              rw [hst] at htr
              have hfB : (fallAll A T (x + 1).toNat).1 = E := by
                rw [show (x + 1).toNat = x.toNat + 1 by omega, fallAll, ← hB, show ((x.toNat : Nat) : Int) = x by omega]
                exact htr.symm
              refine ih (by omega) (by omega) E _ _ _ _ _ _ s4 hfB.symm ?_ hKE hmE (fun c hc9_ => hF4 c (by omega)) hJ4
              rw [show (x + 1).toNat = x.toNat + 1 by omega, fallAll, ← hB, ← hf, show ((x.toNat : Nat) : Int) = x by omega, ← htr]
            · refine wi_i2 hc rfl rfl ?_
              refine wi_a1 hc rfl rfl ?_
              refine wi_gr (w := 1) hc rfl rfl (by decide) (Nat.le_of_ble_eq_true rfl) rfl ?_
              refine wi_gr (w := 11) hc rfl rfl (by decide) (Nat.le_of_ble_eq_true rfl) rfl ?_
              refine wi_i1 hc rfl rfl ?_
              refine wi_ildv (N := 3) hc rfl rfl (by decide) (by decide) (by omega) (by omega) (v := E (10 + x)) (lb_wid hJ4.1 (by omega) (by omega)) ?_
              refine wi_cle hc rfl ⟨by omega, by omega⟩ ⟨by omega, by omega⟩ (fun h4_ => ?_) (fun h4_ => ?_)
              · refine wi_i1 hc rfl rfl ?_
                refine wi_i2 hc rfl rfl ?_
                refine wi_a1 hc rfl rfl ?_
                refine wi_gr (w := 7) hc rfl rfl (by decide) (Nat.le_of_ble_eq_true rfl) rfl ?_
                refine wi_i1 hc rfl rfl ?_
                refine wi_ildv (N := 3) hc rfl rfl (by decide) (by decide) (by omega) (by omega) (v := E (13 + x)) (lb_many hJ4.1 (by omega) (by omega)) ?_
                refine wi_sub hc rfl ?_
                refine wi_add hc rfl ?_
                refine wi_is1 (L' := [some (.ref 0), some (.ref 2), some (.int (iI (f + ((B (13 + x)) - (E (13 + x)))))), some (.int (iI x)), some (.int (iI (B (13 + x)))), some (.int (iI (fallS B T x (B (13 + x)).toNat))), some (.int (iI fl)), some (.int (iI i)), q8]) hc rfl (Nat.le_of_ble_eq_true rfl) rfl ?_
                refine wi_inc (L' := [some (.ref 0), some (.ref 2), some (.int (iI (f + ((B (13 + x)) - (E (13 + x)))))), some (.int (iI (x + 1))), some (.int (iI (B (13 + x)))), some (.int (iI (fallS B T x (B (13 + x)).toNat))), some (.int (iI fl)), some (.int (iI i)), q8]) hc rfl rfl rfl ?_
                refine wi_go hc rfl ?_
                have hst := trim_stop (T := T) (x := x) (A := E) (by omega) n
                rw [hst] at htr
                have hfB : (fallAll A T (x + 1).toNat).1 = E := by
                  rw [show (x + 1).toNat = x.toNat + 1 by omega, fallAll, ← hB, show ((x.toNat : Nat) : Int) = x by omega]
                  exact htr.symm
                refine ih (by omega) (by omega) E _ _ _ _ _ _ s4 hfB.symm ?_ hKE hmE (fun c hc9_ => hF4 c (by omega)) hJ4
                rw [show (x + 1).toNat = x.toNat + 1 by omega, fallAll, ← hB, ← hf, show ((x.toNat : Nat) : Int) = x by omega, ← htr]
              · refine wi_a1 hc rfl rfl ?_
                refine wi_gr (w := 3) hc rfl rfl (by decide) (Nat.le_of_ble_eq_true rfl) rfl ?_
                refine wi_i1 hc rfl rfl ?_
                refine wi_ald (w := 4 + x.toNat) (N := 3) hc rfl (Nat.le_of_ble_eq_true rfl) (Nat.le_of_ble_eq_true rfl) (by decide) rfl (by decide) (by omega) (by omega) (sh_row3 (by omega) (by omega)) ?_
                refine wi_i2 hc rfl rfl ?_
                refine wi_ildv (N := 10) hc rfl (sh_rows (by omega) (by omega)) (by omega) (by decide) (by omega) (by omega) (v := E (16 + 10 * x + i)) (lb_row hJ4.1 (by omega) (by omega) (by omega) (by omega) (by omega)) ?_
                refine wi_is2 (L' := [some (.ref 0), some (.ref 2), some (.int (iI f)), some (.int (iI x)), some (.int (iI (B (13 + x)))), some (.int (iI (fallS B T x (B (13 + x)).toNat))), some (.int (iI fl)), some (.int (iI i)), some (.int (iI (E (16 + 10 * x + i))))]) hc rfl (Nat.le_of_ble_eq_true rfl) rfl ?_
                have glast := hKE.2.1.2.2.1 x i hx0 hx3 (by omega) (by omega)
                refine wi_i2 hc rfl rfl ?_
                refine wi_a1 hc rfl rfl ?_
                refine wi_gr (w := 577) hc rfl rfl (by decide) (Nat.le_of_ble_eq_true rfl) rfl ?_
                refine wi_a1 hc rfl rfl ?_
                refine wi_gr (w := 1) hc rfl rfl (by decide) (Nat.le_of_ble_eq_true rfl) rfl ?_
                refine wi_i2 hc rfl rfl ?_
                obtain ⟨s3_, hE3_, hF3_, hJ3_⟩ := sp_3 (d := 0) (L := L) (t := t) (l := l) hJ4 hKE.1 (b := E (16 + 10 * x + i)) (by omega) (by omega)
                refine wp_cv (b := 577) (As := [.ref 1, .int (iI (E (16 + 10 * x + i)))]) (r := [.int (iI fl)]) hc rfl (by rw [cm_3]; rfl) rfl (Nat.le_of_ble_eq_true rfl) (show 577 < 621 by decide) (by rw [cm_3]; rfl) (ev_mono hE3_ (by omega)) ?_
                show mm_wp _ _ (146, [some (.ref 0), some (.ref 2), some (.int (iI f)), some (.int (iI x)), some (.int (iI (B (13 + x)))), some (.int (iI (fallS B T x (B (13 + x)).toNat))), some (.int (iI fl)), some (.int (iI i)), some (.int (iI (E (16 + 10 * x + i))))], [.int (iI (thickP E T (E (16 + 10 * x + i)))), .int (iI fl)], MX L t s3_ l) _
                refine wi_sub hc rfl ?_
                refine wi_is2 (L' := [some (.ref 0), some (.ref 2), some (.int (iI f)), some (.int (iI x)), some (.int (iI (B (13 + x)))), some (.int (iI (fallS B T x (B (13 + x)).toNat))), some (.int (iI (fl - (thickP E T (E (16 + 10 * x + i)))))), some (.int (iI i)), some (.int (iI (E (16 + 10 * x + i))))]) hc rfl (Nat.le_of_ble_eq_true rfl) rfl ?_
                refine wi_a1 hc rfl rfl ?_
                refine wi_i2 hc rfl rfl ?_
                refine wi_ic hc rfl ?_
                obtain ⟨s4_, hE4_, hF4_, hL4_⟩ := sp_72 (d := 0) (L := L) (t := t) (l := l) hJ3_.1 hKE (b := E (16 + 10 * x + i)) (x := x) (p := i) (by omega) (by omega) (by omega) (by omega) (by omega) (by omega) (by omega) (by omega) (to := 4) (by omega)
                refine wp_cv (b := 2) (As := [.int (iI (E (16 + 10 * x + i))), .int (iI 4)]) (r := []) hc rfl (by rw [cm_72]; rfl) rfl (Nat.le_of_ble_eq_true rfl) (show 2 < 621 by decide) (by rw [cm_72]; rfl) (ev_mono hE4_ (by omega)) ?_
                have hJ4_ : JC s4_ (pullF E x i 4) T := ⟨hL4_, by rw [hF4_ 578 (by omega)]; exact hJ3_.2⟩
                have hK4_ : KA (pullF E x i 4) T := (mv_pull hKE.2.1 (by omega) (by omega) (by omega) (by omega)).KA hKE (pull_ok hKE.2.1 (by omega) (by omega) (by omega) (by omega) (by omega))
                show mm_wp _ _ (156, [some (.ref 0), some (.ref 2), some (.int (iI f)), some (.int (iI x)), some (.int (iI (B (13 + x)))), some (.int (iI (fallS B T x (B (13 + x)).toNat))), some (.int (iI (fl - (thickP E T (E (16 + 10 * x + i)))))), some (.int (iI i)), some (.int (iI (E (16 + 10 * x + i))))], [], MX L t s4_ l) _
                refine wi_inc (L' := [some (.ref 0), some (.ref 2), some (.int (iI f)), some (.int (iI x)), some (.int (iI (B (13 + x)))), some (.int (iI (fallS B T x (B (13 + x)).toNat))), some (.int (iI (fl - (thickP E T (E (16 + 10 * x + i)))))), some (.int (iI (i + (-1)))), some (.int (iI (E (16 + 10 * x + i))))]) hc rfl rfl rfl ?_
                refine wi_go hc rfl ?_
                have hpm := pull_many (to := 4) hKE.2.1 hx0 hx3 (p := i) (by omega) (by omega) hx0 hx3
                rw [if_pos rfl] at hpm
                refine ihm (m - 1) (by omega) (n - 1) (pullF E x i 4) _ _ s4_ _ (by rw [hpm]; omega) (by rw [hpm]; omega) ?_ (by omega) hK4_ (hmE.tr (mv_pull hKE.2.1 hx0 hx3 (by omega) (by omega))) ?_ (fun c hc9_ => (hF4_ c (by omega)).trans ((hF3_ c (by omega)).trans (hF4 c (by omega)))) hJ4_
                · rw [hi, full_pull hKE.1 hKE.2.1 hx0 hx3 (by omega), hfl]
                · rw [← htr, hi]
                  exact (trim_step (by omega) (by omega)).symm
          exact loop101_ (D (13 + x)).toNat 10 D _ _ s2_ _ (by omega) rfl rfl (by omega) hKD hmD hdd.symm (fun c hc9_ => (hF2_ c (by omega)).trans (hF3 c (by omega))) hJ2_
        · refine wi_i2 hc rfl rfl ?_
          refine wi_i2 hc rfl rfl ?_
          refine wp_cs (As := [.int (iI (fallS B T x (B (13 + x)).toNat)), .int (iI b)]) (r := []) hc rfl (by rw [cm_128]; rfl) rfl (Nat.le_of_ble_eq_true rfl) (ev_mono (sp_128 (d := 0) ⟨by omega, by omega⟩ (by omega) (by omega) (by omega)) (by omega)) ?_
          show mm_wp _ _ (61, [some (.ref 0), some (.ref 2), some (.int (iI f)), some (.int (iI x)), some (.int (iI (B (13 + x)))), some (.int (iI (fallS B T x (B (13 + x)).toNat))), some (.int (iI b)), q7, q8], [.int (iI ((fallS B T x (B (13 + x)).toNat) / 2 ^ b.toNat % 2))], MX L t s3 l) _
          refine wi_zeq hc rfl ⟨by omega, by omega⟩ (fun h5_ => ?_) (fun h5_ => ?_)
          · refine wi_inc (L' := [some (.ref 0), some (.ref 2), some (.int (iI f)), some (.int (iI x)), some (.int (iI (B (13 + x)))), some (.int (iI (fallS B T x (B (13 + x)).toNat))), some (.int (iI (b + 1))), q7, q8]) hc rfl rfl rfl ?_
            refine wi_go hc rfl ?_
            refine ih2 (by omega) (by omega) _ _ _ s3 ?_ hKC (fun c hc9_ => hF3 c (by omega)) hJ3
            exact hfil.congr (kbb_01 B T x (b + 1)) (kbb_miss (fun h => by have := hbit.2.mpr h; omega))
          · refine wi_a1 hc rfl rfl ?_
            refine wi_i2 hc rfl rfl ?_
            refine wi_ic hc rfl ?_
            obtain ⟨p, hp1, hp2, hp3⟩ := hbit.2.mp (by omega)
            have hk1 : kbb B T x b p = 1 := by unfold kbb; rw [if_neg (by omega)]
            obtain ⟨fp, fp0, fp1⟩ := FIL.pull hBB hx0 hx3 hfil (p0 := p) (by omega) hk1
            have fp5 := hfil.2.2.2.2.1 p (by omega) hk1
            obtain ⟨q, hq⟩ : ∃ q, q = cnt (kbb B T x b) p := ⟨_, rfl⟩
            rw [← hq] at fp fp0 fp1 fp5
            rw [hp2] at fp5
            have hwq := (hKC.2.1.2.2.1 x q hx0 hx3 fp0 fp1).2.2
            rw [fp5] at hwq
            obtain ⟨s5_, hE5_, hF5_, hL5_⟩ := sp_72 (d := 0) (L := L) (t := t) (l := l) hJ3.1 hKC (b := b) (x := x) (p := q) (by omega) (by omega) (by omega) (by omega) (by omega) (by omega) (by omega) (by omega) (to := 4) (by omega)
            refine wp_cv (b := 2) (As := [.int (iI b), .int (iI 4)]) (r := []) hc rfl (by rw [cm_72]; rfl) rfl (Nat.le_of_ble_eq_true rfl) (show 2 < 621 by decide) (by rw [cm_72]; rfl) (ev_mono hE5_ (by omega)) ?_
            have hJ5_ : JC s5_ (pullF C x q 4) T := ⟨hL5_, by rw [hF5_ 578 (by omega)]; exact hJ3.2⟩
            have hK5_ : KA (pullF C x q 4) T := (mv_pull hKC.2.1 (by omega) (by omega) (by omega) (by omega)).KA hKC (pull_ok hKC.2.1 (by omega) (by omega) (by omega) (by omega) (by omega))
            show mm_wp _ _ (71, [some (.ref 0), some (.ref 2), some (.int (iI f)), some (.int (iI x)), some (.int (iI (B (13 + x)))), some (.int (iI (fallS B T x (B (13 + x)).toNat))), some (.int (iI b)), q7, q8], [], MX L t s5_ l) _
            refine wi_inc (L' := [some (.ref 0), some (.ref 2), some (.int (iI f)), some (.int (iI x)), some (.int (iI (B (13 + x)))), some (.int (iI (fallS B T x (B (13 + x)).toNat))), some (.int (iI (b + 1))), q7, q8]) hc rfl rfl rfl ?_
            refine wi_go hc rfl ?_
            refine ih2 (by omega) (by omega) _ _ _ s5_ ?_ hK5_ (fun c hc9_ => (hF5_ c (by omega)).trans (hF3 c (by omega))) hJ5_
            exact fp.congr (kbb_01 B T x (b + 1)) (kbb_hit hBB hx0 hx3 (by omega) hp2 hp3)
      exact loop42_ 0 (by omega) (by omega) _ _ B s1_ (FIL.start hBB hx0 hx3 (kbb_01 B T x 0) (fun p hp => by have g9 := hBB.2.2.1 x p hx0 hx3 (by omega) hp; unfold kbb; rw [if_neg (by omega)])) hKB (fun c hc9_ => (hF1_ c (by omega)).trans (hF c (by omega))) hJ1_
  exact loop12_ 0 (by omega) (by omega) A 0 _ _ _ _ _ s rfl rfl hK (mv.rf A) (fun c _ => rfl) hJ
