/-! What holds between two calls. -/
def IVs (L : Nat) (xs : Nat → Int32) (t : Nat) (s l : Nat → Int → Int) (A B T : Int → Int) : Prop :=
  (JC s A T ∧ JM s A T ∧ VA A T ∧ okLg A) ∧ (LB 288 s B T ∧ (∀ k, 0 ≤ k → k < 3642 → s 600 k = B k) ∧ VA B T ∧ okLg B ∧ B 5 ≤ A 5) ∧ (FcH s ∧ (∀ j : Nat, s 1000001 j = (xs j).toInt) ∧ BZ (MX L t s l)) ∧ (s 0 7 = s 598 4 ∧ 0 ≤ s 0 7 ∧ s 0 7 ≤ 300 ∧ s 597 = s 602 ∧ ∀ k, 0 ≤ s 597 k ∧ s 597 k ≤ 255) ∧ (s 580 8 = s 598 5 ∧ s 580 9 = s 598 6 ∧ 0 ≤ s 598 17)
def IV (L : Nat) (xs : Nat → Int32) (M : mm_M) : Prop := ∃ (t : Nat) (s l : Nat → Int → Int) (A B T : Int → Int), M = MX L t s l ∧ IVs L xs t s l A B T
theorem lwR_MX {L t : Nat} {xs : Nat → Int32} {s l : Nat → Int → Int} (h : ∀ j : Nat, s 1000001 j = (xs j).toInt) : lw_R L xs (MX L t s l) := by
  refine ⟨rfl, fun j => ?_, rfl, by show 0 < 621; decide, rfl, by show 598 < 621; decide⟩
  show iI (s 1000001 j) = xs j
  rw [h, iI_of]
theorem IV_R {L : Nat} {xs : Nat → Int32} {M : mm_M} (h : IV L xs M) : lw_R L xs M := by
  obtain ⟨t, s, l, A, B, T, rfl, h⟩ := h
  exact lwR_MX h.2.2.1.2.1
theorem JC.fr {s s1 : Nat → Int → Int} {A T : Int → Int} (h : JC s A T) (h0 : 0 ≤ A 0 ∧ A 0 ≤ 10) (h5 : 0 ≤ A 5 ∧ A 5 ≤ 4) (hf : ∀ c, 1 ≤ c → c < 289 → s1 c = s c) (h578 : s1 578 = s 578) : JC s1 A T := ⟨h.1.of h0 h5 (fun e a b => hf e (by omega) (by omega)), by rw [h578]; exact h.2⟩
/-- a call that asks only -/
theorem iv_q {d L t : Nat} {xs : Nat → Int32} {s l s1 l1 s2 l2 : Nat → Int → Int} {A B T : Int → Int} (h : IVs L xs t s l A B T) {xm mm : Nat} {vs : List Value} {v : Int} (e1 : mm_Ev mm_ct mm_CM d xm (.ref 0 :: vs) (MX L t s l) (some (.int (iI v)), MX L t s1 l1)) (f1 : ∀ c, ¬ (577 ≤ c ∧ c ≤ 579) → ¬ (590 ≤ c ∧ c ≤ 596) → s1 c = s c) (j1 : JC s1 A T)
    (e2 : mm_Ev mm_ct mm_CM d mm (.ref 598 :: vs) (MX L t s1 l1) (some (.int (iI v)), MX L t s2 l2)) (f2 : ∀ c, c ≠ 598 → ¬ (603 ≤ c ∧ c ≤ 620) → s2 c = s1 c) (k2 : ∀ k, k ≠ 28 → k ≠ 34 → k ≠ 35 → s2 598 k = s1 598 k) (j2 : JM s2 A T) : ∃ M', lw_ok (mm_Ev mm_ct mm_CM d) L xs xm mm vs (MX L t s l) M' ∧ IV L xs M' := by
  obtain ⟨⟨a1, a2, a3, a4⟩, ⟨b1, b2, b3, b4, b5⟩, ⟨c1, c2, c3⟩, ⟨d1, d2, d3, d4⟩, g1, g2⟩ := h
  have f : ∀ c, c ≠ 598 → ¬ (603 ≤ c ∧ c ≤ 620) → ¬ (577 ≤ c ∧ c ≤ 579) → ¬ (590 ≤ c ∧ c ≤ 596) → s2 c = s c := fun c h1 h2 h3 h4 => (f2 c h1 h2).trans (f1 c h3 h4)
  have fk : ∀ k, k ≠ 28 → k ≠ 34 → k ≠ 35 → s2 598 k = s 598 k := fun k h0 h1 h2 => (k2 k h0 h1 h2).trans (congrFun (f1 598 (by decide) (by decide)) k)
  have x1 : ∀ j : Nat, s1 1000001 j = (xs j).toInt := fun j => by rw [f1 1000001 (by decide) (by decide)]; exact c2 j
  have x2 : ∀ j : Nat, s2 1000001 j = (xs j).toInt := fun j => by rw [f 1000001 (by decide) (by decide) (by decide) (by decide)]; exact c2 j
  refine ⟨MX L t s2 l2, ⟨iI v, MX L t s1 l1, e1, lwR_MX x1, e2, lwR_MX x2⟩, t, s2, l2, A, B, T, rfl, ⟨?_, j2, a3, a4⟩, ⟨?_, ?_, b3, b4, b5⟩, ⟨?_, x2, bz_ev _ _ _ _ _ e2 (bz_ev _ _ _ _ _ e1 c3)⟩, ⟨?_, ?_, ?_, ?_⟩, ?_, ?_⟩
  · exact j1.fr a3.1.1 a3.1.2.2.2.1 (fun c p q => f2 c (by omega) (by omega)) (f2 578 (by decide) (by decide))
  · exact b1.of b3.1.1 b3.1.2.2.2.1 (fun e p q => f e (by omega) (by omega) (by omega) (by omega))
  · intro k p q; rw [f 600 (by decide) (by decide) (by decide) (by decide)]; exact b2 k p q
  · intro j p q; rw [f 1000000 (by decide) (by decide) (by decide) (by decide)]; exact c1 j p q
  · rw [f 0 (by decide) (by decide) (by decide) (by decide), fk 4 (by decide) (by decide) (by decide)]; exact d1
  · rw [f 0 (by decide) (by decide) (by decide) (by decide)]; exact d2
  · rw [f 0 (by decide) (by decide) (by decide) (by decide)]; exact d3
  · rw [f 597 (by decide) (by decide) (by decide) (by decide), f 602 (by decide) (by decide) (by decide) (by decide)]; exact d4
  · rw [f 580 (by decide) (by decide) (by decide) (by decide), fk 5 (by decide) (by decide) (by decide)]; exact g1
  · rw [f 580 (by decide) (by decide) (by decide) (by decide), fk 6 (by decide) (by decide) (by decide), fk 17 (by decide) (by decide) (by decide)]; exact g2
theorem KA_VA {A T : Int → Int} (h : VA A T) : KA A T := ⟨h.1, h.2.1, h.2.2.1, h.2.2.2.1⟩
/-- a yes or no of the script -/
theorem yn (x : Int32) : ∃ v : Int, (v = 0 ∨ v = 1) ∧ (if x = 0 then (0 : Int32) else 1) = iI v := by
  by_cases h : x = 0
  · exact ⟨0, Or.inl rfl, by rw [if_pos h]; rfl⟩
  · exact ⟨1, Or.inr rfl, by rw [if_neg h]; rfl⟩
/-- a call that changes the row -/
theorem iv_a {d L t : Nat} {xs : Nat → Int32} {s l s1 l1 s2 l2 : Nat → Int → Int} {A A' B T : Int → Int} (h : IVs L xs t s l A B T) {xm mm : Nat} {vs : List Value} {v : Int} (e1 : mm_Ev mm_ct mm_CM d xm (.ref 0 :: vs) (MX L t s l) (some (.int (iI v)), MX L t s1 l1)) (f1 : ∀ c, ¬ (1 ≤ c ∧ c ≤ 288) → ¬ (577 ≤ c ∧ c ≤ 579) → ¬ (590 ≤ c ∧ c ≤ 596) → s1 c = s c) (j1 : JC s1 A' T)
    (e2 : mm_Ev mm_ct mm_CM d mm (.ref 598 :: vs) (MX L t s1 l1) (some (.int (iI v)), MX L t s2 l2)) (f2 : ∀ c, c ≠ 598 → c ≠ 599 → ¬ (603 ≤ c ∧ c ≤ 620) → s2 c = s1 c) (k2 : ∀ k, k ≠ 25 → k ≠ 28 → k ≠ 34 → k ≠ 35 → s2 598 k = s1 598 k) (j2 : JM s2 A' T) (v' : VA A' T) (g' : okLg A') (h5 : A' 5 = A 5) : ∃ M', lw_ok (mm_Ev mm_ct mm_CM d) L xs xm mm vs (MX L t s l) M' ∧ IV L xs M' := by
  obtain ⟨⟨a1, a2, a3, a4⟩, ⟨b1, b2, b3, b4, b5⟩, ⟨c1, c2, c3⟩, ⟨d1, d2, d3, d4⟩, g1, g2⟩ := h
  have f : ∀ c, c ≠ 598 → c ≠ 599 → ¬ (603 ≤ c ∧ c ≤ 620) → ¬ (1 ≤ c ∧ c ≤ 288) → ¬ (577 ≤ c ∧ c ≤ 579) → ¬ (590 ≤ c ∧ c ≤ 596) → s2 c = s c := fun c h1 h2 h3 h4 h5 h6 => (f2 c h1 h2 h3).trans (f1 c h4 h5 h6)
  have fk : ∀ k, k ≠ 25 → k ≠ 28 → k ≠ 34 → k ≠ 35 → s2 598 k = s 598 k := fun k h9 h0 h1 h2 => (k2 k h9 h0 h1 h2).trans (congrFun (f1 598 (by decide) (by decide) (by decide)) k)
  have x1 : ∀ j : Nat, s1 1000001 j = (xs j).toInt := fun j => by rw [f1 1000001 (by decide) (by decide) (by decide)]; exact c2 j
  have x2 : ∀ j : Nat, s2 1000001 j = (xs j).toInt := fun j => by rw [f 1000001 (by decide) (by decide) (by decide) (by decide) (by decide) (by decide)]; exact c2 j
  have q := fun c (h1 : c ≠ 598) (h2 : c ≠ 599) (h3 : ¬ (603 ≤ c ∧ c ≤ 620)) (h4 : ¬ (1 ≤ c ∧ c ≤ 288)) (h5 : ¬ (577 ≤ c ∧ c ≤ 579)) (h6 : ¬ (590 ≤ c ∧ c ≤ 596)) => f c h1 h2 h3 h4 h5 h6
  refine ⟨MX L t s2 l2, ⟨iI v, MX L t s1 l1, e1, lwR_MX x1, e2, lwR_MX x2⟩, t, s2, l2, A', B, T, rfl, ⟨?_, j2, v', g'⟩, ⟨?_, ?_, b3, b4, by rw [h5]; exact b5⟩, ⟨?_, x2, bz_ev _ _ _ _ _ e2 (bz_ev _ _ _ _ _ e1 c3)⟩, ⟨?_, ?_, ?_, ?_⟩, ?_, ?_⟩
  · exact j1.fr v'.1.1 v'.1.2.2.2.1 (fun c p q => f2 c (by omega) (by omega) (by omega)) (f2 578 (by decide) (by decide) (by decide))
  · exact b1.of b3.1.1 b3.1.2.2.2.1 (fun e p q => f e (by omega) (by omega) (by omega) (by omega) (by omega) (by omega))
  · intro k p r; rw [q 600 (by decide) (by decide) (by decide) (by decide) (by decide) (by decide)]; exact b2 k p r
  · intro j p r; rw [q 1000000 (by decide) (by decide) (by decide) (by decide) (by decide) (by decide)]; exact c1 j p r
  · rw [q 0 (by decide) (by decide) (by decide) (by decide) (by decide) (by decide), fk 4 (by decide) (by decide) (by decide) (by decide)]; exact d1
  · rw [q 0 (by decide) (by decide) (by decide) (by decide) (by decide) (by decide)]; exact d2
  · rw [q 0 (by decide) (by decide) (by decide) (by decide) (by decide) (by decide)]; exact d3
  · rw [q 597 (by decide) (by decide) (by decide) (by decide) (by decide) (by decide), q 602 (by decide) (by decide) (by decide) (by decide) (by decide) (by decide)]; exact d4
  · rw [q 580 (by decide) (by decide) (by decide) (by decide) (by decide) (by decide), fk 5 (by decide) (by decide) (by decide) (by decide)]; exact g1
  · rw [q 580 (by decide) (by decide) (by decide) (by decide) (by decide) (by decide), fk 6 (by decide) (by decide) (by decide) (by decide), fk 17 (by decide) (by decide) (by decide) (by decide)]; exact g2
