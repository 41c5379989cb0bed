/-! A text is told: both sides' call. -/
theorem lb_keep {s s1 : Nat → Int → Int} {A T : Int → Int} {t : Nat} (h : LB 0 s A T) (h45 : 0 ≤ A 5 ∧ A 5 < 4) (h0 : 0 ≤ A 0 ∧ A 0 ≤ 10) (ht : t = 265 + 6 * (A 5).toNat) (hf : ∀ e, 1 ≤ e → e < t → s1 e = s e) : LB 0 s1 A T := by
  obtain ⟨h1, h2, h3, h4, g5, h6, h7⟩ := h
  refine ⟨by rw [hf (0 + 1) (by omega) (by omega)]; exact h1, ?_, ?_, ?_, g5.of (fun e q1 q2 => hf e (by omega) (by omega)), ?_, ?_⟩
  · intro x a c; rw [hf _ (by omega) (by omega)]; exact h2 x a c
  · intro k w a c d e; rw [hf _ (by omega) (by omega)]; exact h3 k w a c d e
  · intro i a c; rw [hf _ (by omega) (by omega)]; exact h4 i a c
  · intro i a c
    rw [hf (0 + 1) (by omega) (by omega)]
    have hm : (s (0 + 1) 6 + i) % 30 < 30 := Int.emod_lt_of_pos _ (by decide)
    exact (h6 i a c).of (fun e q1 q2 => hf e (by omega) (by omega))
  · intro i a c
    exact (h7 i a c).of (fun e q1 q2 => hf e (by omega) (by omega))
theorem iq_5 {d L : Nat} {xs : Nat → Int32} {M : mm_M} (h : IV L xs M) : ∃ M', lw_ok (mm_Ev mm_ct mm_CM (d + 40)) L xs 90 197 [] M M' ∧ IV L xs M' := by
  obtain ⟨t0, s, l, A, B, T, rfl, h⟩ := h
  have hh := h
  obtain ⟨⟨a1, a2, a3, a4⟩, ⟨b1, b2, b3, b4, b5⟩, ⟨c1, c2, c3⟩, ⟨d1, d2, d3, d4, d5⟩, g1, g2, g3⟩ := h
  have hA5 := a3.1.2.2.2.1
  have h10 : s 1 10 = A 5 := a1.1.1.2.2.1
  have h599 : s 599 5 = A 5 := congrFun a2.1 5
  by_cases hf : A 5 = 4
  · exact ⟨MX L t0 s l, ⟨iI (-1), MX L t0 s l, ev_mono (tc_90n (d := 0) (h10.trans hf)) (by omega), lwR_MX c2, ev_mono (tm_197n (d := 0) (h599.trans hf)) (by omega), lwR_MX c2⟩, t0, s, l, A, B, T, rfl, hh⟩
  · obtain ⟨t, ht⟩ : ∃ t : Nat, t = 265 + 6 * (A 5).toNat := ⟨_, rfl⟩
    have hkt : KT L t t := by
      have := kt_now (L := L) (t := t) (i := A 5) hA5.1 (by omega)
      rw [← ht] at this
      exact this
    obtain ⟨s1, v9, e1, kd, k, pl, nm, tn, hUn, hv, sU, hUr, q1, q2, q3⟩ := tc_90 (D := 26) (L := L) (t := t) (t0 := t0) (l := l) (Nat.le_refl _) hkt ⟨hA5.1, by omega⟩ ht h10 rfl d5 rfl ⟨d2, d3⟩
    obtain ⟨hgA, hGC, htn, hkr, hkn⟩ := hUn
    have hGX : GTX (s 597) (s 0 7) kd k pl nm tn := ⟨hgA, d5, ⟨d2, d3⟩, htn.2, fun a x y => by rw [hGC.1]; exact if_pos y, fun a x => hGC.2.1 a (by omega), hkr⟩
    have f1 : ∀ q, q ≠ 0 → q ≠ 1 → ¬ (580 ≤ q ∧ q ≤ 583) → ¬ (t ≤ q ∧ q ≤ t + 5) → s1 q = s q := fun q x y z w => (q1 q x y).trans (hUr.2.2 q z w)
    obtain ⟨r, hr⟩ : ∃ r, rcTx k nm = r := ⟨_, rfl⟩
    rw [hr] at hv hUr q3
    have f598 : s1 598 = s 598 := f1 598 (by decide) (by decide) (by decide) (by omega)
    obtain ⟨s2, l2, e2, sR, y, Q, oR, wR, hy, hM, hok, hQ, p1, p2, p3⟩ := tm_197 (d := 0) (L := L) (t := t) (s := s1) (l := l) hGX ((f1 602 (by decide) (by decide) (by decide) (by omega)).trans d4.symm) (by rw [f598]; exact d1.symm) (by rw [f598]; exact g3) (a5 := A 5) (by rw [f1 599 (by decide) (by decide) (by decide) (by omega)]; exact h599) ⟨hA5.1, by omega⟩ hr
    have f2 : ∀ q, q ≠ 598 → q ≠ 599 → q ≠ 601 → q ≠ 603 → s2 q = s1 q := fun q x y z w => (p1 q x y).trans (hQ.1 q x z w)
    have f : ∀ q, q ≠ 0 → q ≠ 1 → ¬ (580 ≤ q ∧ q ≤ 583) → ¬ (t ≤ q ∧ q ≤ t + 5) → q ≠ 598 → q ≠ 599 → q ≠ 601 → q ≠ 603 → s2 q = s q := fun q x y z w a b c e => (f2 q a b c e).trans (f1 q x y z w)
    subst hv
    have x1 : ∀ j : Nat, s1 1000001 j = (xs j).toInt := fun j => by rw [f1 1000001 (by decide) (by decide) (by decide) (by omega)]; exact c2 j
    have x2 : ∀ j : Nat, s2 1000001 j = (xs j).toInt := fun j => by rw [f 1000001 (by decide) (by decide) (by decide) (by omega) (by decide) (by decide) (by decide) (by decide)]; exact c2 j
    have hT9 : ∀ j, j < 705 * A 5 → s2 601 j = T j := fun j hj => by rw [p1 601 (by decide) (by decide), hQ.2.2.1 j hj, f1 601 (by decide) (by decide) (by decide) (by omega)]; exact congrFun a2.2.1 j
    have hBZ := bz_ev _ _ _ _ _ e2 (bz_ev _ _ _ _ _ e1 c3)
    have h17 : 0 ≤ s2 598 17 := by rw [p2, if_neg (by decide), if_neg (by decide), if_neg (by decide), MSt.rn hM]; omega
    have t07 : s2 0 7 = 0 := by rw [f2 0 (by decide) (by decide) (by decide) (by decide), q2]; rfl
    have t4 : s2 598 4 = 0 := by rw [p2]; rfl
    have n597 : s2 597 = s 597 := f 597 (by decide) (by decide) (by decide) (by omega) (by decide) (by decide) (by decide) (by decide)
    have n602 : s2 602 = s 602 := f 602 (by decide) (by decide) (by decide) (by omega) (by decide) (by decide) (by decide) (by decide)
    have n604 : s2 604 = s 604 := f 604 (by decide) (by decide) (by decide) (by omega) (by decide) (by decide) (by decide) (by decide)
    have n578 : s2 578 = s 578 := f 578 (by decide) (by decide) (by decide) (by omega) (by decide) (by decide) (by decide) (by decide)
    have n600 : s2 600 = s 600 := f 600 (by decide) (by decide) (by decide) (by omega) (by decide) (by decide) (by decide) (by decide)
    have nFc : s2 1000000 = s 1000000 := f 1000000 (by decide) (by decide) (by decide) (by omega) (by decide) (by decide) (by decide) (by decide)
    have n580 : s2 580 = sU 580 := (f2 580 (by decide) (by decide) (by decide) (by decide)).trans (q1 580 (by decide) (by decide))
    have hLB : LB 288 s2 B (s2 601) := LB_cg (b1.of b3.1.1 b3.1.2.2.2.1 (fun e p q => f e (by omega) (by omega) (by omega) (by omega) (by omega) (by omega) (by omega) (by omega))) b5 b3.1.2.2.2.2.2.2 hT9
    have hVB : VA B (s2 601) := VA_cg b3 b5 hT9
    have hVA : VA A (s2 601) := VA_cg a3 (Int.le_refl _) hT9
    have hL0 : LB 0 s A (s2 601) := LB_cg a1.1 (Int.le_refl _) a3.1.2.2.2.2.2.2 hT9
    refine ⟨MX L t s2 l2, ⟨_, MX L t s1 l, ev_mono e1 (by omega), lwR_MX x1, ev_mono e2 (by omega), lwR_MX x2⟩, t, s2, l2, ?_⟩
    have hw : ∀ j, s2 1 j = if j = 10 then (if r.1 = 0 then A 5 + 1 else A 5) else s 1 j := fun j => by rw [f2 1 (by decide) (by decide) (by decide) (by decide)]; exact q3 j
    have hc : ∀ e, e ≠ 1 → 1 ≤ e → e < t → s2 e = s e := fun e x y z => f e (by omega) x (by omega) (by omega) (by omega) (by omega) (by omega) (by omega)
    by_cases hz : r.1 = 0
    · obtain ⟨hy2, -, hMG⟩ := hok hz
      obtain ⟨⟨W1, op1, hCS⟩, hCG⟩ := hUr.1 hz
      have hnm : ∀ a, k a = 42 → 0 ≤ nm a := fun a ha => by
        have h0 : 0 ≤ a := by
          rcases Int.lt_or_le a 0 with g | g
          · have := hkn a g; omega
          · exact g
        have h1 : a < tn := by
          rcases Int.lt_or_le a tn with g | g
          · exact g
          · have := hGC.2.1 a (by omega); omega
        exact ((CSt.rR hCS).2.2 a h0 h1).2.2.2.2.2.1
      obtain ⟨y1, y2, y3, y4⟩ := ty_Tx (k := k) (nm := nm) hGC.2.1 (fun a => (hkr a).1) hnm htn.2 hgA.1 (by rw [hr]; exact hz)
      rw [hr] at y1 y2 y3 y4
      have e601 : s2 601 = sR 601 := p1 601 (by decide) (by decide)
      have hMG2 : MG (705 * A 5) (s2 601) r.2.2 := by rw [e601]; exact hMG
      have hcd : ∀ j, 0 ≤ j → j < r.2.1.2.2 → s2 601 (705 * A 5 + 97 + 2 * j) = mop (r.2.1.2.1 j) ∧ s2 601 (705 * A 5 + 98 + 2 * j) = mvl (r.2.1.2.1 j) := fun j j0 j1 => by
        rw [e601, ← hy2]
        rw [← hy2] at j1
        exact hM.2.2.1.2 j j0 j1
      have tc : ∀ q, t ≤ q → q ≤ t + 5 → s2 q = sU q := fun q x y => (f2 q (by omega) (by omega) (by omega) (by omega)).trans (q1 q (by omega) (by omega))
      have hTX : TX s2 t (s2 601) (705 * A 5) := (mg_TX hMG2 hCG y3 y4 hcd hCS.2.2.2.2.2).of (fun e x y => tc e x (by omega))
      have hVT : VT (s2 601) (705 * A 5) := mg_VT hMG2 y3 y4 hcd
      have hA9 : s2 599 = set1 A 5 (A 5 + 1) := by
        funext j
        rw [p3, f1 599 (by decide) (by decide) (by decide) (by omega), if_pos hz]
        show _ = if j = 5 then A 5 + 1 else A j
        by_cases q : j = 5
        · rw [if_pos q, if_pos q]
        · rw [if_neg q, if_neg q]; exact congrFun a2.1 j
      refine ⟨set1 A 5 (A 5 + 1), B, s2 601, rfl, ⟨⟨?_, ?_⟩, ⟨hA9, rfl, ?_⟩, grow_VA hVA (by omega) hVT, okLg_set1 a4 (by decide)⟩, ⟨hLB, ?_, hVB, b4, ?_⟩, ⟨?_, x2, hBZ⟩, ⟨?_, ?_, ?_, ?_⟩, ?_, ?_, h17⟩
      · exact lb_grow hL0 (KA_VA hVA) ⟨hA5.1, by omega⟩ ht hc (fun j => by rw [hw, if_pos hz]) hTX
      · rw [n578]; exact a1.2
      · rw [n604]; exact a2.2.2
      · intro j p q; rw [n600]; exact b2 j p q
      · rw [show set1 A 5 (A 5 + 1) 5 = A 5 + 1 from if_pos rfl]; omega
      · intro j p q; rw [nFc]; exact c1 j p q
      · rw [t07, t4]
      · rw [t07]; decide
      · rw [t07]; decide
      · rw [n597, n602]; exact ⟨d4, d5⟩
      · rw [n580, hCS.1.2.1, p2]; exact hz.symm
      · rw [n580, hCS.1.2.2, p2, if_neg (by decide), if_pos rfl, if_pos hz]
    · obtain ⟨u1, u2⟩ := hUr.2.1 hz
      have hA9 : s2 599 = A := by
        funext j
        rw [p3, f1 599 (by decide) (by decide) (by decide) (by omega), if_neg hz]
        by_cases q : j = 5
        · rw [if_pos q, q]
        · rw [if_neg q]; exact congrFun a2.1 j
      have hw1 : s2 1 = s 1 := by
        funext j
        rw [hw, if_neg hz]
        by_cases q : j = 10
        · rw [if_pos q, q]; exact h10.symm
        · rw [if_neg q]
      refine ⟨A, B, s2 601, rfl, ⟨⟨?_, ?_⟩, ⟨hA9, rfl, ?_⟩, hVA, a4⟩, ⟨hLB, ?_, hVB, b4, b5⟩, ⟨?_, x2, hBZ⟩, ⟨?_, ?_, ?_, ?_⟩, ?_, ?_, h17⟩
      · exact lb_keep hL0 ⟨hA5.1, by omega⟩ a3.1.1 ht (fun e x y => by
          by_cases q : e = 1
          · rw [q]; exact hw1
          · exact hc e q x y)
      · rw [n578]; exact a1.2
      · rw [n604]; exact a2.2.2
      · intro j p q; rw [n600]; exact b2 j p q
      · intro j p q; rw [nFc]; exact c1 j p q
      · rw [t07, t4]
      · rw [t07]; decide
      · rw [t07]; decide
      · rw [n597, n602]; exact ⟨d4, d5⟩
      · rw [n580, u1, p2]; rfl
      · rw [n580, u2, p2, if_neg (by decide), if_pos rfl, if_neg hz, ← hy]
        exact if_pos hM.2.1.1.2
