/-! A step taken back; the library's side of steps. -/
section UN
variable {A : Int → Int}
theorem un_many {k : Int} (h0 : 0 ≤ k) (h1 : k < 33) : undoF A (13 + k) = stp A (A 7 - 1) (5 + k) := by
  unfold undoF stp
  rw [if_neg (by omega), if_neg (by omega), if_neg (by omega), if_neg (by omega), if_neg (by omega), if_pos (by omega)]
  congr 1
  omega
theorem un_wh {b : Int} (h0 : 0 ≤ b) (h1 : b < A 0) : undoF A (46 + 6 * b + 5) = if b < stp A (A 7 - 1) 0 then stp A (A 7 - 1) (38 + b) else 3 := by
  have e : (46 + 6 * b + 5 - 51) / 6 = b := by omega
  unfold undoF stp
  rw [if_neg (by omega), if_neg (by omega), if_neg (by omega), if_neg (by omega), if_neg (by omega), if_neg (by omega), if_pos (by omega), e, show 154 + 48 * (A 7 - 1) + 0 = 154 + 48 * (A 7 - 1) by omega, show 154 + 48 * (A 7 - 1) + (38 + b) = 154 + 48 * (A 7 - 1) + 38 + b by omega]
theorem un_else {k : Int} (h0 : 0 ≤ A 0 ∧ A 0 ≤ 10) (h1 : k = 0 ∨ k = 3 ∨ (5 ≤ k ∧ k ≤ 6) ∨ k = 8 ∨ (10 ≤ k ∧ k < 13) ∨ 106 ≤ k ∨ ∃ b w, 0 ≤ b ∧ 0 ≤ w ∧ w < 5 ∧ k = 46 + 6 * b + w) : undoF A k = A k := by
  have h2 : k ≠ 7 ∧ k ≠ 1 ∧ k ≠ 2 ∧ k ≠ 4 ∧ k ≠ 9 ∧ ¬ (13 ≤ k ∧ k < 46) ∧ ¬ ((k - 51) % 6 = 0 ∧ 51 ≤ k ∧ k < 51 + 6 * A 0) := by
    rcases h1 with q | q | q | q | q | q | ⟨b, w, q1, q2, q3, q4⟩ <;> omega
  unfold undoF
  rw [if_neg h2.1, if_neg h2.2.1, if_neg h2.2.2.1, if_neg h2.2.2.2.1, if_neg h2.2.2.2.2.1, if_neg h2.2.2.2.2.2.1, if_neg h2.2.2.2.2.2.2]
theorem un_1 : undoF A 7 = A 7 - 1 ∧ undoF A 1 = stp A (A 7 - 1) 1 ∧ undoF A 2 = stp A (A 7 - 1) 2 ∧ undoF A 4 = stp A (A 7 - 1) 3 ∧ undoF A 9 = stp A (A 7 - 1) 4 := ⟨rfl, rfl, rfl, rfl, rfl⟩
theorem undo_okB (h0 : 0 ≤ A 0 ∧ A 0 ≤ 10) (hv : okV (stp A (A 7 - 1))) (hb : stp A (A 7 - 1) 0 ≤ A 0) : okB (undoF A) := by
  obtain ⟨v0, v1, v2, v3, v4⟩ := hv
  have e0 : undoF A 0 = A 0 := un_else h0 (Or.inl rfl)
  refine ⟨by rw [e0]; exact h0, ?_, ?_, ?_, ?_⟩
  · intro x a b
    rw [un_many a (by omega)]
    exact v1 x a b
  · intro x p a b c d
    rw [un_many a (by omega)] at d
    have g1 := v1 x a b
    have g := v2 x p a b c d
    rw [show 16 + 10 * x + p = 13 + (3 + 10 * x + p) by omega, un_many (by omega) (by omega), show 5 + (3 + 10 * x + p) = 8 + 10 * x + p by omega, e0, un_wh g.1 (by omega), if_pos g.2.1]
    exact ⟨g.1, by omega, g.2.2⟩
  · intro x p q a b c d e
    rw [un_many a (by omega)] at e
    have g1 := v1 x a b
    rw [show 16 + 10 * x + p = 13 + (3 + 10 * x + p) by omega, un_many (by omega) (by omega), show 16 + 10 * x + q = 13 + (3 + 10 * x + q) by omega, un_many (by omega) (by omega), show 5 + (3 + 10 * x + p) = 8 + 10 * x + p by omega, show 5 + (3 + 10 * x + q) = 8 + 10 * x + q by omega]
    exact v3 x p q a b c d e
  · intro b a c
    rw [e0] at c
    rw [un_wh a c]
    by_cases hb2 : b < stp A (A 7 - 1) 0
    · rw [if_pos hb2]
      have g := v4 b a hb2
      refine ⟨g.1, fun q => ?_⟩
      obtain ⟨p, p0, p1, p2⟩ := g.2 q
      have g1 := v1 _ g.1.1 (by omega)
      refine ⟨p, p0, ?_, ?_⟩
      · rw [un_many g.1.1 (by omega)]; exact p1
      · rw [show ∀ z : Int, 16 + 10 * z + p = 13 + (3 + 10 * z + p) from fun z => by omega, un_many (by omega) (by omega), show ∀ z : Int, 5 + (3 + 10 * z + p) = 8 + 10 * z + p from fun z => by omega]; exact p2
    · rw [if_neg hb2]
      exact ⟨by omega, fun q => by omega⟩
theorem undo_ok {T : Int → Int} (h : VA A T) (h1 : 1 ≤ A 7) : VA (undoF A) T := by
  obtain ⟨hV, hB, hR, hS, hG, h9⟩ := h
  have h7 := hR.2.2.1
  have g := hS (A 7 - 1) (by omega) (by omega)
  have e7 : undoF A 7 = A 7 - 1 := rfl
  have e0 : undoF A 0 = A 0 := un_else hB.1 (Or.inl rfl)
  have est : ∀ i k, 0 ≤ i → 0 ≤ k → stp (undoF A) i k = stp A i k := fun i k a b => un_else hB.1 (Or.inr (Or.inr (Or.inr (Or.inr (Or.inr (Or.inl (by omega)))))))
  refine ⟨?_, undo_okB hB.1 g.1 g.2.1, okR_lo (fun k q => un_else hB.1 (by omega)) g.2.2.1 g.2.2.2.2.1 (by rw [e7]; omega) hR, ?_, ?_, ?_⟩
  · obtain ⟨j1, j2, j3, j4, j5, j6, j7⟩ := hV
    refine ⟨by rw [e0]; exact j1, g.2.2.2.1, by rw [un_else hB.1 (by omega)]; exact j3, by rw [un_else hB.1 (by omega)]; exact j4, by rw [un_else hB.1 (by omega), un_else hB.1 (by omega)]; exact j5, ?_, by rw [un_else hB.1 (by omega)]; exact j7⟩
    intro b a c
    rw [e0] at c
    have q := j6 b a c
    have tr : ∀ w, 0 ≤ w → w < 5 → undoF A (46 + 6 * b + w) = A (46 + 6 * b + w) := fun w w0 w1 => un_else hB.1 (Or.inr (Or.inr (Or.inr (Or.inr (Or.inr (Or.inr ⟨b, w, a, w0, w1, rfl⟩))))))
    refine ⟨fun w w0 w1 => by rw [tr w w0 (by omega)]; exact q.1 w w0 w1, by rw [tr 2 (by decide) (by decide)]; exact q.2.1, by rw [tr 4 (by decide) (by decide)]; exact q.2.2⟩
  · intro i a b
    rw [e7] at b ⊢
    have q := hS i a (by omega)
    rw [est i 0 a (by decide), est i 1 a (by decide), est i 2 a (by decide), est i 3 a (by decide), est i 4 a (by decide), est (i + 1) 4 (by omega) (by decide), e0]
    exact ⟨okV_congr q.1 (fun k k0 _ => est i k a k0), q.2.1, q.2.2.1, q.2.2.2.1, q.2.2.2.2.1, q.2.2.2.2.2.1, fun z => q.2.2.2.2.2.2 (by omega)⟩
  · intro q
    rw [e7] at q ⊢
    rw [est _ 4 (by omega) (by decide)]
    have z := (hS (A 7 - 1 - 1) (by omega) (by omega)).2.2.2.2.2.2 (by omega)
    rw [show A 7 - 1 - 1 + 1 = A 7 - 1 by omega] at z
    exact z
  · exact g.2.2.2.2.2.1
end UN
theorem LB.keep {s s1 : Nat → Int → Int} {A T : Int → Int} (h : LB 0 s A T) (hV : VA A T) (hc : ∀ e, 1 < e → e < 289 → ¬ (25 ≤ e ∧ e < 265) → s1 e = s e) (h1 : ∀ k, 8 ≤ k → s1 1 k = s 1 k) (h7 : s1 1 7 = kpN A + 1) (h6 : s1 1 6 = if A 7 = 30 then (s 1 6 + 1) % 30 else s 1 6) (hn : SC s1 (25 + 8 * ((s 1 6 + A 7) % 30).toNat) (cur A) (lgA A)) (ho : ∀ i, 0 ≤ i → i < 30 → i ≠ (s 1 6 + A 7) % 30 → ∀ e, 25 + 8 * i.toNat ≤ e → e < 25 + 8 * i.toNat + 8 → s1 e = s e) : LB 0 s1 (keepF A) T := by
  obtain ⟨vV, vB, vR, vS, vG, v9⟩ := hV
  have r7 := vR.2.2.1
  have el := lb_el h
  have kn : kpN A = if A 7 = 30 then 29 else A 7 := rfl
  have lo : ∀ k, (k < 154 ∨ 1594 ≤ k) → k ≠ 7 → keepF A k = A k := fun k a b => keep_lo r7 a b
  obtain ⟨g1, g2, g3, g4, g5, g6, g7⟩ := h
  refine ⟨?_, ?_, ?_, ?_, ?_, ?_, ?_⟩
  · refine ⟨(h1 8 (by decide)).trans (g1.1.trans (lo 0 (by omega) (by decide)).symm), (h1 9 (by decide)).trans (g1.2.1.trans (lo 3 (by omega) (by decide)).symm), (h1 10 (by decide)).trans (g1.2.2.1.trans (lo 5 (by omega) (by decide)).symm), (h1 11 (by decide)).trans (g1.2.2.2.1.trans (lo 6 (by omega) (by decide)).symm), (h1 12 (by decide)).trans (g1.2.2.2.2.1.trans (lo 8 (by omega) (by decide)).symm), h7.trans (keep_7 A).symm, ?_, ?_⟩
    · show 0 ≤ s1 1 6
      rw [h6]; split <;> omega
    · show s1 1 6 < 30
      rw [h6]; split <;> omega
  · intro x a b; rw [hc _ (by omega) (by omega) (by omega), lo _ (by omega) (by omega)]; exact g2 x a b
  · intro k w a b c d
    rw [lo 0 (by omega) (by decide)] at b
    have := vV.1
    rw [hc _ (by omega) (by omega) (by omega), lo _ (by omega) (by omega)]; exact g3 k w a b c d
  · intro i a b
    rw [lo 8 (by omega) (by decide)] at b
    have := vR.2.2.2.1
    rw [hc _ (by omega) (by omega) (by omega), lo _ (by omega) (by omega), lo _ (by omega) (by omega), lo _ (by omega) (by omega), lo _ (by omega) (by omega)]; exact g4 i a b
  · exact (g5.of (fun e q1 q2 => hc e (by omega) (by omega) (by omega))).congr (okB_V vB) (fun k k0 k1 => keep_cur r7 k0 k1) (fun j _ _ => by rw [keep_lg r7])
  · intro i a b
    rw [keep_7] at b
    show SC s1 (0 + 25 + 8 * ((s1 1 6 + i) % 30).toNat) _ _
    rw [h6]
    by_cases hi : i = kpN A
    · have e : ((if A 7 = 30 then (s 1 6 + 1) % 30 else s 1 6) + i) % 30 = (s 1 6 + A 7) % 30 := by
        rw [hi, kn]; split <;> omega
      rw [e, hi]
      exact hn.congr (okB_V vB) (fun k k0 k1 => keep_new r7 k0 k1) (fun j _ _ => by rw [keep_lg r7])
    · have hi2 : i < kpN A := by omega
      by_cases h30 : A 7 = 30
      · rw [if_pos h30] at kn
        have e : ((if A 7 = 30 then (s 1 6 + 1) % 30 else s 1 6) + i) % 30 = (s 1 6 + (i + 1)) % 30 := by rw [if_pos h30]; omega
        rw [e]
        have q := g6 (i + 1) (by omega) (by omega)
        refine (q.of (fun e q1 q2 => ho ((s 1 6 + (i + 1)) % 30) (by omega) (by omega) (by omega) e (by rw [show 0 + 25 = 25 from rfl] at q1; exact q1) (by rw [show 0 + 25 = 25 from rfl] at q2; exact q2))).congr (vS (i + 1) (by omega) (by omega)).1 (fun k k0 k1 => by rw [keep_old r7 a hi2 k0 k1, if_pos h30]) (fun j _ _ => by rw [keep_lg r7])
      · rw [if_neg h30] at kn
        rw [if_neg h30]
        have q := g6 i a (by omega)
        refine (q.of (fun e q1 q2 => ho ((s 1 6 + i) % 30) (by omega) (by omega) (by omega) e (by rw [show 0 + 25 = 25 from rfl] at q1; exact q1) (by rw [show 0 + 25 = 25 from rfl] at q2; exact q2))).congr (vS i a (by omega)).1 (fun k k0 k1 => by rw [keep_old r7 a hi2 k0 k1, if_neg h30]) (fun j _ _ => by rw [keep_lg r7])
  · intro i a b
    rw [lo 5 (by omega) (by decide)] at b
    have := vV.2.2.2.1
    exact (g7 i a b).of (fun e q1 q2 => hc e (by omega) (by omega) (by omega))
theorem LB.undo {s s1 : Nat → Int → Int} {A T : Int → Int} (h : LB 0 s A T) (hV : VA A T) (h17 : 1 ≤ A 7) (hc : ∀ e, 9 < e → e < 289 → s1 e = s e) (h1 : ∀ k, k ≠ 7 → s1 1 k = s 1 k) (h7 : s1 1 7 = A 7 - 1) (hn : SC s1 2 (stp A (A 7 - 1)) (lgA A)) : LB 0 s1 (undoF A) T := by
  obtain ⟨vV, vB, vR, vS, vG, v9⟩ := hV
  have r7 := vR.2.2.1
  have el := lb_el h
  have g := vS (A 7 - 1) (by omega) (by omega)
  have ue : ∀ k, (k = 0 ∨ k = 3 ∨ (5 ≤ k ∧ k ≤ 6) ∨ k = 8 ∨ (10 ≤ k ∧ k < 13) ∨ 106 ≤ k) → undoF A k = A k := fun k q => un_else vB.1 (by omega)
  have ulg : lgA (undoF A) = lgA A := by
    funext j
    have : 0 ≤ j % 512 := Int.emod_nonneg _ (by decide)
    unfold lgA
    rw [ue _ (by omega), ue _ (by omega), ue _ (by omega), ue _ (by omega)]
  obtain ⟨g1, g2, g3, g4, g5, g6, g7⟩ := h
  refine ⟨?_, ?_, ?_, ?_, ?_, ?_, ?_⟩
  · refine ⟨(h1 8 (by decide)).trans (g1.1.trans (ue 0 (by omega)).symm), (h1 9 (by decide)).trans (g1.2.1.trans (ue 3 (by omega)).symm), (h1 10 (by decide)).trans (g1.2.2.1.trans (ue 5 (by omega)).symm), (h1 11 (by decide)).trans (g1.2.2.2.1.trans (ue 6 (by omega)).symm), (h1 12 (by decide)).trans (g1.2.2.2.2.1.trans (ue 8 (by omega)).symm), h7.trans rfl, ?_, ?_⟩
    · show 0 ≤ s1 1 6
      rw [h1 6 (by decide)]; omega
    · show s1 1 6 < 30
      rw [h1 6 (by decide)]; omega
  · intro x a b; rw [hc _ (by omega) (by omega), ue _ (by omega)]; exact g2 x a b
  · intro k w a b c d
    rw [ue 0 (by omega)] at b
    have := vV.1
    rw [hc _ (by omega) (by omega), un_else vB.1 (Or.inr (Or.inr (Or.inr (Or.inr (Or.inr (Or.inr ⟨k, w, a, c, d, rfl⟩))))))]; exact g3 k w a b c d
  · intro i a b
    rw [ue 8 (by omega)] at b
    have := vR.2.2.2.1
    rw [hc _ (by omega) (by omega), ue _ (by omega), ue _ (by omega), ue _ (by omega), ue _ (by omega)]; exact g4 i a b
  · obtain ⟨n1, n2, n3, n4, n5, n6, n7, n8⟩ := hn
    have vm := g.1.2.1
    refine sc_mk n1 n2 n3 n4 ?_ ?_ ?_ ?_ (by rw [ulg]; exact n8)
    · intro x a b; rw [un_many a (by omega)]; exact (vm x a b).2
    · intro x a b; rw [un_many a (by omega)]; exact n5 x a b
    · intro x p a b c d
      rw [un_many a (by omega)] at d
      have := vm x a b
      rw [show 16 + 10 * x + p = 13 + (3 + 10 * x + p) by omega, un_many (by omega) (by omega), show 5 + (3 + 10 * x + p) = 8 + 10 * x + p by omega]
      exact n6 x p a b c d
    · intro b a c
      rw [ue 0 (by omega)]
      have q := n7 b a c
      rw [show 2 + 6 = 8 from rfl] at q
      rw [q]
      by_cases hb : b < A 0
      · rw [if_pos hb, un_wh a hb]
      · rw [if_neg hb, if_neg (by omega)]
  · intro i a b
    have e7 : undoF A 7 = A 7 - 1 := rfl
    rw [e7] at b
    show SC s1 (0 + 25 + 8 * ((s1 1 6 + i) % 30).toNat) _ _
    rw [h1 6 (by decide)]
    have q := g6 i a (by omega)
    exact (q.of (fun e q1 q2 => hc e (by omega) (by omega))).congr (vS i a (by omega)).1 (fun k k0 k1 => ue _ (by omega)) (fun j _ _ => by rw [ulg])
  · intro i a b
    rw [ue 5 (by omega)] at b
    have := vV.2.2.2.1
    exact (g7 i a b).of (fun e q1 q2 => hc e (by omega) (by omega))
