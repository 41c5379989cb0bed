/-! A row with a text more. -/
theorem lb_grow {s s1 : Nat → Int → Int} {A T : Int → Int} {t : Nat} (h : LB 0 s A T) (hK : KA A T) (h45 : 0 ≤ A 5 ∧ A 5 < 4) (ht : t = 265 + 6 * (A 5).toNat) (hc : ∀ e, e ≠ 1 → 1 ≤ e → e < t → s1 e = s e) (hw : ∀ k, s1 1 k = if k = 10 then A 5 + 1 else s 1 k) (hT : TX s1 t T (705 * A 5)) : LB 0 s1 (set1 A 5 (A 5 + 1)) T := by
  have hl : lgA (set1 A 5 (A 5 + 1)) = lgA A := set1_lg (by omega)
  obtain ⟨g1, g2, g3, g4, g5, g6, g7⟩ := h
  have n : ∀ k, k ≠ 5 → set1 A 5 (A 5 + 1) k = A k := fun k q => set1_ne (by omega)
  refine ⟨?_, ?_, ?_, ?_, ?_, ?_, ?_⟩
  · have h1 : ∀ k, k ≠ 10 → s1 (0 + 1) k = s (0 + 1) k := fun k q => (hw k).trans (if_neg q)
    rw [h1 8 (by decide), h1 9 (by decide), h1 11 (by decide), h1 12 (by decide), h1 7 (by decide), h1 6 (by decide), n 0 (by omega), n 3 (by omega), n 6 (by omega), n 8 (by omega), n 7 (by omega)]
    exact ⟨g1.1, g1.2.1, ((hw 10).trans (if_pos rfl)).trans (if_pos rfl : set1 A 5 (A 5 + 1) 5 = A 5 + 1).symm, g1.2.2.2⟩
  · intro y a b
    rw [hc _ (by omega) (by omega) (by omega), n _ (by omega)]; exact g2 y a b
  · intro k v a b c d
    rw [n 0 (by omega)] at b
    have := hK.1.1
    rw [hc _ (by omega) (by omega) (by omega), n _ (by omega)]
    exact g3 k v a b c d
  · intro i a b
    rw [n 8 (by omega)] at b
    rw [hc _ (by omega) (by omega) (by omega), n _ (by omega), n _ (by omega), n _ (by omega), n _ (by omega)]
    exact g4 i a b
  · rw [hl]
    refine (g5.of (fun e q1 q2 => hc e (by omega) (by omega) (by omega))).congr (okB_V hK.2.1) (fun k k0 k1 => ?_) (fun j _ _ => rfl)
    unfold cur
    (repeat' split) <;> first | rfl | exact n _ (by omega)
  · intro i a b
    rw [n 7 (by omega)] at b
    rw [hl, show s1 (0 + 1) 6 = s (0 + 1) 6 from (hw 6).trans (if_neg (by decide))]
    exact ((g6 i a b).of (fun e q1 q2 => hc e (by omega) (by omega) (by omega))).congr (hK.2.2.2 i a b).1 (fun k k0 k1 => n _ (by omega)) (fun _ _ _ => rfl)
  · intro i a b
    have b : i < A 5 + 1 := by rw [show set1 A 5 (A 5 + 1) 5 = A 5 + 1 from if_pos rfl] at b; exact b
    rcases (by omega : i < A 5 ∨ i = A 5) with q | q
    · exact (g7 i a q).of (fun e q1 q2 => hc e (by omega) (by omega) (by omega))
    · rw [q]
      have e9 : 0 + 265 + 6 * (A 5).toNat = t := by omega
      rw [e9]
      exact hT
theorem grow_VA {A T : Int → Int} (h : VA A T) (h4 : A 5 < 4) (hT : VT T (705 * A 5)) : VA (set1 A 5 (A 5 + 1)) T := by
  obtain ⟨hV, hB, hR, hS, hG, h9⟩ := h
  have n : ∀ k, k ≠ 5 → set1 A 5 (A 5 + 1) k = A k := fun k q => set1_ne (by omega)
  have es : ∀ i k, 0 ≤ i → 0 ≤ k → stp (set1 A 5 (A 5 + 1)) i k = stp A i k := fun i k a b => n _ (by omega)
  refine ⟨?_, okB_lo (fun k a => n k (by omega)) hB, ?_, ?_, ?_, ?_⟩
  · obtain ⟨j1, j2, j3, j4, j5, j6, j7⟩ := hV
    refine ⟨by rw [n 0 (by decide)]; exact j1, by rw [n 2 (by decide)]; exact j2, by rw [n 3 (by decide)]; exact j3, by rw [show set1 A 5 (A 5 + 1) 5 = A 5 + 1 from if_pos rfl]; omega, by rw [show set1 A 5 (A 5 + 1) 5 = A 5 + 1 from if_pos rfl, n 6 (by decide)]; omega, ?_, fun i i0 i1 => by
      rw [show set1 A 5 (A 5 + 1) 5 = A 5 + 1 from if_pos rfl] at i1
      rcases (by omega : i < A 5 ∨ i = A 5) with g | g
      · exact j7 i i0 g
      · rw [g]; exact hT⟩
    intro b a c
    rw [n 0 (by decide)] at c
    have q := j6 b a c
    exact ⟨fun w w0 w1 => by rw [n _ (by omega)]; exact q.1 w w0 w1, by rw [n _ (by omega)]; exact q.2.1, by rw [n _ (by omega)]; exact q.2.2⟩
  · obtain ⟨r1, r2, r3, r4, r5, r6⟩ := hR
    refine ⟨by rw [n 1 (by decide)]; exact r1, by rw [n 4 (by decide)]; exact r2, by rw [n 7 (by decide)]; exact r3, by rw [n 8 (by decide)]; exact r4, fun y a b => ?_, fun i a b => ?_⟩
    · rw [n _ (by omega)]
      exact r5 y a b
    · rw [n 8 (by decide)] at b
      rw [n (106 + 4 * i) (by omega), n (107 + 4 * i) (by omega), n (108 + 4 * i) (by omega), n (109 + 4 * i) (by omega), n 0 (by decide)]
      exact r6 i a b
  · intro i a b
    rw [n 7 (by decide)] at b ⊢
    have q := hS i a b
    rw [es i 0 a (by decide), es i 1 a (by decide), es i 2 a (by decide), es i 3 a (by decide), es i 4 a (by decide), es (i + 1) 4 (by omega) (by decide), n 0 (by decide)]
    exact ⟨okV_congr q.1 (fun k k0 _ => es i k a k0), q.2⟩
  · intro q
    rw [n 7 (by decide)] at q ⊢
    rw [es _ 4 (by omega) (by decide), n 9 (by decide)]
    exact hG q
  · rw [n 9 (by decide), n 1 (by decide)]
    exact h9
