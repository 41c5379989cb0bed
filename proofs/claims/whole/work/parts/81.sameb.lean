/-! The class's library beside rows alike. -/
theorem lb_same {o : Nat} {s : Nat → Int → Int} {A A' T : Int → Int} (n : ∀ k, 0 ≤ k → k < 3642 → A' k = A k) (h : LB o s A T) (hK : KA A T) : LB o s A' T := by
  have g0 := hK.1.1
  have g5 := hK.1.2.2.2.1
  have g7 := hK.2.2.1.2.2.1
  have g8 := hK.2.2.1.2.2.2.1
  have hl : lgA A' = lgA A := by
    funext i
    have a : 0 ≤ i % 512 := Int.emod_nonneg _ (by decide)
    have b : i % 512 < 512 := Int.emod_lt_of_pos _ (by decide)
    unfold lgA
    rw [n _ (by omega) (by omega), n _ (by omega) (by omega), n _ (by omega) (by omega), n _ (by omega) (by omega)]
  obtain ⟨g1, g2, g3, g4, g5', g6, g7'⟩ := h
  refine ⟨?_, ?_, ?_, ?_, ?_, ?_, ?_⟩
  · rw [n 0 (by decide) (by decide), n 3 (by decide) (by decide), n 5 (by decide) (by decide), n 6 (by decide) (by decide), n 8 (by decide) (by decide), n 7 (by decide) (by decide)]
    exact g1
  · intro y a b
    rw [n _ (by omega) (by omega)]
    exact g2 y a b
  · intro k v a b c d
    rw [n 0 (by decide) (by decide)] at b
    rw [n _ (by omega) (by omega)]
    exact g3 k v a b c d
  · intro i a b
    rw [n 8 (by decide) (by decide)] at b
    rw [n (106 + 4 * i) (by omega) (by omega), n (107 + 4 * i) (by omega) (by omega), n (108 + 4 * i) (by omega) (by omega), n (109 + 4 * i) (by omega) (by omega)]
    exact g4 i a b
  · rw [hl]
    refine g5'.congr (okB_V hK.2.1) (fun k k0 k1 => ?_) (fun j _ _ => rfl)
    unfold cur
    (repeat' split) <;> exact n _ (by omega) (by omega)
  · intro i a b
    rw [n 7 (by decide) (by decide)] at b
    rw [hl]
    exact (g6 i a b).congr (hK.2.2.2 i a b).1 (fun k k0 k1 => n _ (by omega) (by omega)) (fun _ _ _ => rfl)
  · intro i a b
    rw [n 5 (by decide) (by decide)] at b
    exact g7' i a b
