/-! Rows alike on their 3642 slots. -/
theorem VA_same {A A' T : Int → Int} (n : ∀ k, 0 ≤ k → k < 3642 → A' k = A k) (h : VA A T) : VA A' T := by
  obtain ⟨hV, hB, hR, hS, hG, h9⟩ := h
  have g0 := hV.1
  have g7 := hR.2.2.1
  have g8 := hR.2.2.2.1
  have es : ∀ i k, 0 ≤ i → i ≤ 30 → 0 ≤ k → k < 48 → stp A' i k = stp A i k := fun i k a b c d => n _ (by omega) (by omega)
  refine ⟨?_, okB_lo (fun k a => n k (by omega) (by omega)) hB, okR_lo (fun k a => n k (by omega) (by omega)) (by rw [n 1 (by decide) (by decide)]; exact hR.1) (by rw [n 4 (by decide) (by decide)]; exact hR.2.1) (by rw [n 7 (by decide) (by decide)]; exact g7) hR, ?_, ?_, ?_⟩
  · obtain ⟨j1, j2, j3, j4, j5, j6, j7⟩ := hV
    refine ⟨by rw [n 0 (by decide) (by decide)]; exact j1, by rw [n 2 (by decide) (by decide)]; exact j2, by rw [n 3 (by decide) (by decide)]; exact j3, by rw [n 5 (by decide) (by decide)]; exact j4, by rw [n 5 (by decide) (by decide), n 6 (by decide) (by decide)]; exact j5, ?_, by rw [n 5 (by decide) (by decide)]; exact j7⟩
    intro b a c
    rw [n 0 (by decide) (by decide)] at c
    have q := j6 b a c
    exact ⟨fun w w0 w1 => by rw [n _ (by omega) (by omega)]; exact q.1 w w0 w1, by rw [n _ (by omega) (by omega)]; exact q.2.1, by rw [n _ (by omega) (by omega)]; exact q.2.2⟩
  · intro i a b
    rw [n 7 (by decide) (by decide)] at b ⊢
    have q := hS i a b
    rw [es i 0 a (by omega) (by decide) (by decide), es i 1 a (by omega) (by decide) (by decide), es i 2 a (by omega) (by decide) (by decide), es i 3 a (by omega) (by decide) (by decide), es i 4 a (by omega) (by decide) (by decide), es (i + 1) 4 (by omega) (by omega) (by decide) (by decide), n 0 (by decide) (by decide)]
    exact ⟨okV_congr q.1 (fun k k0 k1 => es i k a (by omega) k0 k1), q.2⟩
  · intro q
    rw [n 7 (by decide) (by decide)] at q ⊢
    rw [es _ 4 (by omega) (by omega) (by decide) (by decide), n 9 (by decide) (by decide)]
    exact hG q
  · rw [n 9 (by decide) (by decide), n 1 (by decide) (by decide)]
    exact h9
theorem okLg_same {A A' : Int → Int} (n : ∀ k, 0 ≤ k → k < 3642 → A' k = A k) (h : okLg A) : okLg A' := by
  intro j a b
  rw [n _ (by omega) (by omega), n _ (by omega) (by omega), n _ (by omega) (by omega), n _ (by omega) (by omega)]
  exact h j a b
theorem cpR_same (B A : Int → Int) : ∀ k, 0 ≤ k → k < 3642 → cpR B A k = B k := fun k a b => if_pos ⟨a, b⟩
