/-! DUST: the rows. -/
theorem lb_dusts {s s1 : Nat → Int → Int} {A A' T : Int → Int} (h : LB 0 s A T) (hK : KA A T) (n : ∀ k, k ≠ 8 → ¬ (106 ≤ k ∧ k < 154) → A' k = A k) (hc : ∀ e, e ≠ 1 → e ≠ 24 → s1 e = s e) (hw : ∀ k, s1 1 k = if k = 12 then A' 8 else s 1 k) (hd : ∀ i, 0 ≤ i → i < A' 8 → s1 24 i = A' (106 + 4 * i) + 16 * A' (107 + 4 * i) + 256 * A' (108 + 4 * i) + 512 * A' (109 + 4 * i)) : LB 0 s1 A' T := by
  have hl : lgA A' = lgA A := by
    funext i
    have : 0 ≤ i % 512 := Int.emod_nonneg _ (by decide)
    unfold lgA
    rw [n _ (by omega) (by omega), n _ (by omega) (by omega), n _ (by omega) (by omega), n _ (by omega) (by omega)]
  obtain ⟨g1, g2, g3, g4, g5, g6, g7⟩ := h
  refine ⟨?_, ?_, ?_, ?_, ?_, ?_, ?_⟩
  · have h1 : ∀ k, k ≠ 12 → s1 (0 + 1) k = s (0 + 1) k := fun k q => (hw k).trans (if_neg q)
    rw [h1 8 (by decide), h1 10 (by decide), h1 11 (by decide), h1 9 (by decide), h1 7 (by decide), h1 6 (by decide), n 0 (by omega) (by omega), n 5 (by omega) (by omega), n 6 (by omega) (by omega), n 3 (by omega) (by omega), n 7 (by omega) (by omega)]
    exact ⟨g1.1, g1.2.1, g1.2.2.1, g1.2.2.2.1, (hw 12).trans (if_pos rfl), g1.2.2.2.2.2⟩
  · intro y a b
    rw [hc _ (by omega) (by omega), n _ (by omega) (by omega)]; exact g2 y a b
  · intro k v a b c d
    rw [n 0 (by omega) (by omega)] at b
    have := hK.1.1
    rw [hc _ (by omega) (by omega), n _ (by omega) (by omega)]
    exact g3 k v a b c d
  · exact hd
  · rw [hl]
    refine (g5.of (fun e q1 q2 => hc e (by omega) (by omega))).congr (okB_V hK.2.1) (fun k k0 k1 => ?_) (fun j _ _ => rfl)
    unfold cur
    (repeat' split) <;> first | rfl | exact n _ (by omega) (by omega)
  · intro i a b
    rw [n 7 (by omega) (by omega)] at b
    rw [hl, show s1 (0 + 1) 6 = s (0 + 1) 6 from (hw 6).trans (if_neg (by decide))]
    exact ((g6 i a b).of (fun e q1 q2 => hc e (by omega) (by omega))).congr (hK.2.2.2 i a b).1 (fun k k0 k1 => n _ (by omega) (by omega)) (fun j _ _ => rfl)
  · intro i a b
    rw [n 5 (by omega) (by omega)] at b
    exact (g7 i a b).of (fun e q1 q2 => hc e (by omega) (by omega))
theorem dusts_VA {A A' T : Int → Int} (h : VA A T) (n : ∀ k, k ≠ 8 → ¬ (106 ≤ k ∧ k < 154) → A' k = A k) (h8 : 0 ≤ A' 8 ∧ A' 8 ≤ 12) (hd : ∀ i, 0 ≤ i → i < A' 8 → (0 ≤ A' (106 + 4 * i) ∧ A' (106 + 4 * i) < A 0) ∧ (0 ≤ A' (107 + 4 * i) ∧ A' (107 + 4 * i) < A 0) ∧ A' (106 + 4 * i) ≠ A' (107 + 4 * i) ∧ (A' (108 + 4 * i) = 0 ∨ A' (108 + 4 * i) = 1) ∧ (A' (109 + 4 * i) = 0 ∨ A' (109 + 4 * i) = 1)) : VA A' T := by
  obtain ⟨hV, hB, hR, hS, hG, h9⟩ := h
  have es : ∀ i k, 0 ≤ i → 0 ≤ k → stp A' i k = stp A i k := fun i k a b => n _ (by omega) (by omega)
  refine ⟨?_, okB_lo (fun k a => n k (by omega) (by omega)) hB, ?_, ?_, ?_, ?_⟩
  · obtain ⟨j1, j2, j3, j4, j5, j6, j7⟩ := hV
    refine ⟨by rw [n 0 (by decide) (by decide)]; exact j1, by rw [n 2 (by decide) (by decide)]; exact j2, by rw [n 3 (by decide) (by decide)]; exact j3, by rw [n 5 (by decide) (by decide)]; exact j4, by rw [n 5 (by decide) (by decide), n 6 (by decide) (by decide)]; exact j5, ?_, by rw [n 5 (by decide) (by decide)]; exact j7⟩
    intro b a c
    rw [n 0 (by decide) (by decide)] at c
    have q := j6 b a c
    exact ⟨fun w w0 w1 => by rw [n _ (by omega) (by omega)]; exact q.1 w w0 w1, by rw [n _ (by omega) (by omega)]; exact q.2.1, by rw [n _ (by omega) (by omega)]; exact q.2.2⟩
  · obtain ⟨r1, r2, r3, r4, r5, r6⟩ := hR
    refine ⟨by rw [n 1 (by decide) (by decide)]; exact r1, by rw [n 4 (by decide) (by decide)]; exact r2, by rw [n 7 (by decide) (by decide)]; exact r3, h8, fun y a b => ?_, fun i a b => ?_⟩
    · rw [n _ (by omega) (by omega)]
      exact r5 y a b
    · rw [n 0 (by decide) (by decide)]
      exact hd i a b
  · intro i a b
    rw [n 7 (by decide) (by decide)] at b ⊢
    have q := hS i a b
    rw [es i 0 a (by decide), es i 1 a (by decide), es i 2 a (by decide), es i 3 a (by decide), es i 4 a (by decide), es (i + 1) 4 (by omega) (by decide), n 0 (by decide) (by decide)]
    exact ⟨okV_congr q.1 (fun k k0 _ => es i k a k0), q.2⟩
  · intro q
    rw [n 7 (by decide) (by decide)] at q ⊢
    rw [es _ 4 (by omega) (by decide), n 9 (by decide) (by decide)]
    exact hG q
  · rw [n 9 (by decide) (by decide), n 1 (by decide) (by decide)]
    exact h9
/-- one more dust -/
def dustF (A : Int → Int) (b o r p : Int) : Int → Int := fun k => if k = 8 then A 8 + 1 else if k = 106 + 4 * A 8 then b else if k = 107 + 4 * A 8 then o else if k = 108 + 4 * A 8 then r else if k = 109 + 4 * A 8 then p else A k
def dustR (A : Int → Int) (b o r p : Int) : (Int → Int) × Int := if b = -1 then (set1 A 8 0, 0) else if (0 ≤ b ∧ b < A 0) ∧ (0 ≤ o ∧ o < A 0) ∧ b ≠ o ∧ A 8 < 12 then (dustF A b o r p, A 8 + 1) else (A, -2)
theorem dustF_8 (A : Int → Int) (b o r p : Int) : dustF A b o r p 8 = A 8 + 1 := if_pos rfl
theorem dustF_ne {A : Int → Int} {b o r p k : Int} (h : k ≠ 8) (g : ¬ (106 + 4 * A 8 ≤ k ∧ k ≤ 109 + 4 * A 8)) : dustF A b o r p k = A k := by
  unfold dustF
  rw [if_neg h, if_neg (by omega), if_neg (by omega), if_neg (by omega), if_neg (by omega)]
theorem dustF_at {A : Int → Int} {b o r p : Int} (h : 0 ≤ A 8) : dustF A b o r p (106 + 4 * A 8) = b ∧ dustF A b o r p (107 + 4 * A 8) = o ∧ dustF A b o r p (108 + 4 * A 8) = r ∧ dustF A b o r p (109 + 4 * A 8) = p := by
  unfold dustF
  refine ⟨?_, ?_, ?_, ?_⟩
  · rw [if_neg (by omega), if_pos rfl]
  · rw [if_neg (by omega), if_neg (by omega), if_pos rfl]
  · rw [if_neg (by omega), if_neg (by omega), if_neg (by omega), if_pos rfl]
  · rw [if_neg (by omega), if_neg (by omega), if_neg (by omega), if_neg (by omega), if_pos rfl]
theorem dustR_ok {A T : Int → Int} (h : VA A T) (b o r p : Int) (hr : r = 0 ∨ r = 1) (hp : p = 0 ∨ p = 1) : VA (dustR A b o r p).1 T := by
  have h8 := h.2.2.1.2.2.2.1
  unfold dustR
  split
  · show VA (set1 A 8 0) T
    refine dusts_VA h (fun k a _ => set1_ne a) ?_ (fun i a b => ?_)
    · show 0 ≤ set1 A 8 0 8 ∧ set1 A 8 0 8 ≤ 12
      rw [show set1 A 8 0 8 = 0 from if_pos rfl]; omega
    · rw [show set1 A 8 0 8 = 0 from if_pos rfl] at b; omega
  · split
    · rename_i q
      show VA (dustF A b o r p) T
      refine dusts_VA h (fun k a c => dustF_ne a (by omega)) ?_ (fun i a c => ?_)
      · show 0 ≤ dustF A b o r p 8 ∧ dustF A b o r p 8 ≤ 12
        rw [dustF_8]; omega
      · rw [dustF_8] at c
        by_cases z : i = A 8
        · have e := dustF_at (A := A) (b := b) (o := o) (r := r) (p := p) h8.1
          rw [z, e.1, e.2.1, e.2.2.1, e.2.2.2]
          exact ⟨q.1, q.2.1, q.2.2.1, hr, hp⟩
        · rw [dustF_ne (by omega) (by omega), dustF_ne (by omega) (by omega), dustF_ne (by omega) (by omega), dustF_ne (by omega) (by omega)]
          exact h.2.2.1.2.2.2.2.2 i a (by omega)
    · exact h
