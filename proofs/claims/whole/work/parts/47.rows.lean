/-! Books on shelves: what holds of a row, and how moves change it. -/
/-- of distinct numbers below n there are at most n -/
theorem pigeon : ∀ (n m : Nat) (f : Nat → Int), (∀ i, i < m → 0 ≤ f i ∧ f i < n) → (∀ i j, i < j → j < m → f i ≠ f j) → m ≤ n
  | 0, m, f, h, _ => by
    rcases Nat.eq_zero_or_pos m with q | q
    · omega
    · have := h 0 q
      omega
  | n + 1, m, f, h, hd => by
    by_cases hex : ∃ i, i < m ∧ f i = n
    · obtain ⟨i, hi, hfi⟩ := hex
      have := pigeon n (m - 1) (fun j => if j < i then f j else f (j + 1)) (fun j hj => by
        split
        · rename_i q
          have h1 := h j (by omega)
          have h2 := hd j i q hi
          omega
        · rename_i q
          have h1 := h (j + 1) (by omega)
          have h2 := hd i (j + 1) (by omega) (by omega)
          omega) (fun j k hjk hk => by
        split <;> split
        · exact hd j k hjk (by omega)
        · exact hd j (k + 1) (by omega) (by omega)
        · omega
        · exact hd (j + 1) (k + 1) (by omega) (by omega))
      omega
    · have := pigeon n m f (fun j hj => by
        have h1 := h j hj
        have h2 : f j ≠ n := fun q => hex ⟨j, hj, q⟩
        omega) hd
      omega
/-- books on shelves, in a row -/
def okB (A : Int → Int) : Prop := (0 ≤ A 0 ∧ A 0 ≤ 10) ∧ (∀ x, 0 ≤ x → x < 3 → 0 ≤ A (13 + x) ∧ A (13 + x) ≤ 10) ∧
  (∀ x p, 0 ≤ x → x < 3 → 0 ≤ p → p < A (13 + x) → 0 ≤ A (16 + 10 * x + p) ∧ A (16 + 10 * x + p) < A 0 ∧ A (46 + 6 * A (16 + 10 * x + p) + 5) = x) ∧
  (∀ x p q, 0 ≤ x → x < 3 → 0 ≤ p → p < q → q < A (13 + x) → A (16 + 10 * x + p) ≠ A (16 + 10 * x + q)) ∧
  (∀ b, 0 ≤ b → b < A 0 → (0 ≤ A (46 + 6 * b + 5) ∧ A (46 + 6 * b + 5) ≤ 4) ∧ (A (46 + 6 * b + 5) ≤ 2 → ∃ p, 0 ≤ p ∧ p < A (13 + A (46 + 6 * b + 5)) ∧ A (16 + 10 * A (46 + 6 * b + 5) + p) = b))
/-- the same of a view (a step's form) -/
def okV (v : Int → Int) : Prop := (0 ≤ v 0 ∧ v 0 ≤ 10) ∧ (∀ x, 0 ≤ x → x < 3 → 0 ≤ v (5 + x) ∧ v (5 + x) ≤ 10) ∧
  (∀ x p, 0 ≤ x → x < 3 → 0 ≤ p → p < v (5 + x) → 0 ≤ v (8 + 10 * x + p) ∧ v (8 + 10 * x + p) < v 0 ∧ v (38 + v (8 + 10 * x + p)) = x) ∧
  (∀ x p q, 0 ≤ x → x < 3 → 0 ≤ p → p < q → q < v (5 + x) → v (8 + 10 * x + p) ≠ v (8 + 10 * x + q)) ∧
  (∀ b, 0 ≤ b → b < v 0 → (0 ≤ v (38 + b) ∧ v (38 + b) ≤ 4) ∧ (v (38 + b) ≤ 2 → ∃ p, 0 ≤ p ∧ p < v (5 + v (38 + b)) ∧ v (8 + 10 * v (38 + b) + p) = b))
theorem cur_many (A : Int → Int) {x : Int} (h0 : 0 ≤ x) (h1 : x < 3) : cur A (5 + x) = A (13 + x) := by
  unfold cur
  (repeat' split) <;> first | (congr 1; omega) | omega
theorem cur_pl (A : Int → Int) {x p : Int} (h0 : 0 ≤ x) (h1 : x < 3) (h2 : 0 ≤ p) (h3 : p < 10) : cur A (8 + 10 * x + p) = A (16 + 10 * x + p) := by
  unfold cur
  (repeat' split) <;> first | (congr 1; omega) | omega
theorem cur_wh (A : Int → Int) {b : Int} (h0 : 0 ≤ b) : cur A (38 + b) = A (46 + 6 * b + 5) := by
  unfold cur
  (repeat' split) <;> first | (congr 1; omega) | omega
theorem okB_V {A : Int → Int} (h : okB A) : okV (cur A) := by
  obtain ⟨h0, h1, h2, h3, h4⟩ := h
  have e0 : cur A 0 = A 0 := rfl
  refine ⟨h0, ?_, ?_, ?_, ?_⟩
  · intro x a b; rw [cur_many A a b]; exact h1 x a b
  · intro x p a b c d
    rw [cur_many A a b] at d
    have g1 := h1 x a b
    have g := h2 x p a b c d
    rw [cur_pl A a b c (by omega), cur_wh A g.1]
    exact g
  · intro x p q a b c d e
    rw [cur_many A a b] at e
    have g1 := h1 x a b
    rw [cur_pl A a b c (by omega), cur_pl A a b (by omega) (by omega)]
    exact h3 x p q a b c d e
  · intro b a c
    have g := h4 b a c
    rw [cur_wh A a]
    refine ⟨g.1, fun q => ?_⟩
    obtain ⟨p, p0, p1, p2⟩ := g.2 q
    have g1 := h1 _ g.1.1 (by omega)
    refine ⟨p, p0, ?_, ?_⟩
    · rw [cur_many A g.1.1 (by omega)]; exact p1
    · rw [cur_pl A g.1.1 (by omega) p0 (by omega)]; exact p2
theorem okV_congr {v w : Int → Int} (h : okV v) (e : ∀ k, 0 ≤ k → k < 48 → w k = v k) : okV w := by
  obtain ⟨h0, h1, h2, h3, h4⟩ := h
  have e0 := e 0 (by decide) (by decide)
  refine ⟨by rw [e0]; exact h0, ?_, ?_, ?_, ?_⟩
  · intro x a b; rw [e _ (by omega) (by omega)]; exact h1 x a b
  · intro x p a b c d
    have g1 := h1 x a b
    rw [e (5 + x) (by omega) (by omega)] at d
    have g := h2 x p a b c d
    rw [e (8 + 10 * x + p) (by omega) (by omega), e0, e (38 + _) (by omega) (by omega)]
    exact g
  · intro x p q a b c d f
    have g1 := h1 x a b
    rw [e (5 + x) (by omega) (by omega)] at f
    rw [e (8 + 10 * x + p) (by omega) (by omega), e (8 + 10 * x + q) (by omega) (by omega)]
    exact h3 x p q a b c d f
  · intro b a c
    rw [e0] at c
    have g := h4 b a c
    rw [e (38 + b) (by omega) (by omega)]
    refine ⟨g.1, fun q => ?_⟩
    obtain ⟨p, p0, p1, p2⟩ := g.2 q
    have g1 := h1 _ g.1.1 (by omega)
    refine ⟨p, p0, ?_, ?_⟩
    · rw [e _ (by omega) (by omega)]; exact p1
    · rw [e _ (by omega) (by omega)]; exact p2
/-- a book goes from place p of shelf x -/
def pullF (A : Int → Int) (x p to : Int) : Int → Int := fun k => if k = 46 + 6 * A (16 + 10 * x + p) + 5 then to else if k = 13 + x then A k - 1 else if 16 + 10 * x + p ≤ k ∧ k < 16 + 10 * x + A (13 + x) - 1 then A (k + 1) else A k
/-- a book comes to place p of shelf x -/
def setF (A : Int → Int) (b x p : Int) : Int → Int := fun k => if k = 46 + 6 * b + 5 then x else if k = 13 + x then A k + 1 else if 16 + 10 * x + p < k ∧ k ≤ 16 + 10 * x + A (13 + x) then A (k - 1) else if k = 16 + 10 * x + p then b else A k
/-- a book that is on no shelf goes elsewhere -/
def whF (A : Int → Int) (b to : Int) : Int → Int := fun k => if k = 46 + 6 * b + 5 then to else A k
/-- the two at places p and p + 1 change -/
def exF (A : Int → Int) (x p : Int) : Int → Int := fun k => if k = 16 + 10 * x + p then A (k + 1) else if k = 16 + 10 * x + p + 1 then A (k - 1) else A k
section PULL
variable {A : Int → Int} {x p to : Int}
theorem pull_pl {y q : Int} (hB : okB A) (hx0 : 0 ≤ x) (hx1 : x < 3) (hp0 : 0 ≤ p) (hp1 : p < A (13 + x)) (hy0 : 0 ≤ y) (hy1 : y < 3) (hq0 : 0 ≤ q) (hq1 : q < 10) : pullF A x p to (16 + 10 * y + q) = if y = x ∧ p ≤ q ∧ q < A (13 + x) - 1 then A (16 + 10 * y + (q + 1)) else A (16 + 10 * y + q) := by
  have g := hB.2.2.1 x p hx0 hx1 hp0 hp1
  have g1 := hB.2.1 x hx0 hx1
  unfold pullF
  rw [if_neg (by omega), if_neg (by omega)]
  by_cases h : y = x ∧ p ≤ q ∧ q < A (13 + x) - 1
  · rw [if_pos h, if_pos (by omega)]
    congr 1
    omega
  · rw [if_neg h, if_neg (by omega)]
theorem pull_many {y : Int} (hB : okB A) (hx0 : 0 ≤ x) (hx1 : x < 3) (hp0 : 0 ≤ p) (hp1 : p < A (13 + x)) (hy0 : 0 ≤ y) (hy1 : y < 3) : pullF A x p to (13 + y) = if y = x then A (13 + y) - 1 else A (13 + y) := by
  have g := hB.2.2.1 x p hx0 hx1 hp0 hp1
  unfold pullF
  rw [if_neg (by omega)]
  by_cases h : y = x
  · rw [if_pos h, if_pos (by omega)]
  · rw [if_neg h, if_neg (by omega), if_neg (by omega)]
theorem pull_wh {b : Int} (hB : okB A) (hx0 : 0 ≤ x) (hx1 : x < 3) (hp0 : 0 ≤ p) (hp1 : p < A (13 + x)) (hb0 : 0 ≤ b) : pullF A x p to (46 + 6 * b + 5) = if b = A (16 + 10 * x + p) then to else A (46 + 6 * b + 5) := by
  have g := hB.2.2.1 x p hx0 hx1 hp0 hp1
  have g1 := hB.2.1 x hx0 hx1
  unfold pullF
  by_cases h : b = A (16 + 10 * x + p)
  · rw [if_pos h, if_pos (by omega)]
  · rw [if_neg h, if_neg (by omega), if_neg (by omega), if_neg (by omega)]
theorem pull_else {k : Int} (hB : okB A) (hx0 : 0 ≤ x) (hx1 : x < 3) (hp0 : 0 ≤ p) (hp1 : p < A (13 + x)) (h1 : k < 13 ∨ 46 ≤ k) (h2 : ∀ b, 0 ≤ b → b < 10 → k ≠ 46 + 6 * b + 5) : pullF A x p to k = A k := by
  have g := hB.2.2.1 x p hx0 hx1 hp0 hp1
  have g1 := hB.2.1 x hx0 hx1
  have g0 := hB.1
  have := h2 (A (16 + 10 * x + p)) g.1 (by omega)
  unfold pullF
  rw [if_neg this, if_neg (by omega), if_neg (by omega)]
theorem pull_ok (hB : okB A) (hx0 : 0 ≤ x) (hx1 : x < 3) (hp0 : 0 ≤ p) (hp1 : p < A (13 + x)) (ht : to = 3 ∨ to = 4) : okB (pullF A x p to) := by
  have hB' := hB
  obtain ⟨h0, h1, h2, h3, h4⟩ := hB
  have gb := h2 x p hx0 hx1 hp0 hp1
  have e0 : pullF A x p to 0 = A 0 := pull_else hB' hx0 hx1 hp0 hp1 (by decide) (fun b _ _ => by omega)
  refine ⟨by rw [e0]; exact h0, ?_, ?_, ?_, ?_⟩
  · intro y a b
    rw [pull_many hB' hx0 hx1 hp0 hp1 a b]
    have := h1 y a b
    split
    · rename_i q; subst q; omega
    · exact this
  · intro y q a b c d
    rw [pull_many hB' hx0 hx1 hp0 hp1 a b] at d
    have g1 := h1 y a b
    have hq : q < 10 := by split at d <;> omega
    rw [pull_pl hB' hx0 hx1 hp0 hp1 a b c hq, e0]
    by_cases hc : y = x ∧ p ≤ q ∧ q < A (13 + x) - 1
    · rw [if_pos hc]
      obtain ⟨rfl, c1, c2⟩ := hc
      have g := h2 y (q + 1) a b (by omega) (by omega)
      have gn := h3 y p (q + 1) a b hp0 (by omega) (by omega)
      rw [pull_wh hB' hx0 hx1 hp0 hp1 g.1, if_neg (fun h => gn h.symm)]
      exact g
    · rw [if_neg hc]
      have hq2 : q < A (13 + y) := by split at d <;> omega
      have g := h2 y q a b c hq2
      have gn : A (16 + 10 * y + q) ≠ A (16 + 10 * x + p) := by
        intro h
        by_cases hy : y = x
        · subst hy
          rw [if_pos rfl] at d
          have := h3 y q p a b c (by omega) hp1
          exact this h
        · have e1 := g.2.2
          rw [h, gb.2.2] at e1
          omega
      rw [pull_wh hB' hx0 hx1 hp0 hp1 g.1, if_neg gn]
      exact g
  · intro y q r a b c d e
    rw [pull_many hB' hx0 hx1 hp0 hp1 a b] at e
    have g1 := h1 y a b
    have hr : r < 10 := by split at e <;> omega
    rw [pull_pl hB' hx0 hx1 hp0 hp1 a b c (by omega), pull_pl hB' hx0 hx1 hp0 hp1 a b (by omega) hr]
    have e2 : r < A (13 + y) := by split at e <;> omega
    by_cases hy : y = x
    · subst hy
      rw [if_pos rfl] at e
      split <;> split <;> first | exact h3 y _ _ a b (by omega) (by omega) (by omega) | omega
    · rw [if_neg (fun h => hy h.1), if_neg (fun h => hy h.1)]
      exact h3 y q r a b c d e2
  · intro b a c
    rw [e0] at c
    rw [pull_wh hB' hx0 hx1 hp0 hp1 a]
    by_cases hb : b = A (16 + 10 * x + p)
    · rw [if_pos hb]
      exact ⟨by omega, fun h => by omega⟩
    · rw [if_neg hb]
      have g := h4 b a c
      refine ⟨g.1, fun h => ?_⟩
      obtain ⟨q, q0, q1, q2⟩ := g.2 h
      have g1 := h1 _ g.1.1 (by omega)
      by_cases hy : A (46 + 6 * b + 5) = x
      · rw [hy] at q1 q2 g1 ⊢
        by_cases hq : q < p
        · refine ⟨q, q0, ?_, ?_⟩
          · rw [pull_many hB' hx0 hx1 hp0 hp1 hx0 hx1, if_pos rfl]; omega
          · rw [pull_pl hB' hx0 hx1 hp0 hp1 hx0 hx1 q0 (by omega), if_neg (by omega)]; exact q2
        · have hqp : q ≠ p := fun h => hb (by rw [← h]; exact q2.symm)
          refine ⟨q - 1, by omega, ?_, ?_⟩
          · rw [pull_many hB' hx0 hx1 hp0 hp1 hx0 hx1, if_pos rfl]; omega
          · rw [pull_pl hB' hx0 hx1 hp0 hp1 hx0 hx1 (by omega) (by omega), if_pos ⟨rfl, by omega, by omega⟩, show q - 1 + 1 = q by omega]; exact q2
      · refine ⟨q, q0, ?_, ?_⟩
        · rw [pull_many hB' hx0 hx1 hp0 hp1 g.1.1 (by omega), if_neg hy]; exact q1
        · rw [pull_pl hB' hx0 hx1 hp0 hp1 g.1.1 (by omega) q0 (by omega), if_neg (fun h => hy h.1)]; exact q2
end PULL
section SETF
variable {A : Int → Int} {b x p : Int}
theorem set_pl {y q : Int} (hb0 : 0 ≤ b) (hx0 : 0 ≤ x) (hx1 : x < 3) (hp0 : 0 ≤ p) (hp1 : p ≤ A (13 + x)) (hm : A (13 + x) ≤ 9) (hy0 : 0 ≤ y) (hy1 : y < 3) (hq0 : 0 ≤ q) (hq1 : q < 10) : setF A b x p (16 + 10 * y + q) = if y = x ∧ p < q ∧ q ≤ A (13 + x) then A (16 + 10 * y + (q - 1)) else if y = x ∧ q = p then b else A (16 + 10 * y + q) := by
  unfold setF
  rw [if_neg (by omega), if_neg (by omega)]
  by_cases h : y = x ∧ p < q ∧ q ≤ A (13 + x)
  · rw [if_pos h, if_pos (by omega)]
    congr 1
    omega
  · rw [if_neg h, if_neg (by omega)]
    by_cases h2 : y = x ∧ q = p
    · rw [if_pos h2, if_pos (by omega)]
    · rw [if_neg h2, if_neg (by omega)]
theorem set_many {y : Int} (hb0 : 0 ≤ b) (hx0 : 0 ≤ x) (hx1 : x < 3) (hp0 : 0 ≤ p) (hy0 : 0 ≤ y) (hy1 : y < 3) : setF A b x p (13 + y) = if y = x then A (13 + y) + 1 else A (13 + y) := by
  unfold setF
  rw [if_neg (by omega)]
  by_cases h : y = x
  · rw [if_pos h, if_pos (by omega)]
  · rw [if_neg h, if_neg (by omega), if_neg (by omega), if_neg (by omega)]
theorem set_wh {c : Int} (hx0 : 0 ≤ x) (hx1 : x < 3) (hp0 : 0 ≤ p) (hp1 : p ≤ A (13 + x)) (hm : A (13 + x) ≤ 9) (hc : 0 ≤ c) : setF A b x p (46 + 6 * c + 5) = if c = b then x else A (46 + 6 * c + 5) := by
  unfold setF
  by_cases h : c = b
  · rw [if_pos h, if_pos (by omega)]
  · rw [if_neg h, if_neg (by omega), if_neg (by omega), if_neg (by omega), if_neg (by omega)]
theorem set_else {k : Int} (hb0 : 0 ≤ b) (hb1 : b < 10) (hx0 : 0 ≤ x) (hx1 : x < 3) (hp0 : 0 ≤ p) (hp1 : p ≤ A (13 + x)) (hm : A (13 + x) ≤ 9) (h1 : k < 13 ∨ 46 ≤ k) (h2 : ∀ b, 0 ≤ b → b < 10 → k ≠ 46 + 6 * b + 5) : setF A b x p k = A k := by
  have := h2 b hb0 hb1
  unfold setF
  rw [if_neg this, if_neg (by omega), if_neg (by omega), if_neg (by omega)]
theorem set_ok (hB : okB A) (hb0 : 0 ≤ b) (hb1 : b < A 0) (hw : 3 ≤ A (46 + 6 * b + 5)) (hx0 : 0 ≤ x) (hx1 : x < 3) (hp0 : 0 ≤ p) (hp1 : p ≤ A (13 + x)) (hm : A (13 + x) ≤ 9) : okB (setF A b x p) := by
  obtain ⟨h0, h1, h2, h3, h4⟩ := hB
  have e0 : setF A b x p 0 = A 0 := set_else hb0 (by omega) hx0 hx1 hp0 hp1 hm (by decide) (fun b _ _ => by omega)
  have hne : ∀ y q, 0 ≤ y → y < 3 → 0 ≤ q → q < A (13 + y) → A (16 + 10 * y + q) ≠ b := by
    intro y q a c d e h
    have g := (h2 y q a c d e).2.2
    rw [h] at g
    omega
  refine ⟨by rw [e0]; exact h0, ?_, ?_, ?_, ?_⟩
  · intro y a c
    rw [set_many hb0 hx0 hx1 hp0 a c]
    have := h1 y a c
    split
    · rename_i q; subst q; omega
    · exact this
  · intro y q a c d e
    rw [set_many hb0 hx0 hx1 hp0 a c] at e
    have g1 := h1 y a c
    have hq : q < 10 := by
      split at e
      · rename_i q; subst q; omega
      · omega
    rw [set_pl hb0 hx0 hx1 hp0 hp1 hm a c d hq, e0]
    by_cases k1 : y = x ∧ p < q ∧ q ≤ A (13 + x)
    · rw [if_pos k1]
      obtain ⟨rfl, k2, k3⟩ := k1
      have g := h2 y (q - 1) a c (by omega) (by omega)
      rw [set_wh hx0 hx1 hp0 hp1 hm g.1, if_neg (hne y (q - 1) a c (by omega) (by omega))]
      exact g
    · rw [if_neg k1]
      by_cases k2 : y = x ∧ q = p
      · rw [if_pos k2, set_wh hx0 hx1 hp0 hp1 hm hb0, if_pos rfl]
        exact ⟨hb0, hb1, k2.1.symm⟩
      · rw [if_neg k2]
        have hq2 : q < A (13 + y) := by
          split at e
          · rename_i q9; subst q9; omega
          · exact e
        have g := h2 y q a c d hq2
        rw [set_wh hx0 hx1 hp0 hp1 hm g.1, if_neg (hne y q a c d hq2)]
        exact g
  · intro y q r a c d e f
    rw [set_many hb0 hx0 hx1 hp0 a c] at f
    have g1 := h1 y a c
    have hr : r < 10 := by
      split at f
      · rename_i q; subst q; omega
      · omega
    rw [set_pl hb0 hx0 hx1 hp0 hp1 hm a c d (by omega), set_pl hb0 hx0 hx1 hp0 hp1 hm a c (by omega) hr]
    by_cases hy : y = x
    · subst hy
      rw [if_pos rfl] at f
      (repeat' split) <;> first | exact h3 y _ _ a c (by omega) (by omega) (by omega) | exact hne y _ a c (by omega) (by omega) | exact fun h => hne y _ a c (by omega) (by omega) h.symm | omega
    · rw [if_neg hy] at f
      rw [if_neg (fun h => hy h.1), if_neg (fun h => hy h.1), if_neg (fun h => hy h.1), if_neg (fun h => hy h.1)]
      exact h3 y q r a c d e f
  · intro k a c
    rw [e0] at c
    rw [set_wh hx0 hx1 hp0 hp1 hm a]
    by_cases hb : k = b
    · rw [if_pos hb]
      refine ⟨by omega, fun _ => ⟨p, hp0, ?_, ?_⟩⟩
      · rw [set_many hb0 hx0 hx1 hp0 hx0 hx1, if_pos rfl]; omega
      · rw [set_pl hb0 hx0 hx1 hp0 hp1 hm hx0 hx1 hp0 (by omega), if_neg (by omega), if_pos ⟨rfl, rfl⟩, hb]
    · rw [if_neg hb]
      have g := h4 k a c
      refine ⟨g.1, fun h => ?_⟩
      obtain ⟨q, q0, q1, q2⟩ := g.2 h
      have g1 := h1 _ g.1.1 (by omega)
      by_cases hy : A (46 + 6 * k + 5) = x
      · rw [hy] at q1 q2 g1 ⊢
        by_cases hq : q < p
        · refine ⟨q, q0, ?_, ?_⟩
          · rw [set_many hb0 hx0 hx1 hp0 hx0 hx1, if_pos rfl]; omega
          · rw [set_pl hb0 hx0 hx1 hp0 hp1 hm hx0 hx1 q0 (by omega), if_neg (by omega), if_neg (by omega)]; exact q2
        · refine ⟨q + 1, by omega, ?_, ?_⟩
          · rw [set_many hb0 hx0 hx1 hp0 hx0 hx1, if_pos rfl]; omega
          · rw [set_pl hb0 hx0 hx1 hp0 hp1 hm hx0 hx1 (by omega) (by omega), if_pos ⟨rfl, by omega, by omega⟩, show q + 1 - 1 = q by omega]; exact q2
      · refine ⟨q, q0, ?_, ?_⟩
        · rw [set_many hb0 hx0 hx1 hp0 g.1.1 (by omega), if_neg hy]; exact q1
        · rw [set_pl hb0 hx0 hx1 hp0 hp1 hm g.1.1 (by omega) q0 (by omega), if_neg (fun h => hy h.1), if_neg (fun h => hy h.1)]; exact q2
end SETF
section EXF
variable {A : Int → Int} {x p : Int}
theorem ex_pl {y q : Int} (hx0 : 0 ≤ x) (hx1 : x < 3) (hp0 : 0 ≤ p) (hp1 : p < 9) (hy0 : 0 ≤ y) (hy1 : y < 3) (hq0 : 0 ≤ q) (hq1 : q < 10) : exF A x p (16 + 10 * y + q) = if y = x ∧ q = p then A (16 + 10 * y + (p + 1)) else if y = x ∧ q = p + 1 then A (16 + 10 * y + p) else A (16 + 10 * y + q) := by
  unfold exF
  by_cases h : y = x ∧ q = p
  · rw [if_pos h, if_pos (by omega)]
    congr 1
    omega
  · rw [if_neg h, if_neg (by omega)]
    by_cases h2 : y = x ∧ q = p + 1
    · rw [if_pos h2, if_pos (by omega)]
      congr 1
      omega
    · rw [if_neg h2, if_neg (by omega)]
theorem ex_else {k : Int} (hx0 : 0 ≤ x) (hx1 : x < 3) (hp0 : 0 ≤ p) (hp1 : p < 9) (h1 : k < 16 ∨ 46 ≤ k) : exF A x p k = A k := by
  unfold exF
  rw [if_neg (by omega), if_neg (by omega)]
theorem ex_ok (hB : okB A) (hx0 : 0 ≤ x) (hx1 : x < 3) (hp0 : 0 ≤ p) (hp1 : p + 1 < A (13 + x)) : okB (exF A x p) := by
  obtain ⟨h0, h1, h2, h3, h4⟩ := hB
  have gx := h1 x hx0 hx1
  have e0 : exF A x p 0 = A 0 := ex_else hx0 hx1 hp0 (by omega) (by decide)
  have em : ∀ y, 0 ≤ y → y < 3 → exF A x p (13 + y) = A (13 + y) := fun y a b => ex_else hx0 hx1 hp0 (by omega) (by omega)
  have ew : ∀ b, 0 ≤ b → exF A x p (46 + 6 * b + 5) = A (46 + 6 * b + 5) := fun b a => ex_else hx0 hx1 hp0 (by omega) (by omega)
  refine ⟨by rw [e0]; exact h0, ?_, ?_, ?_, ?_⟩
  · intro y a b; rw [em y a b]; exact h1 y a b
  · intro y q a b c d
    rw [em y a b] at d
    have g1 := h1 y a b
    rw [ex_pl hx0 hx1 hp0 (by omega) a b c (by omega), e0]
    have key : ∀ r, 0 ≤ r → r < A (13 + y) → 0 ≤ A (16 + 10 * y + r) ∧ A (16 + 10 * y + r) < A 0 ∧ exF A x p (46 + 6 * A (16 + 10 * y + r) + 5) = y := by
      intro r r0 r1
      have g := h2 y r a b r0 r1
      rw [ew _ g.1]
      exact g
    split
    · rename_i q1; obtain ⟨rfl, q2⟩ := q1; exact key _ (by omega) (by omega)
    · split
      · rename_i q1; obtain ⟨rfl, q2⟩ := q1; exact key _ (by omega) (by omega)
      · exact key _ c d
  · intro y q r a b c d e
    rw [em y a b] at e
    have g1 := h1 y a b
    rw [ex_pl hx0 hx1 hp0 (by omega) a b c (by omega), ex_pl hx0 hx1 hp0 (by omega) a b (by omega) (by omega)]
    by_cases hy : y = x
    · subst hy
      (repeat' split) <;> first | exact h3 y _ _ a b (by omega) (by omega) (by omega) | exact fun h => h3 y _ _ a b (by omega) (by omega) (by omega) h.symm | omega
    · rw [if_neg (fun h => hy h.1), if_neg (fun h => hy h.1), if_neg (fun h => hy h.1), if_neg (fun h => hy h.1)]
      exact h3 y q r a b c d e
  · intro b a c
    rw [e0] at c
    rw [ew b a]
    have g := h4 b a c
    refine ⟨g.1, fun h => ?_⟩
    obtain ⟨q, q0, q1, q2⟩ := g.2 h
    have g1 := h1 _ g.1.1 (by omega)
    by_cases hy : A (46 + 6 * b + 5) = x
    · rw [hy] at q1 q2 g1 ⊢
      by_cases k1 : q = p
      · refine ⟨p + 1, by omega, by rw [em x hx0 hx1]; omega, ?_⟩
        rw [ex_pl hx0 hx1 hp0 (by omega) hx0 hx1 (by omega) (by omega), if_neg (by omega), if_pos ⟨rfl, rfl⟩, ← k1]; exact q2
      · by_cases k2 : q = p + 1
        · refine ⟨p, hp0, by rw [em x hx0 hx1]; omega, ?_⟩
          rw [ex_pl hx0 hx1 hp0 (by omega) hx0 hx1 hp0 (by omega), if_pos ⟨rfl, rfl⟩, ← k2]; exact q2
        · refine ⟨q, q0, by rw [em x hx0 hx1]; exact q1, ?_⟩
          rw [ex_pl hx0 hx1 hp0 (by omega) hx0 hx1 q0 (by omega), if_neg (by omega), if_neg (by omega)]; exact q2
    · refine ⟨q, q0, by rw [em _ g.1.1 (by omega)]; exact q1, ?_⟩
      rw [ex_pl hx0 hx1 hp0 (by omega) g.1.1 (by omega) q0 (by omega), if_neg (fun h => hy h.1), if_neg (fun h => hy h.1)]; exact q2
end EXF
theorem wh_ok {A : Int → Int} {b to : Int} (hB : okB A) (hb0 : 0 ≤ b) (hb1 : b < A 0) (hw : 3 ≤ A (46 + 6 * b + 5)) (ht : to = 3 ∨ to = 4) : okB (whF A b to) := by
  obtain ⟨h0, h1, h2, h3, h4⟩ := hB
  have el : ∀ k, k < 46 → whF A b to k = A k := fun k a => by unfold whF; rw [if_neg (by omega)]
  have ew : ∀ c, whF A b to (46 + 6 * c + 5) = if c = b then to else A (46 + 6 * c + 5) := fun c => by
    unfold whF
    by_cases h : c = b
    · rw [if_pos h, if_pos (by omega)]
    · rw [if_neg h, if_neg (by omega)]
  refine ⟨by rw [el 0 (by decide)]; exact h0, ?_, ?_, ?_, ?_⟩
  · intro y a c; rw [el _ (by omega)]; exact h1 y a c
  · intro y q a c d e
    rw [el _ (by omega)] at e
    have g1 := h1 y a c
    have g := h2 y q a c d e
    rw [el _ (by omega), el 0 (by decide), ew, if_neg (fun h => by rw [h] at g; omega)]
    exact g
  · intro y q r a c d e f
    rw [el _ (by omega)] at f
    have g1 := h1 y a c
    rw [el _ (by omega), el _ (by omega)]
    exact h3 y q r a c d e f
  · intro k a c
    rw [el 0 (by decide)] at c
    rw [ew]
    by_cases h : k = b
    · rw [if_pos h]; exact ⟨by omega, fun h => by omega⟩
    · rw [if_neg h]
      have g := h4 k a c
      refine ⟨g.1, fun hh => ?_⟩
      obtain ⟨q, q0, q1, q2⟩ := g.2 hh
      have g1 := h1 _ g.1.1 (by omega)
      refine ⟨q, q0, ?_, ?_⟩
      · rw [el _ (by omega)]; exact q1
      · rw [el _ (by omega)]; exact q2
/-- all shelves together hold no more than there are -/
theorem okB_sum {A : Int → Int} (hB : okB A) : A 13 + A 14 + A 15 ≤ A 0 := by
  obtain ⟨h0, h1, h2, h3, h4⟩ := hB
  have a0 := h1 0 (by decide) (by decide)
  have a1 := h1 1 (by decide) (by decide)
  have a2 := h1 2 (by decide) (by decide)
  have s0 : A (13 + 0) = A 13 := rfl
  have s1 : A (13 + 1) = A 14 := rfl
  have s2 : A (13 + 2) = A 15 := rfl
  rw [s0] at a0
  rw [s1] at a1
  rw [s2] at a2
  have key : ∀ i : Nat, (i : Int) < A 13 + A 14 + A 15 → ∃ x p, 0 ≤ x ∧ x < 3 ∧ 0 ≤ p ∧ p < A (13 + x) ∧ (if (i : Int) < A 13 then A (16 + i) else if (i : Int) < A 13 + A 14 then A (26 + (i - A 13)) else A (36 + (i - A 13 - A 14))) = A (16 + 10 * x + p) ∧ (x = if (i : Int) < A 13 then 0 else if (i : Int) < A 13 + A 14 then 1 else 2) ∧ (p = if (i : Int) < A 13 then (i : Int) else if (i : Int) < A 13 + A 14 then i - A 13 else i - A 13 - A 14) := by
    intro i hi
    by_cases c1 : (i : Int) < A 13
    · simp only [if_pos c1]
      exact ⟨0, i, by decide, by decide, by omega, c1, rfl, rfl, rfl⟩
    · by_cases c2 : (i : Int) < A 13 + A 14
      · simp only [if_neg c1, if_pos c2]
        exact ⟨1, i - A 13, by decide, by decide, by omega, by rw [s1]; omega, rfl, rfl, rfl⟩
      · simp only [if_neg c1, if_neg c2]
        exact ⟨2, i - A 13 - A 14, by decide, by decide, by omega, by rw [s2]; omega, rfl, rfl, rfl⟩
  have := pigeon (A 0).toNat (A 13 + A 14 + A 15).toNat (fun i => if (i : Int) < A 13 then A (16 + i) else if (i : Int) < A 13 + A 14 then A (26 + (i - A 13)) else A (36 + (i - A 13 - A 14))) (fun i hi => by
    obtain ⟨x, p, q1, q2, q3, q4, q5, _, _⟩ := key i (by omega)
    rw [q5]
    have := h2 x p q1 q2 q3 q4
    omega) (fun i j hij hj => by
    obtain ⟨x, p, q1, q2, q3, q4, q5, q6, q7⟩ := key i (by omega)
    obtain ⟨y, r, r1, r2, r3, r4, r5, r6, r7⟩ := key j (by omega)
    rw [q5, r5]
    intro h
    have e1 := (h2 x p q1 q2 q3 q4).2.2
    have e2 := (h2 y r r1 r2 r3 r4).2.2
    rw [h, e2] at e1
    subst e1
    have hpr : p < r := by
      (repeat' split at q6) <;> (repeat' split at r6) <;> (repeat' split at q7) <;> (repeat' split at r7) <;> omega
    exact h3 y p r q1 q2 q3 hpr r4 h)
  omega
/-- a shelf that a book isn't on isn't full -/
theorem okB_room {A : Int → Int} (hB : okB A) {b x : Int} (hb0 : 0 ≤ b) (hb1 : b < A 0) (hx0 : 0 ≤ x) (hx1 : x < 3) (hw : A (46 + 6 * b + 5) ≠ x) : A (13 + x) < A 0 := by
  obtain ⟨h0, h1, h2, h3, h4⟩ := hB
  have a := h1 x hx0 hx1
  have := pigeon (A 0).toNat ((A (13 + x)).toNat + 1) (fun i => if i = (A (13 + x)).toNat then b else A (16 + 10 * x + i)) (fun i hi => by
    split
    · omega
    · have := h2 x i hx0 hx1 (by omega) (by omega)
      omega) (fun i j hij hj => by
    rw [if_neg (by omega)]
    split
    · intro h
      have := (h2 x i hx0 hx1 (by omega) (by omega)).2.2
      rw [h] at this
      exact hw this
    · exact h3 x i j hx0 hx1 (by omega) (by omega) (by omega))
  omega
