/-! All that holds between calls; how the library's relation goes on when the row changes. -/
/-- the steps kept: each is good, and not many pushes lie between two -/
def okSt (A : Int → Int) : Prop := ∀ i, 0 ≤ i → i < A 7 → okV (stp A i) ∧ stp A i 0 ≤ A 0 ∧ (0 ≤ stp A i 1 ∧ stp A i 1 ≤ 9999) ∧ (stp A i 2 = 0 ∨ stp A i 2 = 1) ∧ (0 ≤ stp A i 3 ∧ stp A i 3 ≤ 30112) ∧ (0 ≤ stp A i 4 ∧ stp A i 4 ≤ 10 * stp A i 1) ∧ (i + 1 < A 7 → stp A i 4 ≤ stp A (i + 1) 4 ∧ stp A (i + 1) 4 ≤ stp A i 4 + 10)
/-- pushes since the latest step -/
def gapS (A : Int → Int) (g : Int) : Prop := 0 < A 7 → stp A (A 7 - 1) 4 ≤ A 9 ∧ A 9 ≤ stp A (A 7 - 1) 4 + g
/-- the row's other parts -/
def okR (A : Int → Int) : Prop := (0 ≤ A 1 ∧ A 1 ≤ 9999) ∧ (0 ≤ A 4 ∧ A 4 ≤ 30112) ∧ (0 ≤ A 7 ∧ A 7 ≤ 30) ∧ (0 ≤ A 8 ∧ A 8 ≤ 12) ∧ (∀ x, 0 ≤ x → x < 3 → 1 ≤ A (10 + x) ∧ A (10 + x) ≤ 99) ∧
  (∀ i, 0 ≤ i → i < A 8 → (0 ≤ A (106 + 4 * i) ∧ A (106 + 4 * i) < A 0) ∧ (0 ≤ A (107 + 4 * i) ∧ A (107 + 4 * i) < A 0) ∧ A (106 + 4 * i) ≠ A (107 + 4 * i) ∧ (A (108 + 4 * i) = 0 ∨ A (108 + 4 * i) = 1) ∧ (A (109 + 4 * i) = 0 ∨ A (109 + 4 * i) = 1))
def VA (A T : Int → Int) : Prop := VJ A T ∧ okB A ∧ okR A ∧ okSt A ∧ gapS A 10 ∧ (0 ≤ A 9 ∧ A 9 ≤ 10 * A 1)
theorem gap_all {A : Int → Int} {g : Int} (h : okSt A) (hg : gapS A g) (hg0 : 0 ≤ g) (hg1 : g ≤ 10) (h7 : 0 ≤ A 7 ∧ A 7 ≤ 30) : ∀ i, 0 ≤ i → i < A 7 → stp A i 4 ≤ A 9 ∧ A 9 ≤ stp A i 4 + 300 := by
  have key : ∀ (m : Nat) (i : Int), 0 ≤ i → i < A 7 → A 7 - 1 - i = m → stp A i 4 ≤ A 9 ∧ A 9 ≤ stp A i 4 + 10 * m + g := by
    intro m
    induction m with
    | zero =>
      intro i h0 h1 h2
      have := hg (by omega)
      rw [show A 7 - 1 = i by omega] at this
      omega
    | succ m ih =>
      intro i h0 h1 h2
      have a := ih (i + 1) (by omega) (by omega) (by omega)
      have b := (h i h0 h1).2.2.2.2.2.2 (by omega)
      omega
  intro i h0 h1
  have := key (A 7 - 1 - i).toNat i h0 h1 (by omega)
  omega
theorem SC.congr {s : Nat → Int → Int} {c : Nat} {v v' lg lg' : Int → Int} (h : SC s c v lg) (hv : okV v) (e : ∀ k, 0 ≤ k → k < 48 → v' k = v k) (hl : ∀ j, v 4 - minI (v 4) 60 ≤ j → j < v 4 → lg' j = lg j) : SC s c v' lg' := by
  obtain ⟨h1, h2, h3, h4, h5, h6, h7, h8⟩ := h
  have hm := hv.2.1
  have ms := minI_spec (v 4) 60
  refine ⟨?_, ?_, ?_, ?_, ?_, ?_, ?_, ?_⟩
  · rw [e 4 (by decide) (by decide)]; exact h1
  · rw [e 2 (by decide) (by decide)]; exact h2
  · rw [e 1 (by decide) (by decide)]; exact h3
  · rw [e 3 (by decide) (by decide)]; exact h4
  · intro x a b; rw [e _ (by omega) (by omega)]; exact h5 x a b
  · intro x p a b q r
    rw [e _ (by omega) (by omega)] at r
    have := hm x a b
    rw [e _ (by omega) (by omega)]
    exact h6 x p a b q r
  · intro b a c
    rw [e 0 (by decide) (by decide), e (38 + b) (by omega) (by omega)]
    exact h7 b a c
  · intro i a c
    rw [e 4 (by decide) (by decide)] at c ⊢
    rw [hl _ (by omega) (by omega)]
    exact h8 i a c
theorem LB.upd {s s1 : Nat → Int → Int} {A A' T : Int → Int} (h : LB 0 s A T) (hv : okSt A) (h0 : 0 ≤ A 0 ∧ A 0 ≤ 10) (h5 : 0 ≤ A 5 ∧ A 5 ≤ 4) (h7 : A 7 ≤ 30) (h8 : A 8 ≤ 12) (hc : ∀ e, 1 ≤ e → e < 289 → ¬ (2 ≤ e ∧ e ≤ 9) → s1 e = s e) (hA : ∀ k, (k = 0 ∨ k = 3 ∨ (5 ≤ k ∧ k ≤ 8) ∨ (10 ≤ k ∧ k < 13) ∨ (106 ≤ k ∧ k < 1594)) → A' k = A k) (ht : ∀ b w, 0 ≤ b → b < 10 → 0 ≤ w → w < 5 → A' (46 + 6 * b + w) = A (46 + 6 * b + w)) (hl : ∀ i, 0 ≤ i → i < A 7 → ∀ j, stp A i 4 - minI (stp A i 4) 60 ≤ j → j < stp A i 4 → lgA A' j = lgA A j) (hS : SC s1 2 (cur A') (lgA A')) : LB 0 s1 A' T := by
  have el := lb_el h
  obtain ⟨g1, g2, g3, g4, g5, g6, g7⟩ := h
  refine ⟨?_, ?_, ?_, ?_, hS, ?_, ?_⟩
  · rw [hc (0 + 1) (by omega) (by omega) (by omega), hA 0 (by omega), hA 3 (by omega), hA 5 (by omega), hA 6 (by omega), hA 8 (by omega), hA 7 (by omega)]
    exact g1
  · intro x a b
    rw [hc _ (by omega) (by omega) (by omega), hA _ (by omega)]
    exact g2 x a b
  · intro k w a b c d
    rw [hA 0 (by omega)] at b
    rw [hc _ (by omega) (by omega) (by omega), ht k w a (by omega) c d]
    exact g3 k w a b c d
  · intro i a b
    rw [hA 8 (by omega)] at b
    rw [hc _ (by omega) (by omega) (by omega), hA _ (by omega), hA _ (by omega), hA _ (by omega), hA _ (by omega)]
    exact g4 i a b
  · intro i a b
    rw [hA 7 (by omega)] at b
    rw [hc (0 + 1) (by omega) (by omega) (by omega)]
    have hm : (s (0 + 1) 6 + i) % 30 < 30 := Int.emod_lt_of_pos _ (by decide)
    refine (g6 i a b).of (fun e q1 q2 => hc e (by omega) (by omega) (by omega)) |>.congr (hv i a b).1 (fun k k0 k1 => ?_) (hl i a b)
    unfold stp
    exact hA _ (by omega)
  · intro i a b
    rw [hA 5 (by omega)] at b
    exact (g7 i a b).of (fun e q1 q2 => hc e (by omega) (by omega) (by omega))
theorem lb_where0 {s : Nat → Int → Int} {A T : Int → Int} (h : LB 0 s A T) {b : Int} (h0 : 0 ≤ b) (h1 : b < 10) : s 8 b = if b < A 0 then A (46 + 6 * b + 5) else 3 := by
  have := h.2.2.2.2.1.2.2.2.2.2.2.1 b h0 h1
  rw [cur_wh A h0] at this
  exact this
theorem lb_log {s : Nat → Int → Int} {A T : Int → Int} (h : LB 0 s A T) {i : Int} (h0 : 0 ≤ i) (h1 : i < minI (A 9) 60) : s 9 i = lgA A (A 9 - minI (A 9) 60 + i) := h.2.2.2.2.1.2.2.2.2.2.2.2 i h0 h1
theorem sc_mk {s : Nat → Int → Int} {A : Int → Int} (h4 : s 2 4 = minI (A 9) 60) (h5 : s 2 5 = A 2) (h6 : s 2 6 = A 1) (h7 : s 2 7 = A 4) (hmb : ∀ x, 0 ≤ x → x < 3 → A (13 + x) ≤ 10) (hm : ∀ x, 0 ≤ x → x < 3 → s 7 x = A (13 + x)) (hr : ∀ x p, 0 ≤ x → x < 3 → 0 ≤ p → p < A (13 + x) → s (4 + x.toNat) p = A (16 + 10 * x + p)) (hw : ∀ b, 0 ≤ b → b < 10 → s 8 b = if b < A 0 then A (46 + 6 * b + 5) else 3) (hl : ∀ i, 0 ≤ i → i < minI (A 9) 60 → s 9 i = lgA A (A 9 - minI (A 9) 60 + i)) : SC s 2 (cur A) (lgA A) := by
  refine ⟨h4, h5, h6, h7, ?_, ?_, ?_, hl⟩
  · intro x a b; rw [cur_many A a b]; exact hm x a b
  · intro x p a b c d
    rw [cur_many A a b] at d
    have := hmb x a b
    rw [cur_pl A a b c (by omega)]
    exact hr x p a b c d
  · intro b a c; rw [cur_wh A a]; exact hw b a c
