/-! What falls: rows filtered and trimmed. -/
theorem clP_mv {A A' : Int → Int} (h : A' 6 = A 6) (T : Int → Int) (so la : Int) : clP A' T so la = clP A T so la := by
  unfold clP; rw [h]
theorem nmA_mv {A A' : Int → Int} (h : mv A A') {b : Int} (hb : 0 ≤ b) {f f' : Int → Int} (hf : ∀ j, 6 ≤ j → f' j = f j) : ∀ j, 0 ≤ j → nmA A' b f' j = nmA A b f j := by
  intro j hj
  unfold nmA
  split
  · rfl
  · split
    · exact h.tr5 hb (by omega) (by omega)
    · split
      · exact h.lo (by decide)
      · exact hf j (by omega)
theorem thick_mv {A A' T : Int → Int} (h : mv A A') (hV : VJ A T) {b : Int} (hb : 0 ≤ b) : thickP A' T b = thickP A T b := by
  unfold thickP
  rw [h.tr5 hb (by decide) (by decide), clP_mv (h.lo (by decide)), h.lo (k := 2) (by decide), h.lo (k := 6) (by decide)]
  congr 1
  by_cases q : A 2 = 1 ∧ 0 ≤ clP A T 2 0
  · rw [if_pos q, if_pos q]
    congr 1
    exact congrArg (fun q : (Int → Int) × (Int → Int) => q.1 0) (vmT_congr (clP_ok hV (so := 2) (by decide) (by decide) q.2) (fun v h0 h1 _ => nmA_mv h hb (fun _ _ => rfl) v h0))
  · rw [if_neg q, if_neg q]
theorem fall_mv {A A' T : Int → Int} (h : mv A A') (hV : VJ A T) {b sh pl many : Int} (hb : 0 ≤ b) : fallP A' T b sh pl many = fallP A T b sh pl many := by
  unfold fallP
  rw [clP_mv (h.lo (by decide)), h.lo (k := 6) (by decide)]
  by_cases q : clP A T 1 0 < 0
  · rw [if_pos q, if_pos q]
  · rw [if_neg q, if_neg q]
    exact congrArg (fun q : (Int → Int) × (Int → Int) => q.2 0) (vmT_congr (clP_ok hV (so := 1) (by decide) (by decide) (by omega)) (fun v h0 h1 _ => nmA_mv h hb (fun _ _ => rfl) v h0))
theorem push_mv {A A' T : Int → Int} (h : mv A A') (hV : VJ A T) {la b o right : Int} (hb : 0 ≤ b) (ho : 0 ≤ o) : pushP A' T la b o right = pushP A T la b o right := by
  unfold pushP
  rw [clP_mv (h.lo (by decide)), h.lo (k := 6) (by decide)]
  by_cases q : clP A T 0 la < 0
  · rw [if_pos q, if_pos q]
  · rw [if_neg q, if_neg q]
    refine congrArg (fun q : (Int → Int) × (Int → Int) => q.2 0) (vmT_congr (clP_ok hV (so := 0) (by decide) (by decide) (by omega)) (fun v h0 h1 _ => nmA_mv h hb (fun j hj => ?_) v h0))
    by_cases a1 : j = 6
    · rw [if_pos a1, if_pos a1]
    · rw [if_neg a1, if_neg a1]
      by_cases a2 : j = 7
      · rw [if_pos a2, if_pos a2]
      · rw [if_neg a2, if_neg a2]
        by_cases a3 : j < 12
        · rw [if_pos a3, if_pos a3]
          exact h.tr5 ho (by omega) (by omega)
        · rw [if_neg a3, if_neg a3]
theorem need_mv {A A' T : Int → Int} (h : mv A A') : needP A' T = needP A T := by
  unfold needP
  rw [clP_mv (h.lo (by decide)), h.lo (k := 6) (by decide), h.lo (k := 3) (by decide)]
/-- the same as far as anybody can see -/
def eqv (A B : Int → Int) : Prop := mv A B ∧ (∀ x, 0 ≤ x → x < 3 → B (13 + x) = A (13 + x)) ∧ (∀ x p, 0 ≤ x → x < 3 → 0 ≤ p → p < A (13 + x) → B (16 + 10 * x + p) = A (16 + 10 * x + p)) ∧ ∀ b, 0 ≤ b → b < 10 → B (46 + 6 * b + 5) = A (46 + 6 * b + 5)
theorem LB.eqv {s : Nat → Int → Int} {A B T : Int → Int} (h : LB 0 s A T) (hK : KA A T) (e : eqv A B) : LB 0 s B T := by
  obtain ⟨e1, e2, e3, e4⟩ := e
  have hB := hK.2.1
  refine h.mv hK e1 (fun _ _ _ _ => rfl) (sc_mk ?_ ?_ ?_ ?_ ?_ ?_ ?_ ?_ ?_)
  · rw [e1.lo (by decide)]; exact lb_wc h
  · rw [e1.lo (by decide)]; exact lb_wet h
  · rw [e1.lo (by decide)]; exact lb_night h
  · rw [e1.lo (by decide)]; exact lb_drawn h
  · intro x a b; rw [e2 x a b]; exact (hB.2.1 x a b).2
  · intro x a b; rw [e2 x a b]; exact lb_many h a b
  · intro x p a b c d
    rw [e2 x a b] at d
    have := hB.2.1 x a b
    rw [e3 x p a b c d]; exact lb_row h a b c d (by omega)
  · intro b a c
    rw [e1.lo (by decide), e4 b a c]; exact lb_where0 h a c
  · intro i a c
    rw [e1.lo (by decide)] at c
    rw [e1.lg, e1.lo (by decide)]; exact lb_log h a c
/-- how many are kept below n -/
def cnt (κ : Int → Int) : Nat → Int
  | 0 => 0
  | n + 1 => cnt κ n + κ n
theorem cnt_r {κ : Int → Int} (h : ∀ j, κ j = 0 ∨ κ j = 1) : ∀ n : Nat, 0 ≤ cnt κ n ∧ cnt κ n ≤ n
  | 0 => by unfold cnt; omega
  | n + 1 => by
    have := cnt_r h n
    have := h n
    unfold cnt
    omega
theorem cnt_mono {κ : Int → Int} (h : ∀ j, κ j = 0 ∨ κ j = 1) {m n : Nat} (hmn : m ≤ n) : cnt κ m ≤ cnt κ n := by
  obtain ⟨k, rfl⟩ : ∃ k, n = m + k := ⟨n - m, by omega⟩
  induction k with
  | zero => exact Int.le_refl _
  | succ k ih =>
    have := ih (by omega)
    have := h (m + k : Nat)
    show cnt κ m ≤ cnt κ (m + k) + κ ((m + k : Nat) : Int)
    omega
theorem cnt_lt {κ : Int → Int} (h : ∀ j, κ j = 0 ∨ κ j = 1) {m n : Nat} (hmn : m < n) (hk : κ m = 1) : cnt κ m < cnt κ n := by
  have := cnt_mono h (show m + 1 ≤ n from hmn)
  have e : cnt κ (m + 1) = cnt κ m + κ m := rfl
  omega
/-- κ without p0 -/
def kdel (κ : Int → Int) (p0 : Int) : Int → Int := fun j => if j = p0 then 0 else κ j
theorem cnt_kdel {κ : Int → Int} {p0 : Nat} (hk : κ p0 = 1) : ∀ n : Nat, cnt (kdel κ p0) n = cnt κ n - (if p0 < n then 1 else 0)
  | 0 => rfl
  | n + 1 => by
    have ih := cnt_kdel hk n
    unfold cnt
    rw [ih]
    unfold kdel
    by_cases q : (n : Int) = p0
    · rw [if_pos q]
      have : n = p0 := by omega
      subst this
      rw [hk]
      split <;> split <;> omega
    · rw [if_neg q]
      split <;> split <;> omega
theorem cnt_congr {κ κ' : Int → Int} : ∀ n : Nat, (∀ j : Nat, j < n → κ' j = κ j) → cnt κ' n = cnt κ n
  | 0, _ => rfl
  | n + 1, h => by
    unfold cnt
    rw [cnt_congr n (fun j hj => h j (by omega)), h n (by omega)]
/-- C is A, on shelf x those alone that κ keeps -/
def FIL (A C : Int → Int) (x : Int) (κ : Int → Int) : Prop := mv A C ∧ okB C ∧ (∀ j, κ j = 0 ∨ κ j = 1) ∧ C (13 + x) = cnt κ (A (13 + x)).toNat ∧
  (∀ p : Nat, (p : Int) < A (13 + x) → κ p = 1 → C (16 + 10 * x + cnt κ p) = A (16 + 10 * x + p)) ∧
  (∀ p : Nat, (p : Int) < A (13 + x) → κ p = 0 → C (46 + 6 * A (16 + 10 * x + p) + 5) = 4) ∧
  (∀ b, 0 ≤ b → b < 10 → (∀ p : Nat, (p : Int) < A (13 + x) → κ p = 0 → A (16 + 10 * x + p) ≠ b) → C (46 + 6 * b + 5) = A (46 + 6 * b + 5)) ∧
  (∀ y, 0 ≤ y → y < 3 → y ≠ x → C (13 + y) = A (13 + y) ∧ ∀ p, 0 ≤ p → p < 10 → C (16 + 10 * y + p) = A (16 + 10 * y + p))
theorem FIL.start {A : Int → Int} {x : Int} (hB : okB A) (hx0 : 0 ≤ x) (hx1 : x < 3) {κ : Int → Int} (hk : ∀ j, κ j = 0 ∨ κ j = 1) (h1 : ∀ p : Nat, (p : Int) < A (13 + x) → κ p = 1) : FIL A A x κ := by
  have hm := hB.2.1 x hx0 hx1
  have hc : ∀ n : Nat, (n : Int) ≤ A (13 + x) → cnt κ n = n := by
    intro n
    induction n with
    | zero => intro _; rfl
    | succ n ih =>
      intro hn
      have := ih (by omega)
      have := h1 n (by omega)
      unfold cnt
      omega
  refine ⟨mv.rf A, hB, hk, ?_, fun p hp _ => by rw [hc p (by omega)], fun p hp h0 => absurd (h1 p hp) (by omega), fun b _ _ _ => rfl, fun y _ _ _ => ⟨rfl, fun p _ _ => rfl⟩⟩
  have := hc (A (13 + x)).toNat (by omega)
  omega
theorem FIL.pull {A C : Int → Int} {x : Int} {κ : Int → Int} (hB : okB A) (hx0 : 0 ≤ x) (hx1 : x < 3) (h : FIL A C x κ) {p0 : Nat} (hp0 : (p0 : Int) < A (13 + x)) (hk0 : κ p0 = 1) : FIL A (pullF C x (cnt κ p0) 4) x (kdel κ p0) ∧ 0 ≤ cnt κ p0 ∧ cnt κ p0 < C (13 + x) := by
  obtain ⟨f1, f2, f3, f4, f5, f6, f7, f8⟩ := h
  have hm := hB.2.1 x hx0 hx1
  have q0 := cnt_r f3 p0
  have q1 : cnt κ p0 < C (13 + x) := by
    rw [f4]
    exact cnt_lt f3 (by omega) hk0
  have hbk := f5 p0 hp0 hk0
  have hC := f2.2.1 x hx0 hx1
  refine ⟨⟨f1.tr (mv_pull f2 hx0 hx1 q0.1 q1), pull_ok f2 hx0 hx1 q0.1 q1 (Or.inr rfl), fun j => ?_, ?_, ?_, ?_, ?_, ?_⟩, q0.1, q1⟩
  · unfold kdel
    split
    · exact Or.inl rfl
    · exact f3 j
  · rw [pull_many f2 hx0 hx1 q0.1 q1 hx0 hx1, if_pos rfl, cnt_kdel hk0, if_pos (by omega), f4]
  · intro p hp hkp
    have hne : ¬ (p : Int) = p0 := fun q => by unfold kdel at hkp; rw [if_pos q] at hkp; omega
    have hkp1 : κ p = 1 := by unfold kdel at hkp; rw [if_neg hne] at hkp; exact hkp
    have r0 := cnt_r f3 p
    have rm : cnt κ p < C (13 + x) := by rw [f4]; exact cnt_lt f3 (by omega) hkp1
    rw [cnt_kdel hk0]
    by_cases hlt : p0 < p
    · have l1 := cnt_lt f3 hlt hk0
      rw [if_pos hlt, pull_pl f2 hx0 hx1 q0.1 q1 hx0 hx1 (by omega) (by omega), if_pos ⟨rfl, by omega, by omega⟩, show cnt κ p - 1 + 1 = cnt κ p by omega]
      exact f5 p hp hkp1
    · have l1 := cnt_lt f3 (show p < p0 by omega) hkp1
      rw [if_neg hlt, show cnt κ p - 0 = cnt κ p by omega, pull_pl f2 hx0 hx1 q0.1 q1 hx0 hx1 (by omega) (by omega), if_neg (by omega)]
      exact f5 p hp hkp1
  · intro p hp hkp
    have gp := hB.2.2.1 x p hx0 hx1 (by omega) hp
    rw [pull_wh f2 hx0 hx1 q0.1 q1 gp.1, hbk]
    by_cases hne : (p : Int) = p0
    · have : p = p0 := by omega
      rw [this, if_pos rfl]
    · have hkp1 : κ p = 0 := by unfold kdel at hkp; rw [if_neg hne] at hkp; exact hkp
      rw [if_neg (fun q => ?_)]
      · exact f6 p hp hkp1
      · rcases (by omega : (p : Int) < p0 ∨ (p0 : Int) < p) with z | z
        · exact hB.2.2.2.1 x p p0 hx0 hx1 (by omega) z hp0 q
        · exact hB.2.2.2.1 x p0 p hx0 hx1 (by omega) z hp q.symm
  · intro b b0 b1 hall
    rw [pull_wh f2 hx0 hx1 q0.1 q1 b0, hbk, if_neg (fun q => hall p0 hp0 (by unfold kdel; rw [if_pos rfl]) q.symm)]
    refine f7 b b0 b1 (fun p hp hkp => hall p hp ?_)
    unfold kdel
    split
    · rfl
    · exact hkp
  · intro y y0 y1 hy
    have g := f8 y y0 y1 hy
    refine ⟨?_, fun p p0' p1 => ?_⟩
    · rw [pull_many f2 hx0 hx1 q0.1 q1 y0 y1, if_neg hy]; exact g.1
    · rw [pull_pl f2 hx0 hx1 q0.1 q1 y0 y1 p0' p1, if_neg (fun q => hy q.1)]; exact g.2 p p0' p1
/-- every place of the filtered shelf holds a kept one -/
theorem cnt_onto {κ : Int → Int} (h : ∀ j, κ j = 0 ∨ κ j = 1) : ∀ (n : Nat) (q : Int), 0 ≤ q → q < cnt κ n → ∃ p : Nat, p < n ∧ κ p = 1 ∧ cnt κ p = q
  | 0, q, h0, h1 => by unfold cnt at h1; omega
  | n + 1, q, h0, h1 => by
    have e : cnt κ (n + 1) = cnt κ n + κ n := rfl
    by_cases c : q < cnt κ n
    · obtain ⟨p, a, b, d⟩ := cnt_onto h n q h0 c
      exact ⟨p, by omega, b, d⟩
    · have := h n
      exact ⟨n, by omega, by omega, by omega⟩
theorem FIL.eqv {A C D : Int → Int} {x : Int} {κ : Int → Int} (hB : okB A) (hx0 : 0 ≤ x) (hx1 : x < 3) (h : FIL A C x κ) (g : FIL A D x κ) : eqv C D := by
  obtain ⟨f1, f2, f3, f4, f5, f6, f7, f8⟩ := h
  obtain ⟨g1, g2, _, g4, g5, g6, g7, g8⟩ := g
  have hm := hB.2.1 x hx0 hx1
  refine ⟨fun k a b => (g1 k a b).trans (f1 k a b).symm, ?_, ?_, ?_⟩
  · intro y a b
    by_cases hy : y = x
    · rw [hy, f4, g4]
    · rw [(f8 y a b hy).1, (g8 y a b hy).1]
  · intro y p a b c d
    have hcm := f2.2.1 y a b
    by_cases hy : y = x
    · subst hy
      rw [f4] at d
      obtain ⟨j, j1, j2, j3⟩ := cnt_onto f3 _ p c d
      rw [← j3, f5 j (by omega) j2, g5 j (by omega) j2]
    · rw [(f8 y a b hy).2 p c (by omega), (g8 y a b hy).2 p c (by omega)]
  · intro b b0 b1
    by_cases hex : ∃ p : Nat, (p : Int) < A (13 + x) ∧ κ p = 0 ∧ A (16 + 10 * x + p) = b
    · obtain ⟨p, p1, p2, p3⟩ := hex
      have a1 := f6 p p1 p2
      have a2 := g6 p p1 p2
      rw [p3] at a1 a2
      rw [a1, a2]
    · have hall : ∀ p : Nat, (p : Int) < A (13 + x) → κ p = 0 → A (16 + 10 * x + p) ≠ b := fun p a c d => hex ⟨p, a, c, d⟩
      rw [f7 b b0 b1 hall, g7 b b0 b1 hall]
/-- the model's way: from place 0 on -/
def filF (A T : Int → Int) (x : Int) : Nat → (Int → Int) × Int
  | 0 => (A, 0)
  | n + 1 => if fallP A T (A (16 + 10 * x + n)) x n (A (13 + x)) = 1 then (pullF (filF A T x n).1 x (n - (filF A T x n).2) 4, (filF A T x n).2 + 1) else filF A T x n
/-- who is kept of the first n places -/
def kap (A T : Int → Int) (x : Int) (n : Int) : Int → Int := fun j => if 0 ≤ j ∧ j < n ∧ fallP A T (A (16 + 10 * x + j)) x j (A (13 + x)) = 1 then 0 else 1
theorem kap_01 (A T : Int → Int) (x n : Int) : ∀ j, kap A T x n j = 0 ∨ kap A T x n j = 1 := fun j => by unfold kap; split <;> simp
theorem cnt_top {κ κ' : Int → Int} {n m : Nat} (h : ∀ j : Nat, j < n → κ' j = κ j) (h1 : ∀ j : Nat, n ≤ j → κ j = 1) (h2 : κ' n = 0) (h3 : ∀ j : Nat, n < j → κ' j = 1) (hm : n < m) : cnt κ' m = cnt κ m - 1 := by
  have e : ∀ k : Nat, cnt κ' (n + 1 + k) = cnt κ (n + 1 + k) - 1 := by
    intro k
    induction k with
    | zero =>
      show cnt κ' n + κ' n = cnt κ n + κ n - 1
      rw [cnt_congr n h, h2, h1 n (Nat.le_refl _)]
      omega
    | succ k ih =>
      show cnt κ' (n + 1 + k) + κ' ((n + 1 + k : Nat) : Int) = cnt κ (n + 1 + k) + κ ((n + 1 + k : Nat) : Int) - 1
      rw [ih, h3 _ (by omega), h1 _ (by omega)]
      omega
  obtain ⟨k, rfl⟩ : ∃ k, m = n + 1 + k := ⟨m - (n + 1), by omega⟩
  exact e k
theorem FIL.congr {A C : Int → Int} {x : Int} {κ κ' : Int → Int} (h : FIL A C x κ) (hk : ∀ j, κ' j = 0 ∨ κ' j = 1) (e : ∀ j : Nat, (j : Int) < A (13 + x) → κ' j = κ j) : FIL A C x κ' := by
  obtain ⟨f1, f2, f3, f4, f5, f6, f7, f8⟩ := h
  refine ⟨f1, f2, hk, by rw [f4, cnt_congr _ (fun j hj => e j (by omega))], fun p hp hkp => ?_, fun p hp hkp => f6 p hp (by rw [← e p hp]; exact hkp), fun b b0 b1 hall => f7 b b0 b1 (fun p hp hkp => hall p hp (by rw [e p hp]; exact hkp)), f8⟩
  rw [cnt_congr p (fun j hj => e j (by omega))]
  exact f5 p hp (by rw [← e p hp]; exact hkp)
theorem filF_ok {A T : Int → Int} {x : Int} (hB : okB A) (hx0 : 0 ≤ x) (hx1 : x < 3) : ∀ n : Nat, (n : Int) ≤ A (13 + x) → FIL A (filF A T x n).1 x (kap A T x n) ∧ cnt (kap A T x n) n = n - (filF A T x n).2 ∧ 0 ≤ (filF A T x n).2 ∧ (filF A T x n).2 ≤ n ∧ (filF A T x n).1 (13 + x) = A (13 + x) - (filF A T x n).2
  | 0, _ => by
    refine ⟨FIL.start hB hx0 hx1 (kap_01 A T x 0) (fun p hp => by unfold kap; rw [if_neg (by omega)]), rfl, Int.le_refl _, Int.le_refl _, ?_⟩
    show A (13 + x) = A (13 + x) - 0
    omega
  | n + 1, hn => by
    obtain ⟨ih, i1, i2, i3, i4⟩ := filF_ok (T := T) hB hx0 hx1 n (by omega)
    have kn : kap A T x n n = 1 := by unfold kap; rw [if_neg (by omega)]
    unfold filF
    by_cases hf : fallP A T (A (16 + 10 * x + n)) x n (A (13 + x)) = 1
    · rw [if_pos hf]
      obtain ⟨p1, p2, p3⟩ := FIL.pull hB hx0 hx1 ih (p0 := n) (by omega) kn
      have ke : ∀ j, kap A T x ((n + 1 : Nat) : Int) j = kdel (kap A T x n) n j := by
        intro j
        unfold kdel kap
        by_cases q : j = n
        · rw [if_pos q, if_pos ⟨by omega, by omega, by rw [q]; exact hf⟩]
        · rw [if_neg q]
          by_cases q2 : 0 ≤ j ∧ j < (n : Int) ∧ fallP A T (A (16 + 10 * x + j)) x j (A (13 + x)) = 1
          · rw [if_pos q2, if_pos ⟨q2.1, by omega, q2.2.2⟩]
          · rw [if_neg q2, if_neg (fun z => q2 ⟨z.1, by omega, z.2.2⟩)]
      rw [i1] at p1
      refine ⟨p1.congr (kap_01 A T x _) (fun j _ => ke j), ?_, by omega, by omega, ?_⟩
      · show cnt (kap A T x ((n + 1 : Nat) : Int)) n + kap A T x ((n + 1 : Nat) : Int) n = _
        rw [cnt_congr n (κ := kap A T x n) (fun j hj => by rw [ke]; unfold kdel; rw [if_neg (by omega)]), i1, ke]
        unfold kdel
        rw [if_pos rfl]
        dsimp only
        omega
      · have b2 := ih.2.1
        rw [i1] at p2 p3
        dsimp only
        rw [pull_many b2 hx0 hx1 p2 p3 hx0 hx1, if_pos rfl, i4]
        omega
    · rw [if_neg hf]
      have ke : ∀ j, kap A T x ((n + 1 : Nat) : Int) j = kap A T x n j := by
        intro j
        unfold kap
        by_cases q2 : 0 ≤ j ∧ j < (n : Int) ∧ fallP A T (A (16 + 10 * x + j)) x j (A (13 + x)) = 1
        · rw [if_pos q2, if_pos ⟨q2.1, by omega, q2.2.2⟩]
        · rw [if_neg q2, if_neg (fun z => ?_)]
          by_cases q : j = n
          · rw [q] at z; exact hf z.2.2
          · exact q2 ⟨z.1, by omega, z.2.2⟩
      refine ⟨ih.congr (kap_01 A T x _) (fun j _ => ke j), ?_, i2, by omega, i4⟩
      show cnt (kap A T x ((n + 1 : Nat) : Int)) n + kap A T x ((n + 1 : Nat) : Int) n = _
      rw [cnt_congr n (κ := kap A T x n) (fun j hj => ke j), i1, ke, kn]
      omega
/-- from the right, until it is wide enough -/
def trim (T : Int → Int) (x : Int) : Nat → (Int → Int) → (Int → Int)
  | 0, A => A
  | n + 1, A => if A (10 + x) < fullP A T x then trim T x n (pullF A x (A (13 + x) - 1) 4) else A
theorem fullN_mv {A A' T : Int → Int} (h : mv A A') (hV : VJ A T) (hB : okB A) {x : Int} (hx0 : 0 ≤ x) (hx1 : x < 3) : ∀ n : Nat, (n : Int) ≤ A (13 + x) → (∀ p, 0 ≤ p → p < n → A' (16 + 10 * x + p) = A (16 + 10 * x + p)) → fullN A' T x n = fullN A T x n
  | 0, _, _ => rfl
  | n + 1, hn, he => by
    unfold fullN
    rw [fullN_mv h hV hB hx0 hx1 n (by omega) (fun p a b => he p a (by omega)), he n (by omega) (by omega), thick_mv h hV (hB.2.2.1 x n hx0 hx1 (by omega) (by omega)).1]
theorem fullN_r {A T : Int → Int} (hV : VJ A T) (hB : okB A) {x : Int} (hx0 : 0 ≤ x) (hx1 : x < 3) : ∀ n : Nat, (n : Int) ≤ A (13 + x) → n ≤ fullN A T x n ∧ fullN A T x n ≤ 18 * n
  | 0, _ => by unfold fullN; omega
  | n + 1, hn => by
    have := fullN_r hV hB hx0 hx1 n (by omega)
    have g := hB.2.2.1 x n hx0 hx1 (by omega) (by omega)
    have := thickP_r hV g.1 g.2.1
    unfold fullN
    omega
/-- one less at the right -/
theorem full_pull {A T : Int → Int} (hV : VJ A T) (hB : okB A) {x : Int} (hx0 : 0 ≤ x) (hx1 : x < 3) (h1 : 1 ≤ A (13 + x)) : fullP (pullF A x (A (13 + x) - 1) 4) T x = fullP A T x - thickP A T (A (16 + 10 * x + (A (13 + x) - 1))) := by
  have hm := hB.2.1 x hx0 hx1
  have mvp := mv_pull (to := 4) hB hx0 hx1 (p := A (13 + x) - 1) (by omega) (by omega)
  obtain ⟨m, hmm⟩ : ∃ m : Nat, A (13 + x) = m + 1 := ⟨(A (13 + x) - 1).toNat, by omega⟩
  unfold fullP
  rw [pull_many hB hx0 hx1 (by omega) (by omega) hx0 hx1, if_pos rfl, show (A (13 + x) - 1).toNat = m by omega, show (A (13 + x)).toNat = m + 1 by omega, fullN, show A (13 + x) - 1 = (m : Int) by omega]
  rw [fullN_mv (by rw [show A (13 + x) - 1 = (m : Int) by omega] at mvp; exact mvp) hV hB hx0 hx1 m (by omega) (fun p a b => by rw [pull_pl hB hx0 hx1 (by omega) (by omega) hx0 hx1 (by omega) (by omega), if_neg (by omega)])]
  omega
theorem trim_ok {T : Int → Int} {x : Int} (hx0 : 0 ≤ x) (hx1 : x < 3) : ∀ (n : Nat) {A : Int → Int}, VJ A T → okB A → 0 ≤ A (10 + x) → mv A (trim T x n A) ∧ okB (trim T x n A) ∧ (trim T x n A) (13 + x) ≤ A (13 + x) ∧ (∀ y, 0 ≤ y → y < 3 → y ≠ x → trim T x n A (13 + y) = A (13 + y))
  | 0, A, _, hB, _ => ⟨mv.rf A, hB, Int.le_refl _, fun _ _ _ _ => rfl⟩
  | n + 1, A, hV, hB, hw => by
    unfold trim
    by_cases h : A (10 + x) < fullP A T x
    · rw [if_pos h]
      have hm := hB.2.1 x hx0 hx1
      have h1 : 1 ≤ A (13 + x) := by
        rcases (by omega : A (13 + x) = 0 ∨ 1 ≤ A (13 + x)) with q | q
        · unfold fullP at h
          rw [q] at h
          have : fullN A T x (0 : Int).toNat = 0 := rfl
          omega
        · exact q
      have mvp := mv_pull (to := 4) hB hx0 hx1 (p := A (13 + x) - 1) (by omega) (by omega)
      obtain ⟨a, b, c, d⟩ := trim_ok hx0 hx1 n (mvp.VJ hV) (pull_ok hB hx0 hx1 (by omega) (by omega) (Or.inr rfl)) (by rw [mvp.lo (by omega)]; exact hw)
      rw [pull_many hB hx0 hx1 (by omega) (by omega) hx0 hx1, if_pos rfl] at c
      refine ⟨mvp.tr a, b, by omega, fun y y0 y1 hy => ?_⟩
      rw [d y y0 y1 hy, pull_many hB hx0 hx1 (by omega) (by omega) y0 y1, if_neg hy]
    · rw [if_neg h]
      exact ⟨mv.rf A, hB, Int.le_refl _, fun _ _ _ _ => rfl⟩
/-- what falls from a shelf -/
def fallF (A T : Int → Int) (x : Int) : Int → Int := trim T x 10 (filF A T x (A (13 + x)).toNat).1
def fallAll (A T : Int → Int) : Nat → (Int → Int) × Int
  | 0 => (A, 0)
  | n + 1 => (fallF (fallAll A T n).1 T n, (fallAll A T n).2 + ((fallAll A T n).1 (13 + n) - fallF (fallAll A T n).1 T n (13 + n)))
theorem fallF_ok {A T : Int → Int} {x : Int} (hV : VJ A T) (hB : okB A) (hw : 0 ≤ A (10 + x)) (hx0 : 0 ≤ x) (hx1 : x < 3) : mv A (fallF A T x) ∧ okB (fallF A T x) ∧ fallF A T x (13 + x) ≤ A (13 + x) := by
  have hm := hB.2.1 x hx0 hx1
  obtain ⟨f, f1, f2, f3, f4⟩ := filF_ok (T := T) hB hx0 hx1 (A (13 + x)).toNat (by omega)
  obtain ⟨a, b, c, d⟩ := trim_ok (T := T) hx0 hx1 10 (f.1.VJ hV) f.2.1 (by rw [f.1.lo (by omega)]; exact hw)
  exact ⟨f.1.tr a, b, by unfold fallF; omega⟩
theorem fallAll_ok {A T : Int → Int} (hV : VJ A T) (hB : okB A) (hw : ∀ x, 0 ≤ x → x < 3 → 0 ≤ A (10 + x)) : ∀ n : Nat, n ≤ 3 → mv A (fallAll A T n).1 ∧ okB (fallAll A T n).1 ∧ 0 ≤ (fallAll A T n).2 ∧ (fallAll A T n).2 ≤ 10 * n
  | 0, _ => ⟨mv.rf A, hB, Int.le_refl _, by show (0 : Int) ≤ 10 * ((0 : Nat) : Int); omega⟩
  | n + 1, hn => by
    obtain ⟨a, b, c, d⟩ := fallAll_ok hV hB hw n (by omega)
    have hw' : 0 ≤ (fallAll A T n).1 (10 + n) := by rw [a.lo (by omega)]; exact hw n (by omega) (by omega)
    obtain ⟨e, f, g⟩ := fallF_ok (a.VJ hV) b hw' (by omega : (0 : Int) ≤ n) (by omega)
    have m1 := b.2.1 n (by omega) (by omega)
    have m2 := f.2.1 n (by omega) (by omega)
    refine ⟨a.tr e, f, ?_, ?_⟩
    · show 0 ≤ (fallAll A T n).2 + _
      omega
    · show (fallAll A T n).2 + _ ≤ _
      omega
/-! bits -/
theorem bit_nn (s b : Int) (h : 0 ≤ s) : 0 ≤ s / 2 ^ b.toNat := Int.ediv_nonneg h (by rw [p2c]; exact Int.natCast_nonneg _)
theorem bit_or {s k b : Int} (hs : 0 ≤ s) (hk : 0 ≤ k) (hb : 0 ≤ b) : (orI s (1 * 2 ^ k.toNat) / 2 ^ b.toNat) % 2 = if b = k then 1 else (s / 2 ^ b.toNat) % 2 := by
  obtain ⟨n, rfl⟩ := Int.eq_ofNat_of_zero_le hs
  obtain ⟨j, rfl⟩ := Int.eq_ofNat_of_zero_le hk
  obtain ⟨i, rfl⟩ := Int.eq_ofNat_of_zero_le hb
  unfold orI
  rw [Int.toNat_natCast, Int.toNat_natCast, Int.toNat_natCast, Int.one_mul, p2c, p2c, Int.toNat_natCast, dvc, dvc]
  have e1 : ∀ m : Nat, (((m / 2 ^ i : Nat) : Int) % 2) = ((m / 2 ^ i % 2 : Nat) : Int) := fun m => rfl
  rw [e1, e1]
  have t1 : ∀ m : Nat, m / 2 ^ i % 2 = if m.testBit i then 1 else 0 := fun m => by
    rw [Nat.testBit_eq_decide_div_mod_eq]
    rcases Nat.mod_two_eq_zero_or_one (m / 2 ^ i) with q | q <;> simp [q]
  rw [t1, t1, Nat.testBit_or, Nat.testBit_two_pow]
  by_cases q : i = j
  · subst q; simp
  · have q2 : ¬ (i : Int) = j := by omega
    rw [if_neg q2]
    have q3 : decide (j = i) = false := by simp; omega
    rw [q3]
    simp
