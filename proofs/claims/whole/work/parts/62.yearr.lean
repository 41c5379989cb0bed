/-! The year, as rows: slot 4 (the drawn element) may be set before or after. -/
theorem je4 (A : Int → Int) (v : Int) : je A (set1 A 4 v) := ⟨set1_ne (by decide), set1_ne (by decide), set1_ne (by decide), set1_ne (by decide), fun b w _ _ _ _ => set1_ne (by omega)⟩
theorem thick_je {A A' T : Int → Int} (h : je A A') (hV : VJ A T) {b : Int} (hb : 0 ≤ b) (hb1 : b < 10) : thickP A' T b = thickP A T b := by
  unfold thickP
  rw [h.2.2.2.2 b 2 hb hb1 (by decide) (by decide), clP_mv h.2.2.2.1, h.2.1, h.2.2.2.1]
  congr 1
  by_cases q : A 2 = 1 ∧ 0 ≤ clP A T 2 0
  · rw [if_pos q, if_pos q]
    congr 1
    exact congrArg (fun q : (Int → Int) × (Int → Int) => q.1 0) (vmT_congr (clP_ok hV (so := 2) (by decide) (by decide) q.2) (fun v h0 h1 _ => nmA_je h hb hb1 (fun _ _ => rfl) v h0))
  · rw [if_neg q, if_neg q]
theorem fall_je {A A' T : Int → Int} (h : je A A') (hV : VJ A T) {b sh pl many : Int} (hb : 0 ≤ b) (hb1 : b < 10) : fallP A' T b sh pl many = fallP A T b sh pl many := by
  unfold fallP
  rw [clP_mv h.2.2.2.1, h.2.2.2.1]
  by_cases q : clP A T 1 0 < 0
  · rw [if_pos q, if_pos q]
  · rw [if_neg q, if_neg q]
    exact congrArg (fun q : (Int → Int) × (Int → Int) => q.2 0) (vmT_congr (clP_ok hV (so := 1) (by decide) (by decide) (by omega)) (fun v h0 h1 _ => nmA_je h hb hb1 (fun _ _ => rfl) v h0))
theorem pull4 {A : Int → Int} {x p to v : Int} (hx0 : 0 ≤ x) (hp0 : 0 ≤ p) : pullF (set1 A 4 v) x p to = set1 (pullF A x p to) 4 v := by
  funext k
  have e : ∀ j, j ≠ 4 → set1 A 4 v j = A j := fun j q => set1_ne q
  by_cases h : k = 4
  · subst h
    unfold pullF
    rw [e (16 + 10 * x + p) (by omega), e (13 + x) (by omega), if_neg (by omega), if_neg (by omega), if_neg (by omega)]
    rfl
  · refine Eq.trans ?_ (set1_ne h).symm
    unfold pullF
    rw [e (16 + 10 * x + p) (by omega), e (13 + x) (by omega), e k h]
    by_cases c : 16 + 10 * x + p ≤ k ∧ k < 16 + 10 * x + A (13 + x) - 1
    · rw [e (k + 1) (by omega)]
    · rw [if_neg c, if_neg c]
theorem setq4 {A : Int → Int} {b x p v : Int} (hx0 : 0 ≤ x) (hp0 : 0 ≤ p) : setF (set1 A 4 v) b x p = set1 (setF A b x p) 4 v := by
  funext k
  have e : ∀ j, j ≠ 4 → set1 A 4 v j = A j := fun j q => set1_ne q
  by_cases h : k = 4
  · subst h
    unfold setF
    rw [e (13 + x) (by omega), if_neg (by omega), if_neg (by omega), if_neg (by omega), if_neg (by omega)]
    rfl
  · refine Eq.trans ?_ (set1_ne h).symm
    unfold setF
    rw [e (13 + x) (by omega), e k h]
    by_cases c : 16 + 10 * x + p < k ∧ k ≤ 16 + 10 * x + A (13 + x)
    · rw [e (k - 1) (by omega)]
    · rw [if_neg c, if_neg c]
theorem set1_sw {A : Int → Int} {j v w : Int} (hj : j ≠ 4) : set1 (set1 A 4 v) j w = set1 (set1 A j w) 4 v := by
  funext k
  unfold set1
  by_cases h : k = 4
  · rw [if_neg (by omega), if_pos h, if_pos h]
  · rw [if_neg h, if_neg h]
theorem set1_44 {A : Int → Int} {v w : Int} : set1 (set1 A 4 v) 4 w = set1 A 4 w := by
  funext k
  unfold set1
  by_cases h : k = 4
  · rw [if_pos h, if_pos h]
  · rw [if_neg h, if_neg h, if_neg h]
theorem fil4 {A T : Int → Int} {x v : Int} (hV : VJ A T) (hB : okB A) (hx0 : 0 ≤ x) (hx1 : x < 3) : ∀ n : Nat, (n : Int) ≤ A (13 + x) → filF (set1 A 4 v) T x n = (set1 (filF A T x n).1 4 v, (filF A T x n).2)
  | 0, _ => rfl
  | n + 1, hn => by
    have g := hB.2.2.1 x n hx0 hx1 (by omega) (by omega)
    have g0 := hB.1
    have f := (filF_ok (T := T) hB hx0 hx1 n (by omega)).2.2
    unfold filF
    rw [fil4 hV hB hx0 hx1 n (by omega), set1_ne (by omega), set1_ne (by omega), fall_je (je4 A v) hV g.1 (by omega)]
    by_cases q : fallP A T (A (16 + 10 * x + n)) x n (A (13 + x)) = 1
    · rw [if_pos q, if_pos q]
      show (pullF (set1 (filF A T x n).1 4 v) x _ 4, _) = (set1 (pullF _ x _ 4) 4 v, _)
      rw [pull4 hx0 (by omega)]
    · rw [if_neg q, if_neg q]
theorem fullN4 {A T : Int → Int} {x v : Int} (hV : VJ A T) (hB : okB A) (hx0 : 0 ≤ x) (hx1 : x < 3) : ∀ n : Nat, (n : Int) ≤ A (13 + x) → fullN (set1 A 4 v) T x n = fullN A T x n
  | 0, _ => rfl
  | n + 1, hn => by
    have g := hB.2.2.1 x n hx0 hx1 (by omega) (by omega)
    have g0 := hB.1
    unfold fullN
    rw [fullN4 hV hB hx0 hx1 n (by omega), set1_ne (by omega), thick_je (je4 A v) hV g.1 (by omega)]
theorem fullP4 {A T : Int → Int} {x v : Int} (hV : VJ A T) (hB : okB A) (hx0 : 0 ≤ x) (hx1 : x < 3) : fullP (set1 A 4 v) T x = fullP A T x := by
  have hm := hB.2.1 x hx0 hx1
  unfold fullP
  rw [set1_ne (by omega)]
  exact fullN4 hV hB hx0 hx1 _ (by omega)
theorem trim4 {T : Int → Int} {x v : Int} (hx0 : 0 ≤ x) (hx1 : x < 3) : ∀ (n : Nat) {A : Int → Int}, VJ A T → okB A → 0 ≤ A (10 + x) → trim T x n (set1 A 4 v) = set1 (trim T x n A) 4 v
  | 0, _, _, _, _ => rfl
  | n + 1, A, hV, hB, hw => by
    unfold trim
    rw [set1_ne (by omega), fullP4 hV hB hx0 hx1, set1_ne (by omega)]
    by_cases h : A (10 + x) < fullP A T x
    · rw [if_pos h, if_pos h]
      have hm := hB.2.1 x hx0 hx1
      have h1 : 1 ≤ A (13 + x) := by
        rcases (by omega : A (13 + x) = 0 ∨ 1 ≤ A (13 + x)) with q | q
        · unfold fullP at h
          rw [q] at h
          have : fullN A T x (0 : Int).toNat = 0 := rfl
          omega
        · exact q
      have mvp := mv_pull (to := 4) hB hx0 hx1 (p := A (13 + x) - 1) (by omega) (by omega)
      rw [pull4 hx0 (by omega)]
      exact trim4 hx0 hx1 n (mvp.VJ hV) (pull_ok hB hx0 hx1 (by omega) (by omega) (Or.inr rfl)) (by rw [mvp.lo (by omega)]; exact hw)
    · rw [if_neg h, if_neg h]
theorem fallF4 {A T : Int → Int} {x v : Int} (hV : VJ A T) (hB : okB A) (hw : 0 ≤ A (10 + x)) (hx0 : 0 ≤ x) (hx1 : x < 3) : fallF (set1 A 4 v) T x = set1 (fallF A T x) 4 v := by
  have hm := hB.2.1 x hx0 hx1
  obtain ⟨f, f1, f2, f3, f4⟩ := filF_ok (T := T) hB hx0 hx1 (A (13 + x)).toNat (by omega)
  unfold fallF
  rw [set1_ne (by omega), fil4 hV hB hx0 hx1 _ (by omega)]
  exact trim4 hx0 hx1 10 (f.1.VJ hV) f.2.1 (by rw [f.1.lo (by omega)]; exact hw)
theorem fallAll4 {A T : Int → Int} {v : Int} (hV : VJ A T) (hB : okB A) (hw : ∀ x, 0 ≤ x → x < 3 → 0 ≤ A (10 + x)) : ∀ n : Nat, n ≤ 3 → fallAll (set1 A 4 v) T n = (set1 (fallAll A T n).1 4 v, (fallAll A T n).2)
  | 0, _ => rfl
  | n + 1, hn => by
    obtain ⟨a, b, c, d⟩ := fallAll_ok hV hB hw n (by omega)
    have hw' : 0 ≤ (fallAll A T n).1 (10 + n) := by rw [a.lo (by omega)]; exact hw n (by omega) (by omega)
    unfold fallAll
    rw [fallAll4 hV hB hw n (by omega)]
    show (fallF (set1 (fallAll A T n).1 4 v) T n, _ + (set1 (fallAll A T n).1 4 v (13 + n) - fallF (set1 (fallAll A T n).1 4 v) T n (13 + n))) = _
    rw [fallF4 (a.VJ hV) b hw' (by omega) (by omega), set1_ne (by omega), set1_ne (by omega)]
/-- taken away to w and set on w, or taken away to 3 -/
theorem set_pull {A : Int → Int} (hB : okB A) {x p b q to : Int} (hx0 : 0 ≤ x) (hx1 : x < 3) (hp0 : 0 ≤ p) (hp1 : p < A (13 + x)) (hb0 : 0 ≤ b) (hb : A (16 + 10 * x + p) = b) : setF (pullF A x p to) b x q = setF (pullF A x p 3) b x q := by
  have hm := hB.2.1 x hx0 hx1
  have e : ∀ k, k ≠ 46 + 6 * b + 5 → pullF A x p to k = pullF A x p 3 k := fun k h => by
    unfold pullF
    rw [hb, if_neg h, if_neg h]
  have em : pullF A x p 3 (13 + x) = A (13 + x) - 1 := by rw [pull_many hB hx0 hx1 hp0 hp1 hx0 hx1, if_pos rfl]
  funext k
  unfold setF
  by_cases h : k = 46 + 6 * b + 5
  · rw [if_pos h, if_pos h]
  · rw [if_neg h, if_neg h, e (13 + x) (by omega), e k h, em]
    by_cases c : 16 + 10 * x + q < k ∧ k ≤ 16 + 10 * x + (A (13 + x) - 1)
    · rw [e (k - 1) (by omega)]
    · rw [if_neg c, if_neg c]
theorem plS4 {A : Int → Int} {x b v : Int} (hx0 : 0 ≤ x) : ∀ (n : Nat) (p : Int), 0 ≤ p → plS (set1 A 4 v) x b n p = plS A x b n p
  | 0, _, _ => rfl
  | n + 1, p, h => by
    unfold plS
    rw [set1_ne (by omega), plS4 hx0 n (p + 1) (by omega)]
theorem place4 {A : Int → Int} {b v : Int} (hb0 : 0 ≤ b) (hw : 0 ≤ A (46 + 6 * b + 5)) : placeP (set1 A 4 v) b = placeP A b := by
  unfold placeP
  rw [set1_ne (by omega), plS4 hw _ _ (by decide)]
/-- the next element drawn -/
def anI (e : Int) : Int := (e * 179 + 101) % 30113
theorem anI_r (e : Int) : 0 ≤ anI e ∧ anI e ≤ 30112 := by unfold anI; omega
/-- one draw of the year: the book b and its shelf w; is it moved; the place -/
def yB (A : Int → Int) (e : Int) : Int := e % A 0
def yW (A : Int → Int) (e : Int) : Int := A (46 + 6 * yB A e + 5)
def yQ (A : Int → Int) (e : Int) : Int := anI e % A (13 + yW A e)
def yRow (A : Int → Int) (e : Int) : Int → Int := if yW A e ≤ 2 ∧ 2 ≤ A (13 + yW A e) then setF (pullF A (yW A e) (placeP A (yB A e)) 3) (yB A e) (yW A e) (yQ A e) else A
def yE (A : Int → Int) (e : Int) : Int := if yW A e ≤ 2 ∧ 2 ≤ A (13 + yW A e) then anI (anI e) else anI e
def yN (A : Int → Int) (e : Int) : Int := if (yW A e ≤ 2 ∧ 2 ≤ A (13 + yW A e)) ∧ placeP A (yB A e) ≠ yQ A e then 1 else 0
def yWet (A T : Int → Int) (e : Int) : Int → Int := if e % 10 < 3 then (twR A T (1 - A 2)).1 else A
def yearN (T : Int → Int) : Nat → (Int → Int) → Int → (Int → Int) × Int × Int
  | 0, A, e => (A, e, 0)
  | n + 1, A, e => ((yearN T n (yWet (yRow A e) T (yE A e)) (anI (yE A e))).1, (yearN T n (yWet (yRow A e) T (yE A e)) (anI (yE A e))).2.1, yN A e + (yearN T n (yWet (yRow A e) T (yE A e)) (anI (yE A e))).2.2)
def yearR (A T : Int → Int) (sd n : Int) : (Int → Int) × Int := if (0 ≤ sd ∧ sd ≤ 9999) ∧ (1 ≤ n ∧ n ≤ 40) ∧ 1 ≤ A 0 then (set1 (yearN T n.toNat (keepF A) (sd * 4 + 31)).1 4 (yearN T n.toNat (keepF A) (sd * 4 + 31)).2.1, (yearN T n.toNat (keepF A) (sd * 4 + 31)).2.2) else (A, -1)
theorem yB_r {A : Int → Int} {e : Int} (h1 : 1 ≤ A 0) : 0 ≤ yB A e ∧ yB A e < A 0 := ⟨Int.emod_nonneg _ (by omega), Int.emod_lt_of_pos _ (by omega)⟩
theorem yRow_ok {A T : Int → Int} (h : VA A T) {e : Int} (h1 : 1 ≤ A 0) : VA (yRow A e) T ∧ yRow A e 0 = A 0 ∧ yRow A e 2 = A 2 := by
  have hB := h.2.1
  obtain ⟨b0, b1⟩ := yB_r (e := e) h1
  have gw := (hB.2.2.2.2 (yB A e) b0 b1).1
  have g0 := hB.1
  unfold yRow
  by_cases c : yW A e ≤ 2 ∧ 2 ≤ A (13 + yW A e)
  · rw [if_pos c]
    have c1 := c.1
    have c2 := c.2
    have hwe : yW A e = A (46 + 6 * yB A e + 5) := rfl
    obtain ⟨p0, p1, p2⟩ := placeP_ok hB b0 b1 c1
    rw [← hwe] at p1 p2
    have hm := hB.2.1 (yW A e) (by omega) (by omega)
    have q0 : 0 ≤ yQ A e := Int.emod_nonneg _ (by omega)
    have q1 : yQ A e < A (13 + yW A e) := Int.emod_lt_of_pos _ (by omega)
    have m1 := mv_pull (to := 3) hB (x := yW A e) (by omega) (by omega) p0 p1
    have k1 := pull_ok (to := 3) hB (x := yW A e) (by omega) (by omega) p0 p1 (Or.inl rfl)
    have em : pullF A (yW A e) (placeP A (yB A e)) 3 (13 + yW A e) = A (13 + yW A e) - 1 := by rw [pull_many hB (by omega) (by omega) p0 p1 (by omega) (by omega), if_pos rfl]
    have ew : pullF A (yW A e) (placeP A (yB A e)) 3 (46 + 6 * yB A e + 5) = 3 := by rw [pull_wh hB (by omega) (by omega) p0 p1 b0, p2, if_pos rfl]
    have m2 := mv_set (A := pullF A (yW A e) (placeP A (yB A e)) 3) (b := yB A e) (x := yW A e) (p := yQ A e) b0 (by omega) (by omega) (by omega) q0 (by omega) (by omega)
    have k2 := set_ok k1 (b := yB A e) (x := yW A e) (p := yQ A e) b0 (by rw [m1.lo (by decide)]; exact b1) (by omega) (by omega) (by omega) q0 (by omega) (by omega)
    exact ⟨m2.VA k2 (m1.VA k1 h), (m2.lo (by decide)).trans (m1.lo (by decide)), (m2.lo (by decide)).trans (m1.lo (by decide))⟩
  · rw [if_neg c]
    exact ⟨h, rfl, rfl⟩
theorem twR_ok {A T : Int → Int} (h : VA A T) {v : Int} (hv : v = 0 ∨ v = 1) : VA (twR A T v).1 T ∧ (twR A T v).1 0 = A 0 := by
  unfold twR
  split
  · have hs := set1_VA h (j := 2) (v := 1) (Or.inl ⟨rfl, Or.inr rfl⟩)
    obtain ⟨a, b, c, d⟩ := fallAll_ok hs.1 hs.2.1 (fun x x0 x1 => by have := hs.2.2.1.2.2.2.2.1 x x0 x1; omega) 3 (by decide)
    exact ⟨a.VA b hs, (a.lo (by decide)).trans (set1_ne (by decide))⟩
  · exact ⟨set1_VA h (Or.inl ⟨rfl, Or.inl rfl⟩), set1_ne (A := A) (j := 2) (v := 0) (k := 0) (by decide)⟩
theorem yWet_ok {A T : Int → Int} (h : VA A T) (e : Int) : VA (yWet A T e) T ∧ yWet A T e 0 = A 0 := by
  have h2 := h.1.2.1
  unfold yWet
  split
  · exact twR_ok h (by omega)
  · exact ⟨h, rfl⟩
theorem yN_01 (A : Int → Int) (e : Int) : yN A e = 0 ∨ yN A e = 1 := by unfold yN; split <;> simp
theorem yE_r (A : Int → Int) (e : Int) : 0 ≤ yE A e ∧ yE A e ≤ 30112 := by unfold yE; split <;> exact anI_r _
theorem yearN_ok {T : Int → Int} : ∀ (n : Nat) {A : Int → Int} {e : Int}, VA A T → 1 ≤ A 0 → 0 ≤ e ∧ e ≤ 40027 → VA (yearN T n A e).1 T ∧ (yearN T n A e).1 0 = A 0 ∧ (0 ≤ (yearN T n A e).2.1 ∧ (yearN T n A e).2.1 ≤ 40027) ∧ (1 ≤ n → (yearN T n A e).2.1 ≤ 30112) ∧ 0 ≤ (yearN T n A e).2.2 ∧ (yearN T n A e).2.2 ≤ n
  | 0, A, e, h, h1, he => ⟨h, rfl, he, fun q => by omega, Int.le_refl _, by show (0 : Int) ≤ ((0 : Nat) : Int); omega⟩
  | n + 1, A, e, h, h1, he => by
    obtain ⟨a1, a2, _⟩ := yRow_ok (e := e) h h1
    obtain ⟨c1, c2⟩ := yWet_ok a1 (yE A e)
    have r := anI_r (yE A e)
    have n1 := yN_01 A e
    obtain ⟨d1, d2, d3, d4, d5, d6⟩ := yearN_ok n (e := anI (yE A e)) c1 (by omega) (by omega)
    refine ⟨d1, d2.trans (c2.trans a2), d3, fun _ => ?_, ?_, ?_⟩
    · show (yearN T n _ _).2.1 ≤ 30112
      rcases Nat.eq_zero_or_pos n with q | q
      · subst q; exact r.2
      · exact d4 q
    · show 0 ≤ yN A e + _
      omega
    · show yN A e + _ ≤ _
      omega
theorem yearR_ok {A T : Int → Int} (h : VA A T) (sd n : Int) : VA (yearR A T sd n).1 T := by
  unfold yearR
  split
  · rename_i c
    have kv := keep_VA h
    have k0 := keep_bk h (k := 0) (by decide) (by decide)
    obtain ⟨d1, d2, d3, d4, d5, d6⟩ := yearN_ok (T := T) n.toNat (e := sd * 4 + 31) kv (by omega) (by omega)
    exact set1_VA d1 (Or.inr ⟨rfl, d3.1, d4 (by omega)⟩)
  · exact h
theorem okSt_4 {A : Int → Int} {v : Int} (hS : okSt A) : okSt (set1 A 4 v) := by
  intro i a b
  rw [set1_ne (by decide)] at b ⊢
  have q := hS i a b
  have es : ∀ i k, 0 ≤ i → 0 ≤ k → stp (set1 A 4 v) i k = stp A i k := fun i k a b => set1_ne (by omega)
  rw [es i 0 a (by decide), es i 1 a (by decide), es i 2 a (by decide), es i 3 a (by decide), es i 4 a (by decide), es (i + 1) 4 (by omega) (by decide), set1_ne (by decide)]
  exact ⟨okV_congr q.1 (fun k k0 _ => es i k a k0), q.2⟩
/-- another drawn element, whatever the old one -/
theorem lb_re4 {s s1 : Nat → Int → Int} {A T : Int → Int} {v e : Int} (h : LB 0 s (set1 A 4 e) T) (hK : KA A T) (hc : ∀ e, 1 ≤ e → e < 289 → e ≠ 2 → s1 e = s e) (h4 : s1 2 4 = s 2 4) (h5 : s1 2 5 = s 2 5) (h6 : s1 2 6 = s 2 6) (h7 : s1 2 7 = v) : LB 0 s1 (set1 A 4 v) T := by
  have n4 : ∀ {k : Int} {w : Int}, k ≠ 4 → set1 A 4 w k = A k := fun q => set1_ne q
  have cc : ∀ {k : Int}, k ≠ 4 → set1 A 4 v k = set1 A 4 e k := fun q => (n4 q).trans (n4 q).symm
  refine h.upd (okSt_4 hK.2.2.2) (by rw [n4 (by decide)]; exact hK.1.1) (by rw [n4 (by decide)]; exact hK.1.2.2.2.1) (by rw [n4 (by decide)]; exact hK.2.2.1.2.2.1.2) (by rw [n4 (by decide)]; exact hK.2.2.1.2.2.2.1.2) (fun e a b c => hc e a b (by omega)) (fun k hk => cc (by omega)) (fun b w a _ c d => cc (by omega)) (fun i _ _ k _ _ => by rw [set1_lg (by omega), set1_lg (by omega)]) (sc_mk ?_ ?_ ?_ ?_ ?_ ?_ ?_ ?_ ?_)
  · rw [h4, cc (by omega)]; exact lb_wc h
  · rw [h5, cc (by omega)]; exact lb_wet h
  · rw [h6, cc (by omega)]; exact lb_night h
  · rw [h7]; exact (if_pos rfl).symm
  · intro x a b; rw [n4 (by omega)]; exact (hK.2.1.2.1 x a b).2
  · intro x a b; rw [hc 7 (by omega) (by omega) (by omega), cc (by omega)]; exact lb_many h a b
  · intro x p a b c d
    rw [cc (by omega)] at d
    have := hK.2.1.2.1 x a b
    have e2 : set1 A 4 e (13 + x) = A (13 + x) := n4 (by omega)
    rw [hc _ (by omega) (by omega) (by omega), cc (by omega)]; exact lb_row h a b c d (by omega)
  · intro b a c; rw [hc 8 (by omega) (by omega) (by omega), cc (by omega), cc (by omega)]; exact lb_where0 h a c
  · intro i a c
    rw [cc (by omega)] at c
    rw [hc 9 (by omega) (by omega) (by omega), set1_lg (by omega), cc (by omega)]
    have := lb_log h a c
    rw [set1_lg (by omega)] at this
    exact this
