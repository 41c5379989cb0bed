/-! A NIGHT, as rows. -/
/-- judged alike -/
def je (A A' : Int → Int) : Prop := A' 0 = A 0 ∧ A' 2 = A 2 ∧ A' 3 = A 3 ∧ A' 6 = A 6 ∧ ∀ b w, 0 ≤ b → b < 10 → 0 ≤ w → w < 5 → A' (46 + 6 * b + w) = A (46 + 6 * b + w)
theorem nmA_je {A A' : Int → Int} (h : je A A') {b : Int} (hb : 0 ≤ b) (hb1 : b < 10) {f f' : Int → Int} (hf : ∀ j, 6 ≤ j → f' j = f j) : ∀ j, 0 ≤ j → nmA A' b f' j = nmA A b f j := by
  intro j hj
  unfold nmA
  split
  · rfl
  · split
    · exact h.2.2.2.2 b _ hb hb1 (by omega) (by omega)
    · split
      · exact h.2.1
      · exact hf j (by omega)
theorem push_je {A A' T : Int → Int} (h : je A A') (hV : VJ A T) {la b o right : Int} (hb : 0 ≤ b) (hb1 : b < 10) (ho : 0 ≤ o) (ho1 : o < 10) : pushP A' T la b o right = pushP A T la b o right := by
  unfold pushP
  rw [clP_mv h.2.2.2.1, h.2.2.2.1]
  by_cases q : clP A T 0 la < 0
  · rw [if_pos q, if_pos q]
  · rw [if_neg q, if_neg q]
    refine congrArg (fun q : (Int → Int) × (Int → Int) => q.2 0) (vmT_congr (clP_ok hV (so := 0) (by decide) (by decide) (by omega)) (fun v h0 h1 _ => nmA_je h hb hb1 (fun j hj => ?_) v h0))
    by_cases a1 : j = 6
    · rw [if_pos a1, if_pos a1]
    · rw [if_neg a1, if_neg a1]
      by_cases a2 : j = 7
      · rw [if_pos a2, if_pos a2]
      · rw [if_neg a2, if_neg a2]
        by_cases a3 : j < 12
        · rw [if_pos a3, if_pos a3]
          exact h.2.2.2.2 o _ ho ho1 (by omega) (by omega)
        · rw [if_neg a3, if_neg a3]
theorem need_je {A A' T : Int → Int} (h : je A A') : needP A' T = needP A T := by
  unfold needP
  rw [clP_mv h.2.2.2.1, h.2.2.2.1, h.2.2.1]
theorem je.tr {A B C : Int → Int} (h : je A B) (g : je B C) : je A C := ⟨g.1.trans h.1, g.2.1.trans h.2.1, g.2.2.1.trans h.2.2.1, g.2.2.2.1.trans h.2.2.2.1, fun b w a c d e => (g.2.2.2.2 b w a c d e).trans (h.2.2.2.2 b w a c d e)⟩
theorem chg_je {A A' T : Int → Int} (h : je A A') (hV : VJ A T) {x y : Int} (hx : 0 ≤ x) (hx1 : x < 10) (hy : 0 ≤ y) (hy1 : y < 10) : chgI A' T x y = chgI A T x y := by
  unfold chgI
  rw [need_je h, h.2.2.2.2 x 4 hx hx1 (by decide) (by decide), h.2.2.2.2 y 4 hy hy1 (by decide) (by decide), push_je h hV hx hx1 hy hy1, push_je h hV hy hy1 hx hx1]
/-- slots that changes of twos leave -/
def nv (A A' : Int → Int) : Prop := ∀ k, ((k < 16 ∧ k ≠ 9) ∨ (46 ≤ k ∧ k < 1594)) → A' k = A k
theorem nv.rf (A : Int → Int) : nv A A := fun _ _ => rfl
theorem nv.tr {A B C : Int → Int} (h : nv A B) (g : nv B C) : nv A C := fun k a => (g k a).trans (h k a)
theorem nv.je {A A' : Int → Int} (h : nv A A') : je A A' := ⟨h 0 (by omega), h 2 (by omega), h 3 (by omega), h 6 (by omega), fun b w _ _ _ _ => h _ (by omega)⟩
theorem nv_wr {A : Int → Int} {b y x : Int} : nv A (wrF A b y x) := fun k a => wr_ne (by omega)
theorem nv_ex {A : Int → Int} {x p : Int} (hx0 : 0 ≤ x) (hx1 : x < 3) (hp0 : 0 ≤ p) (hp1 : p < 9) : nv A (exF A x p) := fun k a => ex_else hx0 hx1 hp0 hp1 (by omega)
/-- written down, if it pushed -/
def wq (A : Int → Int) (b o x v : Int) : Int → Int := if v = 1 then wrF A b o x else A
def p1q (A T : Int → Int) (x p : Int) : Int := pushP A T (A (46 + 6 * A (16 + 10 * x + p) + 4)) (A (16 + 10 * x + p)) (A (16 + 10 * x + (p + 1))) 1
def p2q (A T : Int → Int) (x p : Int) : Int := pushP A T (A (46 + 6 * A (16 + 10 * x + (p + 1)) + 4)) (A (16 + 10 * x + (p + 1))) (A (16 + 10 * x + p)) 0
def cgq (A T : Int → Int) (x p : Int) : Int := chgI A T (A (16 + 10 * x + p)) (A (16 + 10 * x + (p + 1)))
/-- the two at p change, if they do -/
def chF (A T : Int → Int) (x p : Int) : Int → Int := if cgq A T x p = 1 then exF (wq (wq A (A (16 + 10 * x + p)) (A (16 + 10 * x + (p + 1))) x (p1q A T x p)) (A (16 + 10 * x + (p + 1))) (A (16 + 10 * x + p)) x (p2q A T x p)) x p else A
theorem nv_wq {A : Int → Int} {b y x v : Int} : nv A (wq A b y x v) := by
  unfold wq
  split
  · exact nv_wr
  · exact nv.rf A
theorem wq_pl {A : Int → Int} {b y x v k : Int} (h : k < 1594) (h9 : k ≠ 9) : wq A b y x v k = A k := by
  unfold wq
  split
  · exact wr_ne ⟨h, h9⟩
  · rfl
theorem wq_KA {A T : Int → Int} {b y x v : Int} (h : KA A T) : KA (wq A b y x v) T := by
  unfold wq
  split
  · exact wr_KA h
  · exact h
theorem wq_gap {A T : Int → Int} {b y x v g : Int} (hK : KA A T) (h : gapS A g) : gapS (wq A b y x v) (g + 1) := by
  unfold wq
  split
  · exact wr_gap hK h
  · intro q
    have := h q
    omega
theorem wq_9 {A : Int → Int} {b y x v : Int} : A 9 ≤ wq A b y x v 9 ∧ wq A b y x v 9 ≤ A 9 + 1 := by
  unfold wq
  split
  · rw [wr_9]; omega
  · omega
theorem chF_ok {A T : Int → Int} {x p g : Int} (hK : KA A T) (hx0 : 0 ≤ x) (hx1 : x < 3) (hp0 : 0 ≤ p) (hp1 : p + 1 < A (13 + x)) (hg : gapS A g) : KA (chF A T x p) T ∧ nv A (chF A T x p) ∧ gapS (chF A T x p) (g + 2) ∧ A 9 ≤ chF A T x p 9 ∧ chF A T x p 9 ≤ A 9 + 2 := by
  have gm := hK.2.1.2.1 x hx0 hx1
  unfold chF
  split
  · obtain ⟨B, hB⟩ : ∃ B, B = wq (wq A (A (16 + 10 * x + p)) (A (16 + 10 * x + (p + 1))) x (p1q A T x p)) (A (16 + 10 * x + (p + 1))) (A (16 + 10 * x + p)) x (p2q A T x p) := ⟨_, rfl⟩
    rw [← hB]
    have kB : KA B T := by rw [hB]; exact wq_KA (wq_KA hK)
    have nB : nv A B := by rw [hB]; exact nv_wq.tr nv_wq
    have gB : gapS B (g + 1 + 1) := by rw [hB]; exact wq_gap (wq_KA hK) (wq_gap hK hg)
    have b9 : A 9 ≤ B 9 ∧ B 9 ≤ A 9 + 2 := by
      rw [hB]
      have q1 := wq_9 (A := A) (b := A (16 + 10 * x + p)) (y := A (16 + 10 * x + (p + 1))) (x := x) (v := p1q A T x p)
      have q2 := wq_9 (A := wq A (A (16 + 10 * x + p)) (A (16 + 10 * x + (p + 1))) x (p1q A T x p)) (b := A (16 + 10 * x + (p + 1))) (y := A (16 + 10 * x + p)) (x := x) (v := p2q A T x p)
      omega
    have hm : B (13 + x) = A (13 + x) := nB _ (by omega)
    have me := mv_ex (A := B) hx0 hx1 hp0 (by omega : p < 9)
    have e9 : exF B x p 9 = B 9 := me.lo (by decide)
    refine ⟨me.KA kB (ex_ok kB.2.1 hx0 hx1 hp0 (by omega)), nB.tr (nv_ex hx0 hx1 hp0 (by omega)), ?_, by omega, by omega⟩
    have := me.gap gB
    rwa [show g + 1 + 1 = g + 2 by omega] at this
  · refine ⟨hK, nv.rf A, fun q => ?_, Int.le_refl _, by omega⟩
    have := hg q
    omega
/-- k twos of shelf x, from place q on -/
def chS (A T : Int → Int) (x q : Int) : Nat → (Int → Int) × Int
  | 0 => (A, 0)
  | k + 1 => (chF (chS A T x q k).1 T x (q + 2 * k), (chS A T x q k).2 + cgq (chS A T x q k).1 T x (q + 2 * k))
theorem chS_ok {A T : Int → Int} {x q g : Int} (hK : KA A T) (hx0 : 0 ≤ x) (hx1 : x < 3) (hq0 : 0 ≤ q) (hg : gapS A g) : ∀ k : Nat, (0 < k → q + 2 * k ≤ A (13 + x)) → KA (chS A T x q k).1 T ∧ nv A (chS A T x q k).1 ∧ gapS (chS A T x q k).1 (g + 2 * k) ∧ A 9 ≤ (chS A T x q k).1 9 ∧ (chS A T x q k).1 9 ≤ A 9 + 2 * k ∧ 0 ≤ (chS A T x q k).2 ∧ (chS A T x q k).2 ≤ k
  | 0, _ => by
    refine ⟨hK, nv.rf A, ?_, Int.le_refl _, ?_, Int.le_refl _, Int.le_refl _⟩
    · show gapS A (g + 2 * ((0 : Nat) : Int))
      rw [show g + 2 * ((0 : Nat) : Int) = g by omega]
      exact hg
    · show A 9 ≤ A 9 + 2 * ((0 : Nat) : Int)
      omega
  | k + 1, hk => by
    have hk1 := hk (by omega)
    obtain ⟨a, b, c, d, e, f, i⟩ := chS_ok hK hx0 hx1 hq0 hg k (fun _ => by omega)
    obtain ⟨a2, b2, c2, d2, e2⟩ := chF_ok a hx0 hx1 (p := q + 2 * k) (by omega) (by rw [b _ (by omega)]; omega) c
    have cg := chgI_01 (chS A T x q k).1 T ((chS A T x q k).1 (16 + 10 * x + (q + 2 * k))) ((chS A T x q k).1 (16 + 10 * x + (q + 2 * k + 1)))
    refine ⟨a2, b.tr b2, ?_, ?_, ?_, ?_, ?_⟩
    · have := c2
      rwa [show g + 2 * (k : Int) + 2 = g + 2 * ((k + 1 : Nat) : Int) by omega] at this
    · show A 9 ≤ chF (chS A T x q k).1 T x (q + 2 * k) 9
      omega
    · show chF (chS A T x q k).1 T x (q + 2 * k) 9 ≤ _
      omega
    · show 0 ≤ (chS A T x q k).2 + chgI _ _ _ _
      omega
    · show (chS A T x q k).2 + chgI _ _ _ _ ≤ _
      omega
/-- how many twos -/
def kx (A : Int → Int) (x q : Int) : Nat := ((A (13 + x) - q) / 2).toNat
/-- the first n shelves -/
def chA (A T : Int → Int) (q : Int) : Nat → (Int → Int) × Int
  | 0 => (A, 0)
  | n + 1 => ((chS (chA A T q n).1 T n q (kx (chA A T q n).1 n q)).1, (chA A T q n).2 + (chS (chA A T q n).1 T n q (kx (chA A T q n).1 n q)).2)
/-- books on the first n shelves -/
def mns (A : Int → Int) : Nat → Int
  | 0 => 0
  | n + 1 => mns A n + A (13 + n)
theorem mns_nv {A B : Int → Int} (h : nv A B) : ∀ n : Nat, n ≤ 3 → mns B n = mns A n
  | 0, _ => rfl
  | n + 1, hn => by
    unfold mns
    rw [mns_nv h n (by omega), h _ (by omega)]
theorem mns_le {A : Int → Int} (hB : okB A) : ∀ n : Nat, n ≤ 3 → 0 ≤ mns A n ∧ mns A n ≤ 10
  | 0, _ => by unfold mns; omega
  | 1, _ => by
    have := hB.2.1 0 (by decide) (by decide)
    show 0 ≤ 0 + A (13 + ((0 : Nat) : Int)) ∧ 0 + A (13 + ((0 : Nat) : Int)) ≤ 10
    rw [show (13 : Int) + ((0 : Nat) : Int) = 13 + 0 from rfl]
    omega
  | 2, _ => by
    have s := okB_sum hB
    have a0 := hB.2.1 0 (by decide) (by decide)
    have a1 := hB.2.1 1 (by decide) (by decide)
    have a2 := hB.2.1 2 (by decide) (by decide)
    have g0 := hB.1
    show 0 ≤ 0 + A (13 + 0) + A (13 + 1) ∧ 0 + A (13 + 0) + A (13 + 1) ≤ 10
    have e0 : A (13 + 0) = A 13 := rfl
    have e1 : A (13 + 1) = A 14 := rfl
    have e2 : A (13 + 2) = A 15 := rfl
    omega
  | 3, _ => by
    have s := okB_sum hB
    have a0 := hB.2.1 0 (by decide) (by decide)
    have a1 := hB.2.1 1 (by decide) (by decide)
    have a2 := hB.2.1 2 (by decide) (by decide)
    have g0 := hB.1
    show 0 ≤ 0 + A (13 + 0) + A (13 + 1) + A (13 + 2) ∧ 0 + A (13 + 0) + A (13 + 1) + A (13 + 2) ≤ 10
    have e0 : A (13 + 0) = A 13 := rfl
    have e1 : A (13 + 1) = A 14 := rfl
    have e2 : A (13 + 2) = A 15 := rfl
    omega
  | n + 4, h => by omega
theorem chA_ok {A T : Int → Int} {q : Int} (hK : KA A T) (hq0 : 0 ≤ q) (hg : gapS A 0) : ∀ n : Nat, n ≤ 3 → KA (chA A T q n).1 T ∧ nv A (chA A T q n).1 ∧ gapS (chA A T q n).1 (mns A n) ∧ A 9 ≤ (chA A T q n).1 9 ∧ (chA A T q n).1 9 ≤ A 9 + mns A n ∧ 0 ≤ (chA A T q n).2 ∧ (chA A T q n).2 ≤ 10 * n
  | 0, _ => by
    refine ⟨hK, nv.rf A, hg, Int.le_refl _, ?_, Int.le_refl _, ?_⟩
    · show A 9 ≤ A 9 + 0
      omega
    · show (0 : Int) ≤ 10 * ((0 : Nat) : Int)
      omega
  | n + 1, hn => by
    obtain ⟨a, b, c, d, e, f, i⟩ := chA_ok hK hq0 hg n (by omega)
    have gm := a.2.1.2.1 n (by omega) (by omega)
    have hmn : (chA A T q n).1 (13 + n) = A (13 + n) := b _ (by omega)
    have hk : (kx (chA A T q n).1 n q : Int) ≤ 5 ∧ (0 < kx (chA A T q n).1 n q → q + 2 * (kx (chA A T q n).1 n q : Int) ≤ (chA A T q n).1 (13 + n)) := by
      unfold kx
      omega
    have h2k : 2 * (kx (chA A T q n).1 n q : Int) ≤ A (13 + n) := by unfold kx; omega
    obtain ⟨a2, b2, c2, d2, e2, f2, i2⟩ := chS_ok a (by omega : (0 : Int) ≤ n) (by omega) hq0 c (kx (chA A T q n).1 n q) hk.2
    refine ⟨a2, b.tr b2, ?_, ?_, ?_, ?_, ?_⟩
    · show gapS (chS (chA A T q n).1 T n q (kx (chA A T q n).1 n q)).1 (mns A n + A (13 + n))
      intro z
      have := c2 z
      exact ⟨this.1, by have := this.2; omega⟩
    · show A 9 ≤ (chS _ _ _ _ _).1 9
      omega
    · show (chS _ _ _ _ _).1 9 ≤ A 9 + (mns A n + A (13 + n))
      omega
    · show 0 ≤ (chA A T q n).2 + (chS _ _ _ _ _).2
      omega
    · show (chA A T q n).2 + (chS _ _ _ _ _).2 ≤ _
      omega
/-- one NIGHT -/
def nightB (A T : Int → Int) : (Int → Int) × Int := chA (keepF A) T (A 1 % 2) 3
def nightF (A T : Int → Int) : Int → Int := (fallAll (set1 (nightB A T).1 1 (A 1 + 1)) T 3).1
theorem nightB_ok {A T : Int → Int} (h : VA A T) : KA (nightB A T).1 T ∧ nv (keepF A) (nightB A T).1 ∧ gapS (nightB A T).1 10 ∧ A 9 ≤ (nightB A T).1 9 ∧ (nightB A T).1 9 ≤ A 9 + 10 ∧ 0 ≤ (nightB A T).2 ∧ (nightB A T).2 ≤ 30 := by
  obtain ⟨k, g⟩ := keep_ok h
  have h7 := h.2.2.1.2.2.1
  obtain ⟨a, b, c, d, e, f, i⟩ := chA_ok (q := A 1 % 2) k (by omega) g 3 (by decide)
  have hm := mns_le k.2.1 3 (by decide)
  have k9 : keepF A 9 = A 9 := keep_lo h7 (by decide) (by decide)
  rw [k9] at d e
  refine ⟨a, b, fun z => ?_, d, by unfold nightB; omega, f, i⟩
  have := c z
  exact ⟨this.1, by have := this.2; unfold nightB; omega⟩
theorem night_ok {A T : Int → Int} (h : VA A T) (h1 : A 1 + 1 ≤ 9999) : VA (nightF A T) T ∧ nightF A T 1 = A 1 + 1 := by
  obtain ⟨a, b, c, d, e, f, i⟩ := nightB_ok h
  have hR := h.2.2.1.1
  have h9 := h.2.2.2.2.2
  have ks : KA (set1 (nightB A T).1 1 (A 1 + 1)) T := set1_KA a (Or.inl ⟨rfl, by omega, h1⟩)
  have gs : gapS (set1 (nightB A T).1 1 (A 1 + 1)) 10 := set1_gap (Or.inl rfl) c
  obtain ⟨m1, m2, m3, m4⟩ := fallAll_ok ks.1 ks.2.1 (fun x x0 x1 => by have := ks.2.2.1.2.2.2.2.1 x x0 x1; omega) 3 (by decide)
  have kf := m1.KA ks m2
  have e9 : nightF A T 9 = (nightB A T).1 9 := (m1.lo (by decide)).trans (set1_ne (by decide))
  have e1 : nightF A T 1 = A 1 + 1 := (m1.lo (by decide)).trans (if_pos rfl)
  exact ⟨⟨kf.1, kf.2.1, kf.2.2.1, kf.2.2.2, m1.gap gs, by rw [e9, e1]; omega⟩, e1⟩
def nightI (A T : Int → Int) : Nat → (Int → Int) × Int
  | 0 => (A, 0)
  | n + 1 => (nightF (nightI A T n).1 T, (nightI A T n).2 + (nightB (nightI A T n).1 T).2)
theorem nightI_ok {A T : Int → Int} (h : VA A T) : ∀ n : Nat, A 1 + n ≤ 9999 → VA (nightI A T n).1 T ∧ (nightI A T n).1 1 = A 1 + n ∧ 0 ≤ (nightI A T n).2 ∧ (nightI A T n).2 ≤ 30 * n
  | 0, _ => by
    refine ⟨h, ?_, Int.le_refl _, ?_⟩
    · show A 1 = A 1 + ((0 : Nat) : Int)
      omega
    · show (0 : Int) ≤ 30 * ((0 : Nat) : Int)
      omega
  | n + 1, hn => by
    obtain ⟨a, b, c, d⟩ := nightI_ok h n (by omega)
    obtain ⟨e, f⟩ := night_ok a (by omega)
    obtain ⟨_, _, _, _, _, i, j⟩ := nightB_ok a
    refine ⟨e, ?_, ?_, ?_⟩
    · show nightF (nightI A T n).1 T 1 = _
      omega
    · show 0 ≤ (nightI A T n).2 + (nightB (nightI A T n).1 T).2
      omega
    · show (nightI A T n).2 + (nightB (nightI A T n).1 T).2 ≤ _
      omega
/-- NIGHTS told: the row and the answer -/
def nightR (A T : Int → Int) (n : Int) : (Int → Int) × Int := if 1 ≤ n ∧ n ≤ 99 ∧ A 1 + n ≤ 9999 then nightI A T n.toNat else (A, -1)
theorem nightR_ok {A T : Int → Int} (h : VA A T) (n : Int) : VA (nightR A T n).1 T ∧ -1 ≤ (nightR A T n).2 ∧ (nightR A T n).2 ≤ 3000 := by
  unfold nightR
  split
  · obtain ⟨a, b, c, d⟩ := nightI_ok h n.toNat (by omega)
    exact ⟨a, by omega, by omega⟩
  · exact ⟨h, by show (-1 : Int) ≤ -1; omega, by show (-1 : Int) ≤ 3000; omega⟩
