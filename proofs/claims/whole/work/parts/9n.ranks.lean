/-! RANK: the mathematics. -/
def smN (h : Nat → Int) : Nat → Int
  | 0 => 0
  | n + 1 => smN h n + h n
theorem smN_nn {h : Nat → Int} : ∀ n : Nat, (∀ i, i < n → 0 ≤ h i) → 0 ≤ smN h n
  | 0, _ => Int.le_refl 0
  | n + 1, hh => by
    have := smN_nn n (fun i hi => hh i (by omega))
    have := hh n (by omega)
    rw [smN]
    omega
theorem smN_congr {h g : Nat → Int} : ∀ n : Nat, (∀ i, i < n → h i = g i) → smN h n = smN g n
  | 0, _ => rfl
  | n + 1, hh => by rw [smN, smN, smN_congr n (fun i hi => hh i (by omega)), hh n (by omega)]
theorem smN_sub {h g : Nat → Int} : ∀ n : Nat, smN (fun i => h i - g i) n = smN h n - smN g n
  | 0 => rfl
  | n + 1 => by rw [smN, smN, smN, smN_sub n]; omega
theorem smN_one : ∀ n : Nat, smN (fun _ => 1) n = n
  | 0 => rfl
  | n + 1 => by rw [smN, smN_one n]; omega
/-- one taken out of a sum -/
theorem smN_skip {h : Nat → Int} {q : Nat} : ∀ n : Nat, q < n → smN h n = h q + smN (fun i => if i < q then h i else h (i + 1)) (n - 1)
  | 0, hq => absurd hq (by omega)
  | n + 1, hq => by
    rw [smN]
    by_cases e : q = n
    · subst e
      rw [show q + 1 - 1 = q by omega, smN_congr (g := h) q (fun i hi => if_pos hi)]
      omega
    · rw [smN_skip (q := q) n (by omega), show n + 1 - 1 = (n - 1) + 1 by omega, smN, if_neg (by omega), show n - 1 + 1 = n by omega]
      omega
theorem sum_inj : ∀ (M N : Nat) (g : Nat → Int) (f : Nat → Nat), (∀ j, j < M → 0 ≤ g j) → (∀ i, i < N → f i < M) → (∀ i j, i < j → j < N → f i ≠ f j) → smN (fun i => g (f i)) N ≤ smN g M
  | 0, N, g, f, _, h, _ => by
    rcases Nat.eq_zero_or_pos N with z | z
    · subst z; exact Int.le_refl 0
    · exact absurd (h 0 z) (by omega)
  | M + 1, N, g, f, hg, h, hd => by
    rw [smN]
    rcases Classical.em (∃ q, q < N ∧ f q = M) with q | q
    · obtain ⟨q, hq, e⟩ := q
      have ih := sum_inj M (N - 1) g (fun i => if i < q then f i else f (i + 1)) (fun j hj => hg j (by omega)) (fun i hi => by
        split
        · rename_i z
          have a := h i (by omega)
          have b := hd i q z hq
          omega
        · rename_i z
          have a := h (i + 1) (by omega)
          have b := hd q (i + 1) (by omega) (by omega)
          omega) (fun i j hij hj => by
        split <;> split
        · exact hd i j hij (by omega)
        · exact hd i (j + 1) (by omega) (by omega)
        · omega
        · exact hd (i + 1) (j + 1) (by omega) (by omega))
      rw [smN_skip N hq, e]
      have e2 : smN (fun i => if i < q then g (f i) else g (f (i + 1))) (N - 1) = smN (fun i => g (if i < q then f i else f (i + 1))) (N - 1) := smN_congr _ (fun i _ => by split <;> rfl)
      rw [e2]
      omega
    · have ih := sum_inj M N g f (fun j hj => hg j (by omega)) (fun i hi => by
        have a := h i hi
        have b : f i ≠ M := fun e => q ⟨i, hi, e⟩
        omega) hd
      have := hg M (by omega)
      omega
/-- a sum over all, in another order -/
theorem sum_bij {N : Nat} {g : Nat → Int} {f : Nat → Nat} (hg : ∀ j, j < N → 0 ≤ g j ∧ g j ≤ 1) (h : ∀ i, i < N → f i < N) (hd : ∀ i j, i < j → j < N → f i ≠ f j) : smN (fun i => g (f i)) N = smN g N := by
  have a := sum_inj N N g f (fun j hj => (hg j hj).1) h hd
  have b : smN (fun i => 1 - g (f i)) N ≤ smN (fun j => 1 - g j) N := sum_inj N N (fun j => 1 - g j) f (fun j hj => by have := hg j hj; omega) h hd
  rw [smN_sub (h := fun _ => 1) (g := fun i => g (f i)), smN_sub (h := fun _ => 1) (g := g), smN_one] at b
  omega
theorem smN_tail {h : Nat → Int} {p : Nat} : ∀ n : Nat, p ≤ n → (∀ i, i < n → 0 ≤ h i) → smN h p ≤ smN h n ∧ (smN h n = smN h p → ∀ i, p ≤ i → i < n → h i = 0)
  | 0, hp, _ => by
    rw [show p = 0 by omega]
    exact ⟨Int.le_refl _, fun _ i _ hi => absurd hi (by omega)⟩
  | n + 1, hp, hh => by
    by_cases e : p = n + 1
    · rw [e]
      exact ⟨Int.le_refl _, fun _ i a b => absurd b (by omega)⟩
    · have ih := smN_tail (p := p) n (by omega) (fun i hi => hh i (by omega))
      have := hh n (by omega)
      rw [smN]
      refine ⟨by omega, fun q i a b => ?_⟩
      by_cases z : i = n
      · subst z; omega
      · exact ih.2 (by omega) i a (by omega)
/-- whom e would have ahead of it, of the first k; none, if with one it's the same both ways -/
def cA (c : Int → Int → Int) (e : Int) : Nat → Int
  | 0 => 0
  | k + 1 => if cA c e k = -1 then -1 else if e = k then cA c e k else if c e k = c k e then -1 else cA c e k + c e k
def hN (c : Int → Int → Int) (e : Int) : Nat → Int := fun j => if e = j then 0 else c e j
theorem cA_ok {c : Int → Int → Int} {e : Int} (h01 : ∀ x y, c x y = 0 ∨ c x y = 1) : ∀ k : Nat, (∀ j : Nat, j < k → e ≠ j → c e j ≠ c j e) → cA c e k = smN (hN c e) k ∧ 0 ≤ cA c e k ∧ cA c e k ≤ k
  | 0, _ => ⟨rfl, Int.le_refl 0, Int.le_refl 0⟩
  | k + 1, h => by
    obtain ⟨i1, i2, i3⟩ := cA_ok (c := c) (e := e) h01 k (fun j hj => h j (by omega))
    rw [cA, smN, if_neg (by omega)]
    unfold hN
    have := h01 e k
    by_cases q : e = k
    · rw [if_pos q, if_pos q]
      exact ⟨by unfold hN at i1; omega, i2, by omega⟩
    · rw [if_neg q, if_neg q, if_neg (h k (by omega) q)]
      exact ⟨by unfold hN at i1; omega, by omega, by omega⟩
theorem cA_bad {c : Int → Int → Int} {e : Int} : ∀ k : Nat, (∃ j : Nat, j < k ∧ e ≠ j ∧ c e j = c j e) → cA c e k = -1
  | 0, ⟨_, h, _⟩ => absurd h (by omega)
  | k + 1, ⟨j, hj, h1, h2⟩ => by
    rw [cA]
    rcases (by omega : j < k ∨ j = k) with z | z
    · rw [if_pos (cA_bad k ⟨j, z, h1, h2⟩)]
    · subst z
      rw [if_neg h1, if_pos h2]
      split <;> rfl
theorem cA_r {c : Int → Int → Int} (h01 : ∀ x y, c x y = 0 ∨ c x y = 1) (e : Int) (k : Nat) : (cA c e k = -1 ∧ ∃ j : Nat, j < k ∧ e ≠ j ∧ c e j = c j e) ∨ ((∀ j : Nat, j < k → e ≠ j → c e j ≠ c j e) ∧ cA c e k = smN (hN c e) k ∧ 0 ≤ cA c e k ∧ cA c e k ≤ k) := by
  rcases Classical.em (∃ j : Nat, j < k ∧ e ≠ j ∧ c e j = c j e) with q | q
  · exact Or.inl ⟨cA_bad k q, q⟩
  · have h : ∀ j : Nat, j < k → e ≠ j → c e j ≠ c j e := fun j hj a b => q ⟨j, hj, a, b⟩
    exact Or.inr ⟨h, cA_ok h01 k h⟩
/-- an order is a rank -/
def isRk (c : Int → Int → Int) (m : Nat) (f : Int → Int) : Prop := ∀ p q, 0 ≤ p → p < q → q < (m : Int) → c (f p) (f q) = 0 ∧ c (f q) (f p) = 1
theorem isRk_sc {c : Int → Int → Int} (h01 : ∀ x y, c x y = 0 ∨ c x y = 1) {m : Nat} {f : Int → Int} (hr : ∀ p, 0 ≤ p → p < (m : Int) → 0 ≤ f p ∧ f p < m) (hi : injF f m) (h : isRk c m f) {p : Int} (p0 : 0 ≤ p) (p1 : p < m) : cA c (f p) m = p := by
  have sj : ∀ j : Nat, j < m → ∃ q : Nat, q < m ∧ f q = j := fun j hj => surj_inj (n := m) (f := fun i => f i) (fun i hi => hr i (by omega) (by omega)) (fun a b hab hb => hi a b (by omega) (by omega) (by omega)) hj
  rcases cA_r h01 (f p) m with ⟨_, j, hj, h1, h2⟩ | ⟨_, g2, _, _⟩
  · exfalso
    obtain ⟨q, hq, e⟩ := sj j hj
    rw [← e] at h1 h2
    rcases Int.lt_trichotomy p q with z | z | z
    · have := h p q p0 z (by omega); omega
    · rw [z] at h1; exact h1 rfl
    · have := h q p (by omega) z p1; omega
  · rw [g2]
    have hb := sum_bij (N := m) (g := hN c (f p)) (f := fun i => (f i).toNat) (fun j _ => by
      unfold hN
      have := h01 (f p) j
      split <;> omega) (fun i hi => by have := hr i (by omega) (by omega); omega) (fun a b hab hb => by
      have x := hr a (by omega) (by omega)
      have y := hr b (by omega) (by omega)
      have := hi a b (by omega) (by omega) (by omega)
      omega)
    rw [← hb]
    have e1 : ∀ i : Nat, i < m → hN c (f p) (f i).toNat = if (i : Int) < p then 1 else 0 := by
      intro i hi9
      have x := hr i (by omega) (by omega)
      unfold hN
      rw [show (((f i).toNat : Nat) : Int) = f i by omega]
      rcases Int.lt_trichotomy (i : Int) p with z | z | z
      · have y := hi i p (by omega) z p1
        rw [if_neg (fun q => y q.symm), if_pos z]
        exact (h i p (by omega) z p1).2
      · rw [if_pos (by rw [z]), if_neg (by omega)]
      · have y := hi p i p0 z (by omega)
        rw [if_neg y, if_neg (by omega)]
        exact (h p i p0 z (by omega)).1
    rw [smN_congr m e1]
    have e2 : ∀ n : Nat, smN (fun i => if (i : Int) < p then 1 else 0) n = if (n : Int) ≤ p then (n : Int) else p := by
      intro n
      induction n with
      | zero => rw [if_pos (by omega)]; rfl
      | succ n ih =>
        rw [smN, ih]
        (repeat' split) <;> omega
    rw [e2]
    split <;> omega
/-- numbers all different: they make a rank -/
theorem sc_isRk {c : Int → Int → Int} (h01 : ∀ x y, c x y = 0 ∨ c x y = 1) {m : Nat} (h0 : ∀ e : Nat, e < m → 0 ≤ cA c e m ∧ cA c e m < m) (hd : ∀ a b : Nat, a < b → b < m → cA c a m ≠ cA c b m) : ∃ f : Int → Int, (∀ p, 0 ≤ p → p < (m : Int) → (0 ≤ f p ∧ f p < m) ∧ cA c (f p) m = p) ∧ injF f m ∧ isRk c m f := by
  have sj : ∀ p : Nat, ∃ e : Nat, p < m → e < m ∧ cA c e m = p := by
    intro p
    rcases Nat.lt_or_ge p m with z | z
    · obtain ⟨e, a, b⟩ := surj_inj (n := m) (f := fun e => cA c e m) (fun e he => h0 e he) hd z
      exact ⟨e, fun _ => ⟨a, b⟩⟩
    · exact ⟨0, fun q => absurd q (by omega)⟩
  obtain ⟨w, hw⟩ := Classical.skolem.mp sj
  refine ⟨fun p => ((w p.toNat : Nat) : Int), fun p p0 p1 => ?_, fun p q p0 pq q1 e => ?_, ?_⟩
  · have := hw p.toNat (by omega)
    show (0 ≤ ((w p.toNat : Nat) : Int) ∧ ((w p.toNat : Nat) : Int) < m) ∧ cA c ((w p.toNat : Nat) : Int) m = p
    rw [this.2]
    omega
  · have a := (hw p.toNat (by omega)).2
    have b := (hw q.toNat (by omega)).2
    have e : ((w p.toNat : Nat) : Int) = ((w q.toNat : Nat) : Int) := e
    rw [e, b] at a
    omega
  · have key : ∀ p : Nat, p < m → ∀ q : Nat, p < q → q < m → c (w p) (w q) = 0 ∧ c (w q) (w p) = 1 := by
      intro p
      induction p using Nat.strongRecOn with
      | ind p ih =>
        intro hp q hpq hq
        have gp := hw p hp
        rcases cA_r h01 (w p) m with ⟨z, _⟩ | ⟨g1, g2, _, _⟩
        · omega
        · have hb := sum_bij (N := m) (g := hN c (w p)) (f := w) (fun j _ => by
            unfold hN
            have := h01 (w p) j
            split <;> omega) (fun i hi => (hw i hi).1) (fun a b hab hb e => by
            have x := (hw a (by omega)).2
            have y := (hw b hb).2
            rw [e, y] at x
            omega)
          have hs : smN (fun i => hN c (w p) (w i)) m = p := by rw [hb, ← g2, gp.2]
          have hlo : ∀ i, i < p → hN c (w p) (w i) = 1 := by
            intro i hi
            have g := (ih i hi (by omega) p hi hp).2
            unfold hN
            rw [if_neg (fun e => by
              have e : ((w p : Nat) : Int) = ((w i : Nat) : Int) := e
              have x := (hw p hp).2
              have y := (hw i (by omega)).2
              rw [e, y] at x
              omega)]
            exact g
          have hlp : smN (fun i => hN c (w p) (w i)) p = p := by
            rw [smN_congr p hlo, smN_one]
          have ht := (smN_tail (h := fun i => hN c (w p) (w i)) (p := p) m (by omega) (fun i _ => by
            show 0 ≤ hN c (w p) (w i)
            unfold hN
            have := h01 (w p) (w i)
            split <;> omega)).2 (by rw [hs, hlp]) q (by omega) hq
          have ht : hN c (w p) (w q) = 0 := ht
          have hne : ((w p : Nat) : Int) ≠ ((w q : Nat) : Int) := fun e => by
            have x := gp.2
            have y := (hw q hq).2
            rw [e, y] at x
            omega
          unfold hN at ht
          rw [if_neg hne] at ht
          have x := g1 (w q) (hw q hq).1 hne
          have y := h01 (w q) (w p)
          rw [ht] at x
          exact ⟨ht, by omega⟩
    intro p q p0 pq q1
    exact key p.toNat (by omega) q.toNat (by omega) (by omega)
/-- RANK: the book at a place -/
def isRV (c : Int → Int → Int) (S : Int) (m : Nat) (pl v : Int) : Prop := ∃ n : Int, (0 ≤ n ∧ n < fct m) ∧ isRk (cE c S) m (dgI m n) ∧ v = elF S (dgI m n pl)
noncomputable def rnkA (c : Int → Int → Int) (S : Int) (m : Nat) (pl : Int) : Int := @ite Int (∃ v, isRV c S m pl v) (Classical.propDecidable _) (Classical.epsilon fun v => isRV c S m pl v) (-1)
theorem isRV_u {c : Int → Int → Int} (h01 : ∀ x y, c x y = 0 ∨ c x y = 1) {S : Int} {m : Nat} (hm : m < 7) {pl v v' : Int} (p0 : 0 ≤ pl) (p1 : pl < m) (h : isRV c S m pl v) (h' : isRV c S m pl v') : v = v' := by
  obtain ⟨n, ⟨a0, a1⟩, a2, rfl⟩ := h
  obtain ⟨n', ⟨b0, b1⟩, b2, rfl⟩ := h'
  have da := dg_ok hm a0 a1
  have db := dg_ok hm b0 b1
  have s1 := isRk_sc (cE_01 h01 S) da.1 da.2.1 a2 p0 p1
  have sj : ∃ q : Nat, q < m ∧ dgI m n' q = dgI m n pl := by
    have g := da.1 pl p0 p1
    obtain ⟨q, hq, e⟩ := surj_inj (n := m) (f := fun i => dgI m n' i) (fun i hi => db.1 i (by omega) (by omega)) (fun x y hxy hy => db.2.1 x y (by omega) (by omega) (by omega)) (k := (dgI m n pl).toNat) (by omega)
    exact ⟨q, hq, by rw [e]; omega⟩
  obtain ⟨q, hq, e⟩ := sj
  have s2 := isRk_sc (cE_01 h01 S) db.1 db.2.1 b2 (p := (q : Int)) (by omega) (by omega)
  rw [e, s1] at s2
  rw [← e, s2]
theorem rnkA_of {c : Int → Int → Int} (h01 : ∀ x y, c x y = 0 ∨ c x y = 1) {S : Int} {m : Nat} (hm : m < 7) {pl v : Int} (p0 : 0 ≤ pl) (p1 : pl < m) (h : isRV c S m pl v) : rnkA c S m pl = v := by
  have hx : ∃ v, isRV c S m pl v := ⟨v, h⟩
  have hs : isRV c S m pl (Classical.epsilon fun v => isRV c S m pl v) := Classical.epsilon_spec hx
  unfold rnkA
  rw [@if_pos _ (Classical.propDecidable _) hx]
  exact isRV_u h01 hm p0 p1 hs h
theorem rnkA_no {c : Int → Int → Int} {S : Int} {m : Nat} {pl : Int} (h : ∀ n, 0 ≤ n → n < ((fct m : Nat) : Int) → ¬ isRk (cE c S) m (dgI m n)) : rnkA c S m pl = -1 := by
  unfold rnkA
  rw [@if_neg _ (Classical.propDecidable _) (fun ⟨v, n, a, b, _⟩ => h n a.1 a.2 b)]
noncomputable def rankP (A T : Int → Int) (S pl : Int) : Int := if ((0 < S ∧ S < 2 ^ (A 0).toNat) ∧ popI S ≤ 6) ∧ 0 ≤ pl ∧ pl < popI S then rnkA (cF A T) S (mS S) pl else -1
