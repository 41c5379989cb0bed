/-! ROUND: the mathematics. -/
def isR (E : Nat → Nat → Prop) (m n d : Nat) : Prop := 1 ≤ d ∧ n + d ≤ m ∧ E n (n + d) ∧ (∀ a e, a < n → 1 ≤ e → a + e ≤ m → ¬ E a (a + e)) ∧ ∀ e, 1 ≤ e → e < d → ¬ E n (n + e)
theorem isR_uniq {E : Nat → Nat → Prop} {m n d n' d' : Nat} (h : isR E m n d) (g : isR E m n' d') : n = n' ∧ d = d' := by
  have e1 : n = n' := by
    rcases Nat.lt_trichotomy n n' with q | q | q
    · exact absurd h.2.2.1 (g.2.2.2.1 n d q h.1 h.2.1)
    · exact q
    · exact absurd g.2.2.1 (h.2.2.2.1 n' d' q g.1 g.2.1)
  subst e1
  refine ⟨rfl, ?_⟩
  rcases Nat.lt_trichotomy d d' with q | q | q
  · exact absurd h.2.2.1 (g.2.2.2.2 d h.1 q)
  · exact q
  · exact absurd g.2.2.1 (h.2.2.2.2 d' g.1 q)
/-- alike goes on -/
def shE (E : Nat → Nat → Prop) : Prop := (∀ a, E a a) ∧ (∀ a b, E a b → E b a) ∧ (∀ a b c, E a b → E b c → E a c) ∧ ∀ a b, E a b → E (a + 1) (b + 1)
theorem shE.sh {E : Nat → Nat → Prop} (h : shE E) {a b : Nat} (e : E a b) : ∀ j, E (a + j) (b + j)
  | 0 => e
  | j + 1 => h.2.2.2 _ _ (h.sh e j)
theorem shE.it {E : Nat → Nat → Prop} (h : shE E) {a e : Nat} (q : E a (a + e)) : ∀ k, E a (a + k * e)
  | 0 => by rw [Nat.zero_mul]; exact h.1 a
  | k + 1 => by
    have h1 := h.it q k
    have h2 := h.sh q (k * e)
    refine h.2.2.1 _ _ _ h1 ?_
    rw [Nat.succ_mul, show a + (k * e + e) = a + e + k * e by omega]
    exact h2
theorem isR_cls {E : Nat → Nat → Prop} (h : shE E) {m bf bg : Nat} (h1 : bf < m) (h2 : E bf m) (h3 : ∀ b, bf < b → b < m → ¬ E b m) (h4 : bg ≤ bf) (h5 : E bg (bg + (m - bf))) (h6 : ∀ b, b < bg → ¬ E b (b + (m - bf))) : isR E m bg (m - bf) := by
  have low : ∀ a e, 1 ≤ e → a + e ≤ m → E a (a + e) → m - bf ≤ e := by
    intro a e e1 ae q
    have g := h.sh q (m - a - e)
    rw [show a + e + (m - a - e) = m by omega] at g
    rcases Nat.lt_or_ge bf (a + (m - a - e)) with z | z
    · exact absurd g (h3 _ z (by omega))
    · omega
  refine ⟨by omega, by omega, h5, ?_, ?_⟩
  · intro a e a1 e1 ae q
    have hk := low a e e1 ae q
    have it := h.it q bf
    have g0 : bf ≤ a + bf * e := by
      have : bf * 1 ≤ bf * e := Nat.mul_le_mul_left _ e1
      omega
    have h2' : E bf (bf + (m - bf)) := by rw [show bf + (m - bf) = m by omega]; exact h2
    have g1 := h.sh h2' (a + bf * e - bf)
    rw [show bf + (a + bf * e - bf) = a + bf * e by omega, show bf + (m - bf) + (a + bf * e - bf) = a + bf * e + (m - bf) by omega] at g1
    have g2 := h.sh it (m - bf)
    exact h6 a a1 (h.2.2.1 _ _ _ (h.2.2.1 _ _ _ it g1) (h.2.1 _ _ g2))
  · intro e e1 e2 q
    have := low bg e e1 (by omega) q
    omega
theorem isR_no {E : Nat → Nat → Prop} (h : shE E) {m : Nat} (h1 : ∀ b, b < m → ¬ E b m) : ∀ n d, ¬ isR E m n d := by
  intro n d q
  have g := h.sh q.2.2.1 (m - n - d)
  rw [show n + d + (m - n - d) = m by have := q.2.1; omega] at g
  exact h1 _ (by have := q.1; have := q.2.1; omega) g
noncomputable def rdE (E : Nat → Nat → Prop) : Nat × Nat := Classical.epsilon (fun q : Nat × Nat => isR E 500 q.1 q.2)
noncomputable def rdA (E : Nat → Nat → Prop) (len : Int) : Int := @ite Int (∃ q : Nat × Nat, isR E 500 q.1 q.2) (Classical.propDecidable _) (if len = 1 then ((rdE E).2 : Int) else ((rdE E).1 : Int)) (-1)
theorem rdA_of {E : Nat → Nat → Prop} {n d : Nat} (h : isR E 500 n d) (len : Int) : rdA E len = if len = 1 then (d : Int) else (n : Int) := by
  have hx : ∃ q : Nat × Nat, isR E 500 q.1 q.2 := ⟨(n, d), h⟩
  have hs : isR E 500 (rdE E).1 (rdE E).2 := Classical.epsilon_spec hx
  obtain ⟨e1, e2⟩ := isR_uniq hs h
  unfold rdA
  rw [@if_pos _ (Classical.propDecidable _) hx, e1, e2]
theorem rdA_no {E : Nat → Nat → Prop} (h : ∀ n d, ¬ isR E 500 n d) (len : Int) : rdA E len = -1 := by
  unfold rdA
  rw [@if_neg _ (Classical.propDecidable _) (fun ⟨q, g⟩ => h q.1 q.2 g)]
/-- the row stands alike, at the same kind of night -/
def Est (c : Int → Int → Int) (n k : Int) (f : Int → Int) (a b : Nat) : Prop := (∀ p, 0 ≤ p → p < n → stF c n k f a p = stF c n k f b p) ∧ (k + a) % 2 = (k + b) % 2
theorem Est_sh (c : Int → Int → Int) (n k : Int) (f : Int → Int) : shE (Est c n k f) := by
  refine ⟨fun a => ⟨fun _ _ _ => rfl, rfl⟩, fun a b h => ⟨fun p p0 p1 => (h.1 p p0 p1).symm, h.2.symm⟩, fun a b e h g => ⟨fun p p0 p1 => (h.1 p p0 p1).trans (g.1 p p0 p1), h.2.trans g.2⟩, fun a b h => ⟨fun p p0 p1 => ?_, by have := h.2; omega⟩⟩
  show nF c n ((k + a) % 2) (stF c n k f a) p = nF c n ((k + b) % 2) (stF c n k f b) p
  rw [h.2]
  exact nF_congr (fun q q0 q1 => h.1 q q0 q1) (fun _ _ _ => rfl) (Int.emod_nonneg _ (by decide)) p0 p1
/-- what the class keeps of a night -/
def pastV (c : Int → Int → Int) (n k : Int) (f : Int → Int) (t : Int) : Int := orI (rwE (stF c n k f t.toNat) n * 2) ((k + t) % 2)
theorem or_low2 {e q : Int} (h0 : 0 ≤ e) (q0 : 0 ≤ q) (q1 : q < 2) : orI (e * 2) q = e * 2 + q := by
  obtain ⟨a, rfl⟩ := Int.eq_ofNat_of_zero_le h0
  obtain ⟨b, rfl⟩ := Int.eq_ofNat_of_zero_le q0
  unfold orI
  have h : 2 ^ 1 * a ||| b = 2 ^ 1 * a + b := (Nat.two_pow_add_eq_or_of_lt (i := 1) (by omega) a).symm
  rw [show ((a : Int) * 2).toNat = 2 ^ 1 * a by omega, Int.toNat_natCast, h]
  omega
theorem pastV_v {c : Int → Int → Int} {n k t : Int} {f : Int → Int} {set : Int} (hi : inS set f n) (n0 : 0 ≤ n) (n1 : n ≤ 10) : pastV c n k f t = rwE (stF c n k f t.toNat) n * 2 + (k + t) % 2 ∧ (0 ≤ rwE (stF c n k f t.toNat) n ∧ rwE (stF c n k f t.toNat) n < 1099511627776) := by
  have hr := (rwE_ok n0 n1 (hi.stF (c := c) (k := k) t.toNat).r16).1
  refine ⟨?_, hr⟩
  unfold pastV
  exact or_low2 hr.1 (by omega) (by omega)
theorem pastV_eq {c : Int → Int → Int} {n k a b : Int} {f : Int → Int} {set : Int} (hi : inS set f n) (n0 : 0 ≤ n) (n1 : n ≤ 10) (a0 : 0 ≤ a) (b0 : 0 ≤ b) : pastV c n k f a = pastV c n k f b ↔ Est c n k f a.toNat b.toNat := by
  obtain ⟨ea, ra⟩ := pastV_v (c := c) (k := k) (t := a) hi n0 n1
  obtain ⟨eb, rb⟩ := pastV_v (c := c) (k := k) (t := b) hi n0 n1
  have wa := rwE_ok n0 n1 (hi.stF (c := c) (k := k) a.toNat).r16
  have wb := rwE_ok n0 n1 (hi.stF (c := c) (k := k) b.toNat).r16
  rw [ea, eb]
  unfold Est
  rw [show ((a.toNat : Nat) : Int) = a by omega, show ((b.toNat : Nat) : Int) = b by omega]
  constructor
  · intro h
    have h1 : rwE (stF c n k f a.toNat) n = rwE (stF c n k f b.toNat) n := by omega
    refine ⟨fun p p0 p1 => ?_, by omega⟩
    have x := wa.2 p p0 (by omega)
    have y := wb.2 p p0 (by omega)
    rw [if_pos p1] at x y
    rw [← x, ← y, h1]
  · intro h
    rw [rwE_congr h.1, h.2]
/-- a row as one decimal number -/
def rnN (f : Int → Int) : Nat → Int
  | 0 => 0
  | m + 1 => 10 * rnN f m + f m
theorem rnN_r {f : Int → Int} : ∀ m : Nat, m ≤ 10 → (∀ p : Nat, p < m → 0 ≤ f p ∧ f p < 10) → 0 ≤ rnN f m ∧ rnN f m < 10 ^ m
  | 0, _, _ => ⟨Int.le_refl 0, by show (0 : Int) < 10 ^ 0; decide⟩
  | m + 1, h, hf => by
    have ih := rnN_r m (by omega) (fun p hp => hf p (by omega))
    have g := hf m (by omega)
    rw [rnN, Int.pow_succ]
    omega
theorem rnN_inj {f g : Int → Int} : ∀ m : Nat, (∀ p : Nat, p < m → 0 ≤ f p ∧ f p < 10) → (∀ p : Nat, p < m → 0 ≤ g p ∧ g p < 10) → rnN f m = rnN g m → ∀ p : Nat, p < m → f p = g p
  | 0, _, _, _, p, hp => absurd hp (by omega)
  | m + 1, hf, hg, h, p, hp => by
    rw [rnN, rnN] at h
    have a := hf m (by omega)
    have b := hg m (by omega)
    by_cases e : p = m
    · subst e; omega
    · exact rnN_inj m (fun q hq => hf q (by omega)) (fun q hq => hg q (by omega)) (by omega) p (by omega)
theorem rnN_congr {f g : Int → Int} : ∀ m : Nat, (∀ p : Nat, p < m → f p = g p) → rnN f m = rnN g m
  | 0, _ => rfl
  | m + 1, h => by rw [rnN, rnN, rnN_congr m (fun p hp => h p (by omega)), h m (by omega)]
theorem rnN_s {f : Int → Int} {i : Int} (i0 : 0 ≤ i) : rnN f (i + 1).toNat = 10 * rnN f i.toNat + f i := by
  rw [show (i + 1).toNat = i.toNat + 1 by omega, rnN, show ((i.toNat : Nat) : Int) = i by omega]
theorem rnN_b {f : Int → Int} {n : Int} (n0 : 0 ≤ n) (n1 : n ≤ 10) (hf : ∀ p, 0 ≤ p → p < n → 0 ≤ f p ∧ f p < 10) {i : Int} (i0 : 0 ≤ i) (i1 : i ≤ n) : 0 ≤ rnN f i.toNat ∧ rnN f i.toNat < 10000000000 := by
  have h := rnN_r (f := f) i.toNat (by omega) (fun p hp => hf p (by omega) (by omega))
  have h2 : (10 : Int) ^ i.toNat ≤ 10 ^ 10 := by
    have : (10 : Nat) ^ i.toNat ≤ 10 ^ 10 := Nat.pow_le_pow_right (by decide) (by omega)
    exact_mod_cast this
  exact ⟨h.1, by omega⟩
theorem rnE_iff {c : Int → Int → Int} {n k a b : Int} {f : Int → Int} (n0 : 0 ≤ n) (hf : ∀ p, 0 ≤ p → p < n → 0 ≤ f p ∧ f p < 10) (a0 : 0 ≤ a) (b0 : 0 ≤ b) (hp : (k + a) % 2 = (k + b) % 2) : rnN (stF c n k f a.toNat) n.toNat = rnN (stF c n k f b.toNat) n.toNat ↔ Est c n k f a.toNat b.toNat := by
  have ra : ∀ p : Nat, p < n.toNat → 0 ≤ stF c n k f a.toNat p ∧ stF c n k f a.toNat p < 10 := fun p hp => stF_all (P := fun v => 0 ≤ v ∧ v < 10) hf a.toNat p (by omega) (by omega)
  have rb : ∀ p : Nat, p < n.toNat → 0 ≤ stF c n k f b.toNat p ∧ stF c n k f b.toNat p < 10 := fun p hp => stF_all (P := fun v => 0 ≤ v ∧ v < 10) hf b.toNat p (by omega) (by omega)
  constructor
  · intro h
    refine ⟨fun p p0 p1 => ?_, by omega⟩
    have := rnN_inj n.toNat ra rb h p.toNat (by omega)
    rwa [show ((p.toNat : Nat) : Int) = p by omega] at this
  · intro h
    exact rnN_congr n.toNat (fun p hp => h.1 p (by omega) (by omega))
/-- ROUND -/
noncomputable def rdW (c : Int → Int → Int) (n k : Int) (f : Int → Int) (len : Int) : Int := if rsF c n k f 501 0 = -1 then rdA (Est c n k f) len else -1
noncomputable def roundP (A T : Int → Int) (x len : Int) : Int := if 0 ≤ x ∧ x ≤ 2 then rdW (cF A T) (A (13 + x)) (A 1) (shF A x) len else -1
