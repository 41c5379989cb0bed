/-! Nights to come on one row. -/
/-- who would change with whom: 1 for yes -/
def cF (A T : Int → Int) (x y : Int) : Int := if x = y then 0 else chgI A T x y
theorem cF_01 (A T : Int → Int) (x y : Int) : cF A T x y = 0 ∨ cF A T x y = 1 := by
  unfold cF chgI
  split
  · exact Or.inl rfl
  · exact bI_01 _
/-- a night from place k on, by twos, as far as place q -/
def nwP (c : Int → Int → Int) (k q : Int) (f : Int → Int) : Int → Int := fun p =>
  if k ≤ p ∧ (p - k) % 2 = 0 ∧ p < q ∧ c (f p) (f (p + 1)) = 1 then f (p + 1)
  else if k + 1 ≤ p ∧ (p - k) % 2 = 1 ∧ p - 1 < q ∧ c (f (p - 1)) (f p) = 1 then f (p - 1) else f p
theorem nwP_0 (c : Int → Int → Int) (k : Int) (f : Int → Int) (p : Int) : nwP c k k f p = f p := by
  unfold nwP
  rw [if_neg (by omega), if_neg (by omega)]
theorem nwP_at {c : Int → Int → Int} {k q p : Int} {f : Int → Int} (hp : q ≤ p) (hq : (q - k) % 2 = 0) : nwP c k q f p = f p := by
  unfold nwP
  rw [if_neg (by omega), if_neg (by omega)]
theorem nwP_step {c : Int → Int → Int} {k q : Int} {f : Int → Int} (h : k ≤ q) (hq : (q - k) % 2 = 0) (p : Int) : nwP c k (q + 2) f p = if c (f q) (f (q + 1)) = 1 then (if p = q then f (q + 1) else if p = q + 1 then f q else nwP c k q f p) else nwP c k q f p := by
  unfold nwP
  by_cases h1 : p = q
  · subst h1
    by_cases h2 : c (f p) (f (p + 1)) = 1
    · rw [if_pos (by omega), if_pos h2, if_pos rfl]
    · rw [if_neg (fun g => h2 g.2.2.2), if_neg h2, if_neg (by omega), if_neg (fun g => h2 g.2.2.2), if_neg (by omega)]
  · by_cases h3 : p = q + 1
    · subst h3
      rw [show q + 1 - 1 = q by omega]
      by_cases h2 : c (f q) (f (q + 1)) = 1
      · rw [if_neg (by omega), if_pos ⟨by omega, by omega, by omega, h2⟩, if_pos h2, if_neg h1, if_pos rfl]
      · rw [if_neg (by omega), if_neg (fun g => h2 g.2.2.2), if_neg h2, if_neg (by omega), if_neg (by omega)]
    · have e1 : (k ≤ p ∧ (p - k) % 2 = 0 ∧ p < q + 2 ∧ c (f p) (f (p + 1)) = 1) ↔ (k ≤ p ∧ (p - k) % 2 = 0 ∧ p < q ∧ c (f p) (f (p + 1)) = 1) := ⟨fun g => ⟨g.1, g.2.1, by omega, g.2.2.2⟩, fun g => ⟨g.1, g.2.1, by omega, g.2.2.2⟩⟩
      have e2 : (k + 1 ≤ p ∧ (p - k) % 2 = 1 ∧ p - 1 < q + 2 ∧ c (f (p - 1)) (f p) = 1) ↔ (k + 1 ≤ p ∧ (p - k) % 2 = 1 ∧ p - 1 < q ∧ c (f (p - 1)) (f p) = 1) := ⟨fun g => ⟨g.1, g.2.1, by omega, g.2.2.2⟩, fun g => ⟨g.1, g.2.1, by omega, g.2.2.2⟩⟩
      rw [if_neg h1, if_neg h3, ite_self]
      simp only [e1, e2]
/-- a whole night on a row of n -/
def nF (c : Int → Int → Int) (n k : Int) (f : Int → Int) : Int → Int := nwP c k (n - 1) f
theorem nF_end {c : Int → Int → Int} {n k q p : Int} {f : Int → Int} (hq : (q - k) % 2 = 0) (h1 : n ≤ q + 1) (h2 : q = k ∨ q ≤ n) (hp : p < n) : nwP c k q f p = nF c n k f p := by
  unfold nF nwP
  have e1 : (k ≤ p ∧ (p - k) % 2 = 0 ∧ p < q ∧ c (f p) (f (p + 1)) = 1) ↔ (k ≤ p ∧ (p - k) % 2 = 0 ∧ p < n - 1 ∧ c (f p) (f (p + 1)) = 1) := ⟨fun g => ⟨g.1, g.2.1, by omega, g.2.2.2⟩, fun g => ⟨g.1, g.2.1, by omega, g.2.2.2⟩⟩
  have e2 : (k + 1 ≤ p ∧ (p - k) % 2 = 1 ∧ p - 1 < q ∧ c (f (p - 1)) (f p) = 1) ↔ (k + 1 ≤ p ∧ (p - k) % 2 = 1 ∧ p - 1 < n - 1 ∧ c (f (p - 1)) (f p) = 1) := ⟨fun g => ⟨g.1, g.2.1, by omega, g.2.2.2⟩, fun g => ⟨g.1, g.2.1, by omega, g.2.2.2⟩⟩
  simp only [e1, e2]
theorem nF_congr {c c' : Int → Int → Int} {n k p : Int} {f g : Int → Int} (h : ∀ q, 0 ≤ q → q < n → f q = g q) (hc : ∀ q, 0 ≤ q → q + 1 < n → c (g q) (g (q + 1)) = c' (g q) (g (q + 1))) (k0 : 0 ≤ k) (p0 : 0 ≤ p) (hp : p < n) : nF c n k f p = nF c' n k g p := by
  unfold nF nwP
  have e0 := h p p0 hp
  have e1 : (k ≤ p ∧ (p - k) % 2 = 0 ∧ p < n - 1 ∧ c (f p) (f (p + 1)) = 1) ↔ (k ≤ p ∧ (p - k) % 2 = 0 ∧ p < n - 1 ∧ c' (g p) (g (p + 1)) = 1) := by
    constructor
    · intro q
      have a := h (p + 1) (by omega) (by omega)
      exact ⟨q.1, q.2.1, q.2.2.1, by rw [← hc p p0 (by omega), ← e0, ← a]; exact q.2.2.2⟩
    · intro q
      have a := h (p + 1) (by omega) (by omega)
      exact ⟨q.1, q.2.1, q.2.2.1, by rw [e0, a, hc p p0 (by omega)]; exact q.2.2.2⟩
  have e2 : (k + 1 ≤ p ∧ (p - k) % 2 = 1 ∧ p - 1 < n - 1 ∧ c (f (p - 1)) (f p) = 1) ↔ (k + 1 ≤ p ∧ (p - k) % 2 = 1 ∧ p - 1 < n - 1 ∧ c' (g (p - 1)) (g p) = 1) := by
    constructor
    · intro q
      have a := h (p - 1) (by omega) (by omega)
      have b := hc (p - 1) (by omega) (by omega)
      rw [show p - 1 + 1 = p by omega] at b
      exact ⟨q.1, q.2.1, q.2.2.1, by rw [← b, ← e0, ← a]; exact q.2.2.2⟩
    · intro q
      have a := h (p - 1) (by omega) (by omega)
      have b := hc (p - 1) (by omega) (by omega)
      rw [show p - 1 + 1 = p by omega] at b
      exact ⟨q.1, q.2.1, q.2.2.1, by rw [e0, a, b]; exact q.2.2.2⟩
  by_cases c1 : k ≤ p ∧ (p - k) % 2 = 0 ∧ p < n - 1 ∧ c (f p) (f (p + 1)) = 1
  · rw [if_pos c1, if_pos (e1.mp c1), h (p + 1) (by omega) (by omega)]
  · rw [if_neg c1, if_neg (fun q => c1 (e1.mpr q))]
    by_cases c2 : k + 1 ≤ p ∧ (p - k) % 2 = 1 ∧ p - 1 < n - 1 ∧ c (f (p - 1)) (f p) = 1
    · rw [if_pos c2, if_pos (e2.mp c2), h (p - 1) (by omega) (by omega)]
    · rw [if_neg c2, if_neg (fun q => c2 (e2.mpr q)), e0]
theorem nF_all {c : Int → Int → Int} {n k : Int} {f : Int → Int} {P : Int → Prop} (h : ∀ q, 0 ≤ q → q < n → P (f q)) (k0 : 0 ≤ k) : ∀ q, 0 ≤ q → q < n → P (nF c n k f q) := by
  intro q q0 q1
  unfold nF nwP
  split
  · rename_i g; exact h _ (by omega) (by omega)
  · split
    · rename_i g; exact h _ (by omega) (by omega)
    · exact h q q0 q1
/-- the row after t nights from night k on -/
def stF (c : Int → Int → Int) (n k : Int) (f : Int → Int) : Nat → Int → Int
  | 0 => f
  | t + 1 => nF c n ((k + t) % 2) (stF c n k f t)
theorem stF_all {c : Int → Int → Int} {n k : Int} {f : Int → Int} {P : Int → Prop} (h : ∀ q, 0 ≤ q → q < n → P (f q)) : ∀ (t : Nat) q, 0 ≤ q → q < n → P (stF c n k f t q)
  | 0 => h
  | t + 1 => nF_all (stF_all h t) (Int.emod_nonneg _ (by decide))
/-- calm: none of the first m twos would change -/
def clN (c : Int → Int → Int) (f : Int → Int) : Nat → Int
  | 0 => 1
  | m + 1 => if c (f m) (f (m + 1)) = 1 then 0 else clN c f m
theorem clN_01 (c : Int → Int → Int) (f : Int → Int) : ∀ m, clN c f m = 0 ∨ clN c f m = 1
  | 0 => Or.inr rfl
  | m + 1 => by
    unfold clN
    split
    · exact Or.inl rfl
    · exact clN_01 c f m
theorem clN_1 {c : Int → Int → Int} {f : Int → Int} : ∀ {m : Nat}, clN c f m = 1 ↔ ∀ p : Nat, p < m → c (f p) (f (p + 1)) ≠ 1
  | 0 => ⟨fun _ p hp => absurd hp (by omega), fun _ => rfl⟩
  | m + 1 => by
    unfold clN
    by_cases h : c (f m) (f (m + 1)) = 1
    · rw [if_pos h]
      exact ⟨fun q => by omega, fun q => absurd h (q m (by omega))⟩
    · rw [if_neg h, clN_1]
      constructor
      · intro q p hp
        by_cases e : p = m
        · subst e; exact h
        · exact q p (by omega)
      · intro q p hp
        exact q p (by omega)
theorem clN_0 {c : Int → Int → Int} {f : Int → Int} {m p : Nat} (hp : p < m) (h : c (f p) (f (p + 1)) = 1) : clN c f m = 0 := by
  rcases clN_01 c f m with q | q
  · exact q
  · exact absurd h (clN_1.mp q p hp)
theorem clN_congr {c c' : Int → Int → Int} {f g : Int → Int} {m : Nat} (h : ∀ q : Nat, q ≤ m → f q = g q) (hc : ∀ q : Nat, q < m → c (g q) (g (q + 1)) = c' (g q) (g (q + 1))) : clN c f m = clN c' g m := by
  have e : (clN c f m = 1) ↔ (clN c' g m = 1) := by
    rw [clN_1, clN_1]
    constructor
    · intro q p hp
      rw [← hc p hp, ← h p (by omega), show (p : Int) + 1 = ((p + 1 : Nat) : Int) by omega, ← h (p + 1) (by omega)]
      exact q p hp
    · intro q p hp
      have := q p hp
      rw [← hc p hp, ← h p (by omega), show (p : Int) + 1 = ((p + 1 : Nat) : Int) by omega, ← h (p + 1) (by omega)] at this
      exact this
  rcases clN_01 c f m with q | q <;> rcases clN_01 c' g m with r | r <;> rw [q, r]
  · rw [q, r] at e; exact absurd (e.mpr rfl) (by decide)
  · rw [q, r] at e; exact absurd (e.mp rfl) (by decide)
/-- the first calm row: how many nights -/
def rsF (c : Int → Int → Int) (n k : Int) (f : Int → Int) : Nat → Nat → Int
  | 0, _ => -1
  | m + 1, t => if clN c (stF c n k f t) (n - 1).toNat = 1 then t else rsF c n k f m (t + 1)
theorem rsF_r (c : Int → Int → Int) (n k : Int) (f : Int → Int) : ∀ m t, (rsF c n k f m t = -1) ∨ ((t : Int) ≤ rsF c n k f m t ∧ rsF c n k f m t < t + m ∧ clN c (stF c n k f (rsF c n k f m t).toNat) (n - 1).toNat = 1)
  | 0, t => Or.inl rfl
  | m + 1, t => by
    unfold rsF
    split
    · rename_i g
      exact Or.inr ⟨Int.le_refl _, by omega, by rw [Int.toNat_natCast]; exact g⟩
    · rcases rsF_r c n k f m (t + 1) with q | ⟨q1, q2, q3⟩
      · exact Or.inl q
      · exact Or.inr ⟨by omega, by omega, q3⟩
theorem rsF_none {c : Int → Int → Int} {n k : Int} {f : Int → Int} : ∀ {m t}, rsF c n k f m t = -1 → ∀ u, t ≤ u → u < t + m → clN c (stF c n k f u) (n - 1).toNat = 0
  | 0, t, _, u, h1, h2 => absurd h2 (by omega)
  | m + 1, t, h, u, h1, h2 => by
    unfold rsF at h
    split at h
    · omega
    · rename_i g
      by_cases e : u = t
      · subst e
        rcases clN_01 c (stF c n k f u) (n - 1).toNat with q | q
        · exact q
        · exact absurd q g
      · exact rsF_none h u (by omega) (by omega)
