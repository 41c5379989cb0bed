/-! THE GAME: the mathematics. -/
/-- a row after a nudge at p; none: as it is -/
def mvF (f : Int → Int) (p : Int) : Int → Int := fun q => if p = -1 then f q else if q = p then f (p + 1) else if q = p + 1 then f p else f q
theorem mvF_none (f : Int → Int) : mvF f (-1) = f := by
  funext q
  unfold mvF
  rw [if_pos rfl]
theorem mvF_all {f : Int → Int} {n p : Int} {P : Int → Prop} (h : ∀ q, 0 ≤ q → q < n → P (f q)) (hp : p = -1 ∨ (0 ≤ p ∧ p + 1 < n)) : ∀ q, 0 ≤ q → q < n → P (mvF f p q) := by
  intro q q0 q1
  unfold mvF
  (repeat' split) <;> exact h _ (by omega) (by omega)
theorem mvF_congr {f g : Int → Int} {n p : Int} (h : ∀ q, 0 ≤ q → q < n → f q = g q) (hp : p = -1 ∨ (0 ≤ p ∧ p + 1 < n)) : ∀ q, 0 ≤ q → q < n → mvF f p q = mvF g p q := by
  intro q q0 q1
  unfold mvF
  (repeat' split) <;> exact h _ (by omega) (by omega)
theorem injF.mv {f : Int → Int} {n p : Int} (h : injF f n) (hp : p = -1 ∨ (0 ≤ p ∧ p + 1 < n)) : injF (mvF f p) n := by
  intro a b a0 ab b1
  unfold mvF
  (repeat' split) <;> first | exact h _ _ (by omega) (by omega) (by omega) | exact fun e => h _ _ (by omega) (by omega) (by omega) e.symm | omega
theorem mvF_mem {f : Int → Int} {n p b : Int} (hp : p = -1 ∨ (0 ≤ p ∧ p + 1 < n)) (h : ∃ q, 0 ≤ q ∧ q < n ∧ f q = b) : ∃ q, 0 ≤ q ∧ q < n ∧ mvF f p q = b := by
  obtain ⟨q, q0, q1, e⟩ := h
  rcases hp with z | z
  · exact ⟨q, q0, q1, by unfold mvF; rw [if_pos z]; exact e⟩
  · by_cases a : q = p
    · refine ⟨p + 1, by omega, by omega, ?_⟩
      unfold mvF
      rw [if_neg (by omega), if_neg (by omega), if_pos rfl, ← a]
      exact e
    · by_cases b2 : q = p + 1
      · refine ⟨p, by omega, by omega, ?_⟩
        unfold mvF
        rw [if_neg (by omega), if_pos rfl, ← b2]
        exact e
      · refine ⟨q, q0, q1, ?_⟩
        unfold mvF
        rw [if_neg (by omega), if_neg a, if_neg b2]
        exact e
theorem mvF_el (S : Int) (f : Int → Int) (p q : Int) : mvF (fun p => elF S (f p)) p q = elF S (mvF f p q) := by
  unfold mvF
  (repeat' split) <;> rfl
/-- the best of the first j moves (the first is to pass) -/
def gmS (g : Int → Int) (lf init : Int) : Nat → Int
  | 0 => init
  | j + 1 => if lf = 1 then minI (gmS g lf init j) (g ((j : Int) - 1)) else maxI (gmS g lf init j) (g ((j : Int) - 1))
theorem gmS_congr {g h : Int → Int} {lf init : Int} : ∀ j : Nat, (∀ p : Int, -1 ≤ p → p + 1 < j → g p = h p) → gmS g lf init j = gmS h lf init j
  | 0, _ => rfl
  | j + 1, e => by rw [gmS, gmS, gmS_congr j (fun p a b => e p a (by omega)), e _ (by omega) (by omega)]
theorem gmS_s {g : Int → Int} {lf init p : Int} (p0 : -1 ≤ p) : gmS g lf init (p + 1 + 1).toNat = if lf = 1 then minI (gmS g lf init (p + 1).toNat) (g p) else maxI (gmS g lf init (p + 1).toNat) (g p) := by
  rw [show (p + 1 + 1).toNat = (p + 1).toNat + 1 by omega, gmS, show (((p + 1).toNat : Nat) : Int) - 1 = p by omega]
/-- what THE GAME is with r moves left, one of LEFT (1) or RIGHT (0) next -/
def gmV (c : Int → Int → Int) (n b : Int) : Nat → (Int → Int) → Int → Int → Int
  | 0, f, _, _ => psF f n b
  | r + 1, f, k, lf => gmS (fun p => gmV c n b r (nF c n (k % 2) (mvF f p)) (k + 1) (1 - lf)) lf (if lf = 1 then n else -1) n.toNat
theorem psF_congr {f g : Int → Int} {n b : Int} (h : ∀ q, 0 ≤ q → q < n → f q = g q) : psF f n b = psF g n b := by
  have key : ∀ (m : Nat) (i : Int), 0 ≤ i → i + m ≤ n → psS f b m i = psS g b m i := by
    intro m
    induction m with
    | zero => intro i _ _; rfl
    | succ m ih =>
      intro i i0 i1
      rw [psS, psS, h i i0 (by omega), ih (i + 1) (by omega) (by omega)]
  unfold psF
  by_cases c : 0 ≤ n
  · exact key n.toNat 0 (by omega) (by omega)
  · rw [show n.toNat = 0 by omega]; rfl
theorem gmV_congr {c : Int → Int → Int} {n b : Int} : ∀ (r : Nat) (f g : Int → Int) (k lf : Int), (∀ q, 0 ≤ q → q < n → f q = g q) → gmV c n b r f k lf = gmV c n b r g k lf
  | 0, f, g, k, lf, h => psF_congr h
  | r + 1, f, g, k, lf, h => by
    rw [gmV, gmV]
    refine gmS_congr _ (fun p p0 p1 => gmV_congr r _ _ _ _ (fun q q0 q1 => ?_))
    exact nF_congr (mvF_congr h (by omega)) (fun _ _ _ => rfl) (Int.emod_nonneg _ (by decide)) q0 q1
theorem gmS_r {g : Int → Int} {lf n : Int} (hn : 1 ≤ n) (h : ∀ p, -1 ≤ p → p + 1 < n → 0 ≤ g p ∧ g p < n) : ∀ j : Nat, (j : Int) ≤ n → -1 ≤ gmS g lf (if lf = 1 then n else -1) j ∧ gmS g lf (if lf = 1 then n else -1) j ≤ n ∧ (1 ≤ j → 0 ≤ gmS g lf (if lf = 1 then n else -1) j ∧ gmS g lf (if lf = 1 then n else -1) j < n)
  | 0, _ => by
    show -1 ≤ (if lf = 1 then n else -1) ∧ (if lf = 1 then n else -1) ≤ n ∧ _
    refine ⟨?_, ?_, fun q => absurd q (by decide)⟩ <;> split <;> omega
  | j + 1, hj => by
    have ih := gmS_r (g := g) (lf := lf) hn h j (by omega)
    have hg := h ((j : Int) - 1) (by omega) (by omega)
    rw [gmS]
    have hmin := minI_spec (gmS g lf (if lf = 1 then n else -1) j) (g ((j : Int) - 1))
    have hmax := maxI_spec (gmS g lf (if lf = 1 then n else -1) j) (g ((j : Int) - 1))
    by_cases z : lf = 1
    · rw [if_pos z] at ih hmin ⊢
      rw [if_pos z]
      rcases Nat.eq_zero_or_pos j with y | y
      · subst y
        have e : gmS g lf n 0 = n := rfl
        rw [e] at ih hmin ⊢
        refine ⟨by omega, by omega, fun _ => by omega⟩
      · have := ih.2.2 y
        refine ⟨by omega, by omega, fun _ => by omega⟩
    · rw [if_neg z] at ih hmax ⊢
      rw [if_neg z]
      rcases Nat.eq_zero_or_pos j with y | y
      · subst y
        have e : gmS g lf (-1) 0 = -1 := rfl
        rw [e] at ih hmax ⊢
        refine ⟨by omega, by omega, fun _ => by omega⟩
      · have := ih.2.2 y
        refine ⟨by omega, by omega, fun _ => by omega⟩
theorem gmV_r {c : Int → Int → Int} {n b : Int} (hn : 1 ≤ n) : ∀ (r : Nat) (f : Int → Int) (k lf : Int), injF f n → (∃ q, 0 ≤ q ∧ q < n ∧ f q = b) → 0 ≤ gmV c n b r f k lf ∧ gmV c n b r f k lf < n
  | 0, f, k, lf, hi, hm => by
    have := psF_ok hi hm
    exact ⟨this.1, this.2.1⟩
  | r + 1, f, k, lf, hi, hm => by
    rw [gmV]
    have := (gmS_r (g := fun p => gmV c n b r (nF c n (k % 2) (mvF f p)) (k + 1) (1 - lf)) (lf := lf) hn (fun p p0 p1 => gmV_r hn r _ _ _ ((hi.mv (by omega)).nF (Int.emod_nonneg _ (by decide))) (nF_mem (Int.emod_nonneg _ (by decide)) (mvF_mem (by omega) hm))) n.toNat (by omega)).2.2 (by omega)
    exact this
theorem psF_el {S e n : Int} {f : Int → Int} {m : Nat} (hm : (blN S.toNat 10).length = m) (hr : ∀ q, 0 ≤ q → q < n → 0 ≤ f q ∧ f q < m) (e0 : 0 ≤ e) (e1 : e < m) : psF (fun p => elF S (f p)) n (elF S e) = psF f n e := by
  have iff : ∀ q, 0 ≤ q → q < n → (elF S (f q) = elF S e ↔ f q = e) := by
    intro q q0 q1
    have g := hr q q0 q1
    constructor
    · intro z
      rcases Int.lt_trichotomy (f q) e with y | y | y
      · have := elF_mono hm g.1 y e1; omega
      · exact y
      · have := elF_mono hm e0 y g.2; omega
    · intro z; rw [z]
  have key : ∀ (k : Nat) (i : Int), 0 ≤ i → i + k ≤ n → psS (fun p => elF S (f p)) (elF S e) k i = psS f e k i := by
    intro k
    induction k with
    | zero => intro i _ _; rfl
    | succ k ih =>
      intro i i0 i1
      rw [psS, psS, ih (i + 1) (by omega) (by omega)]
      have h := iff i i0 (by omega)
      by_cases y : f i = e
      · rw [if_pos (h.mpr y), if_pos y]
      · rw [if_neg (fun z => y (h.mp z)), if_neg y]
  unfold psF
  by_cases c : 0 ≤ n
  · exact key n.toNat 0 (by omega) (by omega)
  · rw [show n.toNat = 0 by omega]; rfl
theorem gmV_el {c : Int → Int → Int} {S e : Int} {m : Nat} (hm : (blN S.toNat 10).length = m) (e0 : 0 ≤ e) (e1 : e < m) : ∀ (r : Nat) (f : Int → Int) (k lf : Int), (∀ q, 0 ≤ q → q < (m : Int) → 0 ≤ f q ∧ f q < m) → gmV c m (elF S e) r (fun p => elF S (f p)) k lf = gmV (cE c S) m e r f k lf
  | 0, f, k, lf, hr => psF_el hm hr e0 e1
  | r + 1, f, k, lf, hr => by
    rw [gmV, gmV]
    refine gmS_congr _ (fun p p0 p1 => ?_)
    have e9 : (fun q => nF c m (k % 2) (mvF (fun p => elF S (f p)) p) q) = fun q => elF S (nF (cE c S) m (k % 2) (mvF f p) q) := by
      funext q
      rw [show mvF (fun p => elF S (f p)) p = fun q => elF S (mvF f p q) from funext (mvF_el S f p)]
      exact nF_el c S m (k % 2) (mvF f p) q
    show gmV c m (elF S e) r (fun q => nF c m (k % 2) (mvF (fun p => elF S (f p)) p) q) (k + 1) (1 - lf) = _
    rw [e9]
    exact gmV_el hm e0 e1 r _ _ _ (nF_all (P := fun v => 0 ≤ v ∧ v < (m : Int)) (mvF_all (P := fun v => 0 ≤ v ∧ v < (m : Int)) (n := (m : Int)) (p := p) hr (by omega)) (Int.emod_nonneg _ (by decide)))
/-- the first move that is worth v -/
def fmS (g : Int → Int) (v : Int) : Nat → Int → Int
  | 0, _ => -1
  | j + 1, p => if g p = v then p else fmS g v j (p + 1)
theorem fmS_congr {g h : Int → Int} {v : Int} : ∀ (j : Nat) (p : Int), (∀ q : Int, p ≤ q → q < p + j → g q = h q) → fmS g v j p = fmS h v j p
  | 0, _, _ => rfl
  | j + 1, p, e => by rw [fmS, fmS, e p (Int.le_refl _) (by omega), fmS_congr j (p + 1) (fun q a b => e q (by omega) (by omega))]
theorem fmS_s {g : Int → Int} {v n p : Int} (p1 : p + 1 < n) : fmS g v (n - 1 - p).toNat p = if g p = v then p else fmS g v (n - 1 - (p + 1)).toNat (p + 1) := by
  rw [show (n - 1 - p).toNat = (n - 1 - (p + 1)).toNat + 1 by omega, fmS]
def fmV (c : Int → Int → Int) (n b : Int) (r : Nat) (f : Int → Int) (k v : Int) : Int := fmS (fun p => gmV c n b r (nF c n (k % 2) (mvF f p)) (k + 1) 0) v n.toNat (-1)
/-- the best of some moves is one of them -/
theorem gmS_at {g : Int → Int} {n : Int} (hn : 1 ≤ n) (h : ∀ p, -1 ≤ p → p + 1 < n → 0 ≤ g p ∧ g p < n) : ∀ j : Nat, 1 ≤ j → (j : Int) ≤ n → ∃ p : Int, -1 ≤ p ∧ p + 1 < j ∧ g p = gmS g 1 n j
  | 0, h1, _ => absurd h1 (by decide)
  | j + 1, _, hj => by
    have hg := h ((j : Int) - 1) (by omega) (by omega)
    have hmin := minI_spec (gmS g 1 n j) (g ((j : Int) - 1))
    rw [gmS, if_pos rfl]
    rcases Nat.eq_zero_or_pos j with y | y
    · subst y
      have e : gmS g 1 n 0 = n := rfl
      rw [e] at hmin ⊢
      exact ⟨-1, by omega, by omega, by show g (((0 : Nat) : Int) - 1) = _; omega⟩
    · obtain ⟨p, p0, p1, e⟩ := gmS_at hn h j y (by omega)
      rcases hmin.2.2 with z | z
      · exact ⟨p, p0, by omega, by rw [e, z]⟩
      · exact ⟨(j : Int) - 1, by omega, by omega, z.symm⟩
/-- THE GAME -/
def gameP (A T : Int → Int) (x b n first : Int) : Int :=
  if (0 ≤ x ∧ x ≤ 2) ∧ ((0 ≤ b ∧ b < A 0) ∧ A (46 + 6 * b + 5) = x) ∧ (1 ≤ n ∧ n ≤ 5) ∧ 2 ≤ A (13 + x) ∧ A (13 + x) ≤ 5 then
    (if first = 1 then fmV (cF A T) (A (13 + x)) b (n - 1).toNat (shF A x) (A 1) (gmV (cF A T) (A (13 + x)) b n.toNat (shF A x) (A 1) 1)
      else gmV (cF A T) (A (13 + x)) b n.toNat (shF A x) (A 1) 1)
  else -2
