/-! TROUBLE: the mathematics. -/
theorem smN_le {h g : Nat → Int} : ∀ n : Nat, (∀ i, i < n → h i ≤ g i) → smN h n ≤ smN g n
  | 0, _ => Int.le_refl 0
  | n + 1, hh => by
    have := smN_le n (fun i hi => hh i (by omega))
    have := hh n (by omega)
    rw [smN, smN]
    omega
theorem smN_lt {h g : Nat → Int} {q : Nat} : ∀ n : Nat, (∀ i, i < n → h i ≤ g i) → q < n → h q < g q → smN h n < smN g n
  | 0, _, hq, _ => absurd hq (by omega)
  | n + 1, hh, hq, hl => by
    rw [smN, smN]
    by_cases e : q = n
    · subst e
      have := smN_le q (fun i hi => hh i (by omega))
      omega
    · have := smN_lt n (fun i hi => hh i (by omega)) (by omega) hl
      have := hh n (by omega)
      omega
/-- 1, if p is ahead of q and they would change -/
def tPQ (c : Int → Int → Int) (f : Int → Int) (p q : Nat) : Int := if p < q ∧ c (f p) (f q) = 1 then 1 else 0
def PhN (c : Int → Int → Int) (m : Nat) (f : Int → Int) : Int := smN (fun p => smN (fun q => tPQ c f p q) m) m
theorem tPQ_r (c : Int → Int → Int) (f : Int → Int) (p q : Nat) : 0 ≤ tPQ c f p q ∧ tPQ c f p q ≤ 1 := by
  unfold tPQ
  split <;> omega
theorem PhN_0 (c : Int → Int → Int) (m : Nat) (f : Int → Int) : 0 ≤ PhN c m f := smN_nn m (fun p _ => smN_nn m (fun q _ => (tPQ_r c f p q).1))
theorem pairs_lt : ∀ m, m < 7 → smN (fun p => smN (fun q => if p < q then 1 else 0) m) m < (fct m : Int) := by decide +kernel
theorem PhN_lt {c : Int → Int → Int} {m : Nat} (hm : m < 7) (f : Int → Int) : PhN c m f < (fct m : Int) := by
  refine Int.lt_of_le_of_lt ?_ (pairs_lt m hm)
  refine smN_le m (fun p _ => smN_le m (fun q _ => ?_))
  unfold tPQ
  by_cases h : p < q
  · rw [if_pos h]
    split <;> omega
  · rw [if_neg h, if_neg (fun g => h g.1)]
    omega
theorem sgF_lt {c : Int → Int → Int} {n k : Int} {f : Int → Int} {p q : Int} (h : p < q) : sgF c n k f p < sgF c n k f q ∨ (q = p + 1 ∧ sgF c n k f p = p + 1 ∧ sgF c n k f q = p ∧ c (f p) (f (p + 1)) = 1) := by
  by_cases a1 : k ≤ p ∧ (p - k) % 2 = 0 ∧ p < n - 1 ∧ c (f p) (f (p + 1)) = 1
  · have ep : sgF c n k f p = p + 1 := by unfold sgF; rw [if_pos a1]
    by_cases e : q = p + 1
    · right
      refine ⟨e, ep, ?_, a1.2.2.2⟩
      unfold sgF
      rw [if_neg (by omega), if_pos ⟨by omega, by omega, by omega, by rw [e, show p + 1 - 1 = p by omega]; exact a1.2.2.2⟩]
      omega
    · left
      rw [ep]
      unfold sgF
      (repeat' split) <;> omega
  · left
    have ep : sgF c n k f p ≤ p := by
      unfold sgF
      rw [if_neg a1]
      split <;> omega
    by_cases e : q = p + 1
    · have : p < sgF c n k f q := by
        unfold sgF
        split
        · omega
        · split
          · rename_i g
            exfalso
            refine a1 ⟨by omega, by omega, by omega, ?_⟩
            have := g.2.2.2
            rw [e, show p + 1 - 1 = p by omega] at this
            exact this
          · omega
      omega
    · have : q - 1 ≤ sgF c n k f q := by
        unfold sgF
        (repeat' split) <;> omega
      omega
section PHI
variable {c : Int → Int → Int} {m : Nat} {f : Int → Int}
/-- none of two would change whichever is ahead -/
def noMu (c : Int → Int → Int) (m : Nat) : Prop := ∀ a b : Int, 0 ≤ a → a < m → 0 ≤ b → b < m → a ≠ b → ¬ (c a b = 1 ∧ c b a = 1)
theorem t_sg (hn : noMu c m) (hr : ∀ p, 0 ≤ p → p < (m : Int) → 0 ≤ f p ∧ f p < m) (hi : injF f m) {k : Int} (k0 : 0 ≤ k) {p q : Nat} (hp : p < m) (hq : q < m) : tPQ c (nF c m k f) p q ≤ tPQ c f (sgF c m k f p).toNat (sgF c m k f q).toNat := by
  have rp := sgF_r (c := c) (n := m) (k := k) (f := f) (p := p) k0 (by omega) (by omega)
  have rq := sgF_r (c := c) (n := m) (k := k) (f := f) (p := q) k0 (by omega) (by omega)
  by_cases h : p < q ∧ c (nF c m k f p) (nF c m k f q) = 1
  · have e1 : tPQ c (nF c m k f) p q = 1 := by unfold tPQ; rw [if_pos h]
    rcases sgF_lt (c := c) (n := m) (k := k) (f := f) (show (p : Int) < q by omega) with z | ⟨z1, z2, z3, z4⟩
    · have e2 : tPQ c f (sgF c m k f p).toNat (sgF c m k f q).toNat = 1 := by
        have hcc : c (f (((sgF c m k f p).toNat : Nat) : Int)) (f (((sgF c m k f q).toNat : Nat) : Int)) = 1 := by
          have g := h.2
          rw [nF_sg, nF_sg] at g
          rw [show (((sgF c m k f p).toNat : Nat) : Int) = sgF c m k f p by omega, show (((sgF c m k f q).toNat : Nat) : Int) = sgF c m k f q by omega]
          exact g
        unfold tPQ
        rw [if_pos ⟨by omega, hcc⟩]
      omega
    · exfalso
      have g := h.2
      rw [nF_sg, nF_sg, z2, z3] at g
      have a := hr p (by omega) (by omega)
      have b := hr (p + 1) (by omega) (by omega)
      exact hn (f p) (f (p + 1)) a.1 a.2 b.1 b.2 (hi p (p + 1) (by omega) (by omega) (by omega)) ⟨z4, g⟩
  · have e1 : tPQ c (nF c m k f) p q = 0 := by unfold tPQ; rw [if_neg h]
    have := (tPQ_r c f (sgF c m k f p).toNat (sgF c m k f q).toNat).1
    omega
theorem Ph_sg {k : Int} (k0 : 0 ≤ k) : smN (fun p : Nat => smN (fun q : Nat => tPQ c f (sgF c m k f p).toNat (sgF c m k f q).toNat) m) m = PhN c m f := by
  have hb : ∀ i : Nat, i < m → (sgF c m k f i).toNat < m := fun i hi => by
    have := sgF_r (c := c) (n := m) (k := k) (f := f) (p := i) k0 (by omega) (by omega)
    omega
  have hd : ∀ i j : Nat, i < j → j < m → (sgF c m k f i).toNat ≠ (sgF c m k f j).toNat := fun i j hij hj e => by
    have a := sgF_r (c := c) (n := m) (k := k) (f := f) (p := i) k0 (by omega) (by omega)
    have b := sgF_r (c := c) (n := m) (k := k) (f := f) (p := j) k0 (by omega) (by omega)
    have e2 : sgF c m k f i = sgF c m k f j := by omega
    have e3 := congrArg (sgF c m k f) e2
    rw [sgF_sg, sgF_sg] at e3
    omega
  have inner : ∀ p : Nat, smN (fun q : Nat => tPQ c f p (sgF c m k f q).toNat) m = smN (fun q => tPQ c f p q) m := fun p => sum_bij (g := fun q => tPQ c f p q) (f := fun i : Nat => (sgF c m k f i).toNat) (fun j _ => tPQ_r c f p j) hb hd
  have e1 : smN (fun p : Nat => smN (fun q : Nat => tPQ c f (sgF c m k f p).toNat (sgF c m k f q).toNat) m) m = smN (fun p : Nat => smN (fun q : Nat => tPQ c f (sgF c m k f p).toNat q) m) m := smN_congr m (fun p _ => inner _)
  rw [e1]
  have big : ∀ (g : Nat → Int) (B : Nat), (∀ j, j < m → 0 ≤ g j ∧ g j ≤ B) → smN (fun p : Nat => g (sgF c m k f p).toNat) m = smN g m := by
    intro g B hg
    have a := sum_inj m m g (fun i : Nat => (sgF c m k f i).toNat) (fun j hj => (hg j hj).1) hb hd
    have b : smN (fun i : Nat => (B : Int) - g (sgF c m k f i).toNat) m ≤ smN (fun j => (B : Int) - g j) m := sum_inj m m (fun j => (B : Int) - g j) (fun i : Nat => (sgF c m k f i).toNat) (fun j hj => by have := hg j hj; omega) hb hd
    rw [smN_sub (h := fun _ => (B : Int)) (g := fun i : Nat => g (sgF c m k f i).toNat), smN_sub (h := fun _ => (B : Int)) (g := g)] at b
    omega
  refine big (fun p => smN (fun q => tPQ c f p q) m) m (fun j _ => ⟨smN_nn m (fun q _ => (tPQ_r c f j q).1), ?_⟩)
  have := smN_le (h := fun q => tPQ c f j q) (g := fun _ => 1) m (fun q _ => (tPQ_r c f j q).2)
  rw [smN_one] at this
  exact this
theorem Ph_le (hn : noMu c m) (hr : ∀ p, 0 ≤ p → p < (m : Int) → 0 ≤ f p ∧ f p < m) (hi : injF f m) {k : Int} (k0 : 0 ≤ k) : PhN c m (nF c m k f) ≤ PhN c m f := by
  rw [← Ph_sg (c := c) (m := m) (f := f) k0]
  exact smN_le m (fun p hp => smN_le m (fun q hq => t_sg hn hr hi k0 hp hq))
theorem Ph_lt (hn : noMu c m) (hr : ∀ p, 0 ≤ p → p < (m : Int) → 0 ≤ f p ∧ f p < m) (hi : injF f m) {k : Int} (k0 : 0 ≤ k) {p : Int} (h0 : k ≤ p) (h1 : (p - k) % 2 = 0) (h2 : p < (m : Int) - 1) (h3 : c (f p) (f (p + 1)) = 1) : PhN c m (nF c m k f) < PhN c m f := by
  rw [← Ph_sg (c := c) (m := m) (f := f) k0]
  have e1 : sgF c m k f p = p + 1 := by unfold sgF; rw [if_pos ⟨h0, h1, h2, h3⟩]
  have e2 : sgF c m k f (p + 1) = p := by rw [← e1, sgF_sg]
  refine smN_lt (q := (p + 1).toNat) m (fun a ha => smN_le m (fun b hb => t_sg hn hr hi k0 ha hb)) (by omega) ?_
  refine smN_lt (q := p.toNat) m (fun b hb => t_sg hn hr hi k0 (by omega) hb) (by omega) ?_
  have a1 : tPQ c (nF c m k f) (p + 1).toNat p.toNat = 0 := by unfold tPQ; rw [if_neg (by omega)]
  have a2 : tPQ c f (sgF c m k f (((p + 1).toNat : Nat) : Int)).toNat (sgF c m k f ((p.toNat : Nat) : Int)).toNat = 1 := by
    rw [show (((p + 1).toNat : Nat) : Int) = p + 1 by omega, show ((p.toNat : Nat) : Int) = p by omega, e1, e2]
    unfold tPQ
    rw [if_pos ⟨by omega, by rw [show (((p + 1).toNat : Nat) : Int) = p + 1 by omega, show ((p.toNat : Nat) : Int) = p by omega]; exact h3⟩]
  rw [a1, a2]
  decide
/-- nothing to change at this kind of night: the row stays -/
theorem nF_same {k : Int} (h : ∀ p, k ≤ p → (p - k) % 2 = 0 → p < (m : Int) - 1 → c (f p) (f (p + 1)) ≠ 1) : nF c m k f = f := by
  funext p
  unfold nF nwP
  rw [if_neg (fun g => h p g.1 g.2.1 g.2.2.1 g.2.2.2), if_neg (fun g => h (p - 1) (by omega) (by omega) g.2.2.1 (by rw [show p - 1 + 1 = p by omega]; exact g.2.2.2))]
end PHI
section NEV
variable {c : Int → Int → Int} {S : Int} {m : Nat}
theorem row_next (hm : m < 7) {x : Int} (x0 : 0 ≤ x) (x1 : x < 2 * fct m) : (∀ p, 0 ≤ p → p < (m : Int) → dgI m (nxS c S m x / 2) p = nF (cE c S) m (x % 2) (dgI m (x / 2)) p) ∧ nxS c S m x % 2 = 1 - x % 2 := by
  have hd := dg_ok hm (n := x / 2) (by omega) (by omega)
  have h := rk_ok hm (f := nF (cE c S) m (x % 2) (dgI m (x / 2))) (nF_all (P := fun v => 0 ≤ v ∧ v < (m : Int)) hd.1 (by omega)) (hd.2.1.nF (by omega))
  have e : nxS c S m x / 2 = rkI m (nF (cE c S) m (x % 2) (dgI m (x / 2))) := by unfold nxS; omega
  refine ⟨fun p p0 p1 => ?_, by unfold nxS; omega⟩
  rw [e]
  exact h.2.1 p p0 p1
theorem PhN_congr {f g : Int → Int} (h : ∀ p, 0 ≤ p → p < (m : Int) → f p = g p) : PhN c m f = PhN c m g := by
  refine smN_congr m (fun p hp => smN_congr m (fun q hq => ?_))
  unfold tPQ
  rw [h p (by omega) (by omega), h q (by omega) (by omega)]
theorem two_steps (hm : m < 7) (hn : noMu (cE c S) m) {x : Int} (x0 : 0 ≤ x) (x1 : x < 2 * fct m) (h0 : cmO c S m (x / 2) = 0) : PhN (cE c S) m (dgI m (itS c S m x 2 / 2)) < PhN (cE c S) m (dgI m (x / 2)) := by
  have hd := dg_ok hm (n := x / 2) (by omega) (by omega)
  have hx := nxS_r (c := c) (S := S) hm x0 x1
  have hd1 := dg_ok hm (n := nxS c S m x / 2) (by omega) (by omega)
  have r1 := row_next (c := c) (S := S) hm x0 x1
  have r2 := row_next (c := c) (S := S) hm hx.1 hx.2
  have e2 : PhN (cE c S) m (dgI m (itS c S m x 2 / 2)) = PhN (cE c S) m (nF (cE c S) m (nxS c S m x % 2) (dgI m (nxS c S m x / 2))) := PhN_congr r2.1
  have e1 : PhN (cE c S) m (dgI m (nxS c S m x / 2)) = PhN (cE c S) m (nF (cE c S) m (x % 2) (dgI m (x / 2))) := PhN_congr r1.1
  have l1 := Ph_le hn hd.1 hd.2.1 (k := x % 2) (by omega)
  have l2 := Ph_le hn hd1.1 hd1.2.1 (k := nxS c S m x % 2) (by omega)
  rcases Classical.em (∃ p, x % 2 ≤ p ∧ (p - x % 2) % 2 = 0 ∧ p < (m : Int) - 1 ∧ cE c S (dgI m (x / 2) p) (dgI m (x / 2) (p + 1)) = 1) with q | q
  · obtain ⟨p, a, b, d, e⟩ := q
    have := Ph_lt hn hd.1 hd.2.1 (k := x % 2) (by omega) a b d e
    omega
  · have hs : nF (cE c S) m (x % 2) (dgI m (x / 2)) = dgI m (x / 2) := nF_same (fun p a b d e => q ⟨p, a, b, d, e⟩)
    rw [hs] at r1 e1
    have hp : ∃ p : Nat, p < m - 1 ∧ cE c S (dgI m (x / 2) p) (dgI m (x / 2) (p + 1)) = 1 := by
      rcases Classical.em (∃ p : Nat, p < m - 1 ∧ cE c S (dgI m (x / 2) p) (dgI m (x / 2) (p + 1)) = 1) with z | z
      · exact z
      · exfalso
        have : cmO c S m (x / 2) = 1 := clN_1.mpr (fun p hp e => z ⟨p, hp, e⟩)
        omega
    obtain ⟨p, hp, ep⟩ := hp
    have hpar : ((p : Int) - nxS c S m x % 2) % 2 = 0 := by
      rcases (by omega : ((p : Int) - x % 2) % 2 = 0 ∨ ((p : Int) - nxS c S m x % 2) % 2 = 0) with z | z
      · exfalso
        refine q ⟨p, ?_, z, by omega, ep⟩
        omega
      · exact z
    have := Ph_lt hn hd1.1 hd1.2.1 (k := nxS c S m x % 2) (by omega) (p := (p : Int)) (by omega) hpar (by omega) (by rw [r1.1 p (by omega) (by omega), r1.1 (p + 1) (by omega) (by omega)]; exact ep)
    omega
theorem itS_add (x : Int) (a : Nat) : ∀ b : Nat, itS c S m (itS c S m x a) b = itS c S m x (a + b)
  | 0 => rfl
  | b + 1 => by
    show nxS c S m (itS c S m (itS c S m x a) b) = nxS c S m (itS c S m x (a + b))
    rw [itS_add x a b]
theorem gF_ex (hm : m < 7) : ∀ (f : Nat) (x : Int), 0 ≤ x → x < 2 * fct m → (∃ j, j < f ∧ cmO c S m (itS c S m x j / 2) = 1) → 0 ≤ gF c S m f x
  | 0, _, _, _, ⟨_, h, _⟩ => absurd h (by omega)
  | f + 1, x, x0, x1, ⟨j, hj, e⟩ => by
    unfold gF
    split
    · omega
    · rename_i g
      have hx := nxS_r (c := c) (S := S) hm x0 x1
      refine gF_ex hm f _ hx.1 hx.2 ?_
      rcases Nat.eq_zero_or_pos j with z | z
      · subst z; exact absurd e g
      · exact ⟨j - 1, by omega, by rw [itS_s, show j - 1 + 1 = j by omega]; exact e⟩
/-- without two that never rest all comes to rest -/
theorem noMu_rest (hm : m < 7) (hn : noMu (cE c S) m) {x : Int} (x0 : 0 ≤ x) (x1 : x < 2 * fct m) : Gs c S m x ≠ -1 := by
  have hex : ∃ j, j < 2 * fct m + 1 ∧ cmO c S m (itS c S m x j / 2) = 1 := by
    rcases Classical.em (∃ j, j < 2 * fct m + 1 ∧ cmO c S m (itS c S m x j / 2) = 1) with q | q
    · exact q
    · exfalso
      have hz : ∀ j, j < 2 * fct m + 1 → cmO c S m (itS c S m x j / 2) = 0 := fun j hj => by
        rcases cmO_01 c S m (itS c S m x j / 2) with z | z
        · exact z
        · exact absurd ⟨j, hj, z⟩ q
      have key : ∀ i : Nat, i ≤ fct m → PhN (cE c S) m (dgI m (itS c S m x (2 * i) / 2)) + i ≤ PhN (cE c S) m (dgI m (x / 2)) := by
        intro i
        induction i with
        | zero => intro _; show _ + 0 ≤ _; rw [Int.add_zero]; exact Int.le_refl _
        | succ i ih =>
          intro hi
          have h1 := ih (by omega)
          have r := itS_r (c := c) (S := S) hm x0 x1 (2 * i)
          have h2 := two_steps hm hn r.1 r.2 (hz (2 * i) (by omega))
          rw [itS_add, show 2 * i + 2 = 2 * (i + 1) by omega] at h2
          omega
      have h1 := key (fct m) (Nat.le_refl _)
      have h2 := PhN_0 (cE c S) m (dgI m (itS c S m x (2 * fct m) / 2))
      have h3 := PhN_lt (c := cE c S) hm (dgI m (x / 2))
      omega
  have := gF_ex hm _ _ x0 x1 hex
  unfold Gs
  omega
end NEV
/-- two that never rest -/
theorem mu_never {c : Int → Int → Int} {S : Int} (h1 : c (elF S 0) (elF S 1) = 1) (h2 : c (elF S 1) (elF S 0) = 1) : ∀ x, 0 ≤ x → x < 4 → Gs c S 2 x = -1 := by
  have hc : ∀ n, 0 ≤ n → n < 2 → cmO c S 2 n = 0 := by
    intro n n0 n1
    have e : cmO c S 2 n = if cE c S (dgI 2 n 0) (dgI 2 n 1) = 1 then 0 else 1 := rfl
    rw [e]
    rcases (by omega : n = 0 ∨ n = 1) with q | q
    · subst q
      have a : dgI 2 0 0 = 0 := by decide
      have b : dgI 2 0 1 = 1 := by decide
      rw [a, b]
      exact if_pos h1
    · subst q
      have a : dgI 2 1 0 = 1 := by decide
      have b : dgI 2 1 1 = 0 := by decide
      rw [a, b]
      exact if_pos h2
  intro x x0 x1
  have hr := itS_r (c := c) (S := S) (m := 2) (by decide) x0 (show x < 2 * (fct 2 : Nat) from x1)
  exact gF_no (x := x) _ _ (fun j _ => hc _ (by have := (hr j).1; omega) (by have h := (hr j).2; have e : fct 2 = 2 := rfl; rw [e] at h; omega))
