/-! Where orders lead: the mathematics. -/
def cE (c : Int → Int → Int) (S : Int) : Int → Int → Int := fun a b => c (elF S a) (elF S b)
theorem cE_01 {c : Int → Int → Int} (h : ∀ x y, c x y = 0 ∨ c x y = 1) (S : Int) : ∀ x y, cE c S x y = 0 ∨ cE c S x y = 1 := fun _ _ => h _ _
theorem clN_el (c : Int → Int → Int) (S : Int) (f : Int → Int) : ∀ k : Nat, clN c (fun p => elF S (f p)) k = clN (cE c S) f k
  | 0 => rfl
  | k + 1 => by
    rw [clN, clN, clN_el c S f k]
    rfl
theorem nF_el (c : Int → Int → Int) (S n k : Int) (f : Int → Int) (p : Int) : nF c n k (fun p => elF S (f p)) p = elF S (nF (cE c S) n k f p) := by
  unfold nF nwP cE
  (repeat' split) <;> rfl
/-- whether order n is calm -/
def cmO (c : Int → Int → Int) (S : Int) (m : Nat) (n : Int) : Int := clN (cE c S) (dgI m n) (m - 1)
theorem cmO_01 (c : Int → Int → Int) (S : Int) (m : Nat) (n : Int) : cmO c S m n = 0 ∨ cmO c S m n = 1 := clN_01 _ _ _
/-- how many of the first k orders are calm -/
def cntO (c : Int → Int → Int) (S : Int) (m : Nat) : Nat → Int
  | 0 => 0
  | k + 1 => cntO c S m k + (if cmO c S m k = 1 then 1 else 0)
theorem cntO_r (c : Int → Int → Int) (S : Int) (m : Nat) : ∀ k : Nat, 0 ≤ cntO c S m k ∧ cntO c S m k ≤ k
  | 0 => ⟨Int.le_refl 0, Int.le_refl 0⟩
  | k + 1 => by
    have := cntO_r c S m k
    unfold cntO
    split <;> omega
theorem cntO_s {c : Int → Int → Int} {S : Int} {m : Nat} {k : Int} (k0 : 0 ≤ k) : cntO c S m (k + 1).toNat = cntO c S m k.toNat + (if cmO c S m k = 1 then 1 else 0) := by
  rw [show (k + 1).toNat = k.toNat + 1 by omega, cntO, show ((k.toNat : Nat) : Int) = k by omega]
/-- the i-th calm order from k on, when e were met -/
def fndO (c : Int → Int → Int) (S : Int) (m : Nat) (i : Int) : Nat → Int → Int → Int
  | 0, _, _ => -1
  | f + 1, k, e => if cmO c S m k = 1 then (if e = i then k else fndO c S m i f (k + 1) (e + 1)) else fndO c S m i f (k + 1) e
theorem fndO_s {c : Int → Int → Int} {S : Int} {m : Nat} {i k e N : Int} (k1 : k < N) : fndO c S m i (N - k).toNat k e = if cmO c S m k = 1 then (if e = i then k else fndO c S m i (N - (k + 1)).toNat (k + 1) (e + 1)) else fndO c S m i (N - (k + 1)).toNat (k + 1) e := by
  rw [show (N - k).toNat = (N - (k + 1)).toNat + 1 by omega, fndO]
def fdO (c : Int → Int → Int) (S : Int) (m : Nat) (i : Int) : Int := fndO c S m i (fct m) 0 0
theorem fndO_r {c : Int → Int → Int} {S : Int} {m : Nat} {i : Int} : ∀ (f : Nat) (k e : Int), 0 ≤ k → fndO c S m i f k e = -1 ∨ (k ≤ fndO c S m i f k e ∧ fndO c S m i f k e < k + f ∧ cmO c S m (fndO c S m i f k e) = 1)
  | 0, _, _, _ => Or.inl rfl
  | f + 1, k, e, k0 => by
    unfold fndO
    split
    · rename_i g
      split
      · exact Or.inr ⟨Int.le_refl _, by omega, g⟩
      · rcases fndO_r f (k + 1) (e + 1) (by omega) with h | h
        · exact Or.inl h
        · exact Or.inr ⟨by omega, by omega, h.2.2⟩
    · rcases fndO_r f (k + 1) e (by omega) with h | h
      · exact Or.inl h
      · exact Or.inr ⟨by omega, by omega, h.2.2⟩
theorem fndO_neg {c : Int → Int → Int} {S : Int} {m : Nat} {i : Int} (hi : i < 0) : ∀ (f : Nat) (k e : Int), 0 ≤ e → fndO c S m i f k e = -1
  | 0, _, _, _ => rfl
  | f + 1, k, e, e0 => by
    unfold fndO
    split
    · rw [if_neg (by omega)]
      exact fndO_neg hi f (k + 1) (e + 1) (by omega)
    · exact fndO_neg hi f (k + 1) e e0
/-- a night from one state (an order, an even or odd night) to the next -/
def nxS (c : Int → Int → Int) (S : Int) (m : Nat) (x : Int) : Int := 2 * rkI m (nF (cE c S) m (x % 2) (dgI m (x / 2))) + (1 - x % 2)
def itS (c : Int → Int → Int) (S : Int) (m : Nat) (x : Int) : Nat → Int
  | 0 => x
  | j + 1 => nxS c S m (itS c S m x j)
def gF (c : Int → Int → Int) (S : Int) (m : Nat) : Nat → Int → Int
  | 0, _ => -1
  | f + 1, x => if cmO c S m (x / 2) = 1 then x / 2 else gF c S m f (nxS c S m x)
def Gs (c : Int → Int → Int) (S : Int) (m : Nat) (x : Int) : Int := gF c S m (2 * fct m + 1) x
section WLK
variable {c : Int → Int → Int} {S : Int} {m : Nat}
theorem nxS_r (hm : m < 7) {x : Int} (x0 : 0 ≤ x) (x1 : x < 2 * fct m) : 0 ≤ nxS c S m x ∧ nxS c S m x < 2 * fct m := by
  have hd := dg_ok hm (n := x / 2) (by omega) (by omega)
  have h := (rk_ok hm (f := nF (cE c S) m (x % 2) (dgI m (x / 2))) (nF_all (P := fun v => 0 ≤ v ∧ v < (m : Int)) hd.1 (by omega)) (hd.2.1.nF (by omega))).1
  unfold nxS
  omega
theorem itS_r (hm : m < 7) {x : Int} (x0 : 0 ≤ x) (x1 : x < 2 * fct m) : ∀ j : Nat, 0 ≤ itS c S m x j ∧ itS c S m x j < 2 * fct m
  | 0 => ⟨x0, x1⟩
  | j + 1 => nxS_r hm (itS_r hm x0 x1 j).1 (itS_r hm x0 x1 j).2
theorem itS_s (x : Int) : ∀ j : Nat, itS c S m (nxS c S m x) j = itS c S m x (j + 1)
  | 0 => rfl
  | j + 1 => by rw [itS, itS_s x j]; rfl
theorem itS_sh {x : Int} {a b : Nat} (h : itS c S m x a = itS c S m x b) : ∀ j : Nat, itS c S m x (a + j) = itS c S m x (b + j)
  | 0 => h
  | j + 1 => by
    show nxS c S m (itS c S m x (a + j)) = nxS c S m (itS c S m x (b + j))
    rw [itS_sh h j]
theorem gF_no {x : Int} : ∀ (f : Nat) (x : Int), (∀ j, j < f → cmO c S m (itS c S m x j / 2) = 0) → gF c S m f x = -1
  | 0, _, _ => rfl
  | f + 1, x, h => by
    have h0 := h 0 (by omega)
    have h0 : cmO c S m (x / 2) = 0 := h0
    unfold gF
    rw [if_neg (by omega)]
    exact gF_no (x := x) f _ (fun j hj => by rw [itS_s]; exact h (j + 1) (by omega))
theorem gF_fuel : ∀ (f : Nat) (x : Int), (∃ j, j < f ∧ cmO c S m (itS c S m x j / 2) = 1) → gF c S m (f + 1) x = gF c S m f x
  | 0, _, ⟨_, h, _⟩ => absurd h (by omega)
  | f + 1, x, ⟨j, hj, e⟩ => by
    rw [gF]
    conv => rhs; rw [gF]
    by_cases g : cmO c S m (x / 2) = 1
    · rw [if_pos g, if_pos g]
    · rw [if_neg g, if_neg g]
      refine gF_fuel f _ ?_
      rcases Nat.eq_zero_or_pos j with z | z
      · subst z; exact absurd e g
      · exact ⟨j - 1, by omega, by rw [itS_s, show j - 1 + 1 = j by omega]; exact e⟩
/-- calm at all comes within as many nights as there are states -/
theorem calm_low (hm : m < 7) {x : Int} (x0 : 0 ≤ x) (x1 : x < 2 * fct m) (h : cmO c S m (itS c S m x (2 * fct m) / 2) = 1) : ∃ j, j < 2 * fct m ∧ cmO c S m (itS c S m x j / 2) = 1 := by
  rcases Classical.em (∃ i j, i < j ∧ j ≤ 2 * fct m ∧ itS c S m x i = itS c S m x j) with q | q
  · obtain ⟨i, j, hij, hj, e⟩ := q
    have := itS_sh e (2 * fct m - j)
    rw [show j + (2 * fct m - j) = 2 * fct m by omega] at this
    exact ⟨i + (2 * fct m - j), by omega, by rw [this]; exact h⟩
  · exfalso
    have := pigeon (2 * fct m) (2 * fct m + 1) (fun j => itS c S m x j) (fun j _ => by have := itS_r (c := c) (S := S) hm x0 x1 j; omega) (fun i j hij hj e => q ⟨i, j, hij, by omega, e⟩)
    omega
theorem Gs_calm {x : Int} (h : cmO c S m (x / 2) = 1) : Gs c S m x = x / 2 := by
  unfold Gs gF
  rw [if_pos h]
theorem Gs_step (hm : m < 7) {x : Int} (x0 : 0 ≤ x) (x1 : x < 2 * fct m) (h : cmO c S m (x / 2) = 0) : Gs c S m x = Gs c S m (nxS c S m x) := by
  have hn := nxS_r (c := c) (S := S) hm x0 x1
  have e : Gs c S m x = gF c S m (2 * fct m) (nxS c S m x) := by
    unfold Gs
    rw [gF, if_neg (by omega)]
  rw [e]
  unfold Gs
  rcases Classical.em (∃ j, j < 2 * fct m ∧ cmO c S m (itS c S m (nxS c S m x) j / 2) = 1) with q | q
  · exact (gF_fuel _ _ q).symm
  · have hz : ∀ j, j < 2 * fct m → cmO c S m (itS c S m (nxS c S m x) j / 2) = 0 := fun j hj => by
      rcases cmO_01 c S m (itS c S m (nxS c S m x) j / 2) with z | z
      · exact z
      · exact absurd ⟨j, hj, z⟩ q
    rw [gF_no (x := x) _ _ hz, gF_no (x := x) _ _ (fun j hj => by
      rcases Nat.lt_or_ge j (2 * fct m) with z | z
      · exact hz j z
      · rw [show j = 2 * fct m by omega]
        rcases cmO_01 c S m (itS c S m (nxS c S m x) (2 * fct m) / 2) with y | y
        · exact y
        · exact absurd (calm_low hm hn.1 hn.2 y) q)]
theorem Gs_it (hm : m < 7) {x : Int} (x0 : 0 ≤ x) (x1 : x < 2 * fct m) : ∀ j : Nat, (∀ i, i < j → cmO c S m (itS c S m x i / 2) = 0) → Gs c S m (itS c S m x j) = Gs c S m x
  | 0, _ => rfl
  | j + 1, h => by
    have r := itS_r (c := c) (S := S) hm x0 x1 j
    show Gs c S m (nxS c S m (itS c S m x j)) = _
    rw [← Gs_step hm r.1 r.2 (h j (by omega)), Gs_it hm x0 x1 j (fun i hi => h i (by omega))]
theorem Gs_cyc {x : Int} {w j : Nat} (hj : j < w) (h : ∀ i, i < w → cmO c S m (itS c S m x i / 2) = 0) (e : itS c S m x w = itS c S m x j) : Gs c S m x = -1 := by
  have all : ∀ n, cmO c S m (itS c S m x n / 2) = 0 := by
    intro n
    induction n using Nat.strongRecOn with
    | ind n ih =>
      rcases Nat.lt_or_ge n w with z | z
      · exact h n z
      · have := itS_sh e (n - w)
        rw [show w + (n - w) = n by omega] at this
        rw [this]
        exact ih _ (by omega)
  exact gF_no (x := x) _ _ (fun j _ => all j)
/-- the class's marks: unknown, or where it leads -/
def GI (c : Int → Int → Int) (S : Int) (m : Nat) (go : Int → Int) : Prop := ∀ x : Int, 0 ≤ x → x < 2 * fct m → go x = -2 ∨ go x = Gs c S m x
/-- on the walk -/
def WkA (c : Int → Int → Int) (S : Int) (m : Nat) (go pa : Int → Int) (x : Int) (w : Nat) (y : Int) : Prop :=
  (∀ j : Nat, j < w → pa j = itS c S m x j ∧ cmO c S m (itS c S m x j / 2) = 0 ∧ go (itS c S m x j) = -3) ∧ y = itS c S m x w ∧ (∀ i j : Nat, i < j → j < w → itS c S m x i ≠ itS c S m x j) ∧ ∀ z : Int, 0 ≤ z → z < 2 * fct m → (∀ j : Nat, j < w → z ≠ itS c S m x j) → go z = -2 ∨ go z = Gs c S m z
/-- the walk's end at a calm order -/
def WkB (c : Int → Int → Int) (S : Int) (m : Nat) (go pa : Int → Int) (x : Int) (w : Nat) (y : Int) : Prop :=
  ∃ v : Nat, w = v + 1 ∧ y = itS c S m x v ∧ cmO c S m (y / 2) = 1 ∧ go y = y / 2 ∧ (∀ j : Nat, j < w → pa j = itS c S m x j) ∧ (∀ j : Nat, j < v → cmO c S m (itS c S m x j / 2) = 0) ∧ ∀ z : Int, 0 ≤ z → z < 2 * fct m → (∀ j : Nat, j < w → z ≠ itS c S m x j) → go z = -2 ∨ go z = Gs c S m z
theorem WkA.lt (hm : m < 7) {go pa : Int → Int} {x y : Int} {w : Nat} (x0 : 0 ≤ x) (x1 : x < 2 * fct m) (h : WkA c S m go pa x w y) (hy : go y = -2) : w < 2 * fct m := by
  have r := itS_r (c := c) (S := S) hm x0 x1
  have := pigeon (2 * fct m) (w + 1) (fun j => itS c S m x j) (fun j _ => by have := r j; omega) (fun i j hij hj e => by
    rcases Nat.lt_or_ge j w with z | z
    · exact h.2.2.1 i j hij z e
    · have e2 : j = w := by omega
      subst e2
      have := (h.1 i hij).2.2
      rw [h.2.1, ← e, this] at hy
      exact absurd hy (by decide))
  omega
/-- what is told behind the walk -/
theorem Wk_end (hm : m < 7) {go pa : Int → Int} {x y : Int} {w : Nat} (x0 : 0 ≤ x) (x1 : x < 2 * fct m) (h : WkA c S m go pa x w y ∨ WkB c S m go pa x w y) (hy : go y ≠ -2) : ((go y = -3 → Gs c S m x = -1) ∧ (go y ≠ -3 → go y = Gs c S m x)) ∧ (∀ j : Nat, j < w → pa j = itS c S m x j ∧ Gs c S m (itS c S m x j) = Gs c S m x) ∧ ∀ z : Int, 0 ≤ z → z < 2 * fct m → (∀ j : Nat, j < w → z ≠ itS c S m x j) → go z = -2 ∨ go z = Gs c S m z := by
  have r := itS_r (c := c) (S := S) hm x0 x1
  rcases h with h | ⟨v, rfl, h2, h3, h4, h5, h6, h7⟩
  · obtain ⟨h1, h2, h3, h4⟩ := h
    refine ⟨?_, fun j hj => ⟨(h1 j hj).1, Gs_it hm x0 x1 j (fun i hi => (h1 i (by omega)).2.1)⟩, h4⟩
    rcases Classical.em (∃ j : Nat, j < w ∧ y = itS c S m x j) with q | q
    · obtain ⟨j, hj, e⟩ := q
      have g3 := (h1 j hj).2.2
      refine ⟨fun _ => Gs_cyc hj (fun i hi => (h1 i hi).2.1) (by rw [← h2]; exact e), fun z => absurd (by rw [e]; exact g3) z⟩
    · have g := h4 y (by rw [h2]; exact (r w).1) (by rw [h2]; exact (r w).2) (fun j hj e => q ⟨j, hj, e⟩)
      have e1 : go y = Gs c S m x := by
        rcases g with g | g
        · exact absurd g hy
        · rw [g, h2, Gs_it hm x0 x1 w (fun i hi => (h1 i hi).2.1)]
      have hr : -1 ≤ Gs c S m x := by
        rcases Classical.em (∃ j, j < 2 * fct m + 1 ∧ cmO c S m (itS c S m x j / 2) = 1) with z | z
        · have key : ∀ (f : Nat) (x : Int), 0 ≤ x → x < 2 * fct m → -1 ≤ gF c S m f x := by
            intro f
            induction f with
            | zero => intro x _ _; exact Int.le_refl _
            | succ f ih =>
              intro x a b
              unfold gF
              split
              · omega
              · have := nxS_r (c := c) (S := S) hm a b
                exact ih _ this.1 this.2
          exact key _ x x0 x1
        · have : Gs c S m x = -1 := gF_no (x := x) _ _ (fun j hj => by
            rcases cmO_01 c S m (itS c S m x j / 2) with y | y
            · exact y
            · exact absurd ⟨j, hj, y⟩ z)
          omega
      exact ⟨fun z => by omega, fun _ => e1⟩
  · have e1 : go y = Gs c S m x := by
      rw [h4, ← Gs_calm h3, h2, Gs_it hm x0 x1 v h6]
    have hy0 := (r v).1
    refine ⟨⟨fun z => by rw [h4, h2] at z; omega, fun _ => e1⟩, fun j hj => ⟨h5 j hj, ?_⟩, h7⟩
    rcases (by omega : j < v ∨ j = v) with z | z
    · exact Gs_it hm x0 x1 j (fun i hi => h6 i (by omega))
    · rw [z]
      exact Gs_it hm x0 x1 v h6
end WLK
