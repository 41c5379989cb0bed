/-! The typing of what is read. -/
def okY (so v n k : Int) : Prop := okO (mop v) (mvl v) n k ∧ (mop v = 1 → okNm so (mvl v)) ∧ encC (mop v) (mvl v) = v
def cRn (c : Int → Int) (i n k : Int) : Nat → Int × Int
  | 0 => (n, k)
  | m + 1 => (cN1 (mop (c (i + m))) (cRn c i n k m).1, cK1 (mop (c (i + m))) (cRn c i n k m).2)
def TYP (so : Int) (c : Int → Int) (i : Int) (m : Nat) (n k n' k' : Int) : Prop := (∀ j : Nat, j < m → okY so (c (i + j)) (cRn c i n k j).1 (cRn c i n k j).2) ∧ cRn c i n k m = (n', k')
theorem cRn_cg {c c' : Int → Int} {i n k : Int} : ∀ {m : Nat}, (∀ j : Nat, j < m → c (i + j) = c' (i + j)) → cRn c i n k m = cRn c' i n k m
  | 0, _ => rfl
  | m + 1, h => by
    rw [cRn, cRn, h m (by omega), cRn_cg (fun j hj => h j (by omega))]
theorem TYP.cg {so : Int} {c c' : Int → Int} {i n k n' k' : Int} {m : Nat} (h : TYP so c i m n k n' k') (e : ∀ j, i ≤ j → j < i + m → c' j = c j) : TYP so c' i m n k n' k' := by
  refine ⟨fun j hj => ?_, ?_⟩
  · rw [e (i + (j : Int)) (by omega) (by omega), cRn_cg (c := c') (c' := c) (fun q hq => e (i + (q : Int)) (by omega) (by omega))]
    exact h.1 j hj
  · rw [cRn_cg (c := c') (c' := c) (fun q hq => e (i + (q : Int)) (by omega) (by omega))]
    exact h.2
theorem cRn_ap {c : Int → Int} {i n k n1 k1 : Int} {m : Nat} (h : cRn c i n k m = (n1, k1)) : ∀ q : Nat, cRn c i n k (m + q) = cRn c (i + m) n1 k1 q
  | 0 => h
  | q + 1 => by
    show (cN1 (mop (c (i + ((m + q : Nat) : Int)))) (cRn c i n k (m + q)).1, cK1 (mop (c (i + ((m + q : Nat) : Int)))) (cRn c i n k (m + q)).2) = (cN1 (mop (c (i + m + q))) (cRn c (i + m) n1 k1 q).1, cK1 (mop (c (i + m + q))) (cRn c (i + m) n1 k1 q).2)
    rw [cRn_ap h q, show i + ((m + q : Nat) : Int) = i + m + q by omega]
theorem TYP.ap {so : Int} {c : Int → Int} {i n k n1 k1 n2 k2 : Int} {m q : Nat} (h : TYP so c i m n k n1 k1) (g : TYP so c (i + m) q n1 k1 n2 k2) : TYP so c i (m + q) n k n2 k2 := by
  refine ⟨fun j hj => ?_, by rw [cRn_ap h.2]; exact g.2⟩
  by_cases hm : j < m
  · exact h.1 j hm
  · obtain ⟨p, rfl⟩ : ∃ p, j = m + p := ⟨j - m, by omega⟩
    rw [cRn_ap h.2, show i + ((m + p : Nat) : Int) = i + m + p by omega]
    exact g.1 p (by omega)
theorem TYP.nil {so : Int} {c : Int → Int} {i n k : Int} : TYP so c i 0 n k n k := ⟨fun j hj => absurd hj (by omega), rfl⟩
theorem TYP.one {so : Int} {c : Int → Int} {i n k n' k' : Int} (h : okY so (c i) n k) (e : cN1 (mop (c i)) n = n') (e2 : cK1 (mop (c i)) k = k') : TYP so c i 1 n k n' k' := by
  refine ⟨fun j hj => ?_, ?_⟩
  · obtain rfl : j = 0 := by omega
    rw [show i + ((0 : Nat) : Int) = i by omega]
    exact h
  · show (cN1 (mop (c (i + ((0 : Nat) : Int)))) n, cK1 (mop (c (i + ((0 : Nat) : Int)))) k) = _
    rw [show i + ((0 : Nat) : Int) = i by omega, e, e2]
/-- from z to y the codes are typed -/
def TPz (so : Int) (z y : rpS) (n k n' k' : Int) : Prop := (∀ j, j < z.2.2 → y.2.1 j = z.2.1 j) ∧ ∃ m : Nat, y.2.2 = z.2.2 + m ∧ TYP so y.2.1 z.2.2 m n k n' k'
theorem TPz.tr {so : Int} {z y x : rpS} {n k n1 k1 n2 k2 : Int} (h : TPz so z y n k n1 k1) (g : TPz so y x n1 k1 n2 k2) : TPz so z x n k n2 k2 := by
  obtain ⟨h1, m, h2, h3⟩ := h
  obtain ⟨g1, q, g2, g3⟩ := g
  refine ⟨fun j hj => (g1 j (by omega)).trans (h1 j hj), m + q, by omega, ?_⟩
  refine (h3.cg (fun j j0 j1 => g1 j (by omega))).ap ?_
  rw [← h2]
  exact g3
theorem TPz.nx {so : Int} {z y : rpS} {n k n1 k1 : Int} (h : TPz so z y n k n1 k1) : TPz so z (rpNx y) n k n1 k1 := h
theorem TPz.of_nx {so : Int} {z y : rpS} {n k n1 k1 : Int} (h : TPz so (rpNx z) y n k n1 k1) : TPz so z y n k n1 k1 := h
theorem TPz.rf {so : Int} {z : rpS} {n k : Int} : TPz so z z n k n k := ⟨fun _ _ => rfl, 0, by omega, TYP.nil⟩
theorem TPz.put {so : Int} {z : rpS} {v n k n' k' : Int} (h : okY so v n k) (e : cN1 (mop v) n = n') (e2 : cK1 (mop v) k = k') : TPz so z (rpPut v z) n k n' k' := by
  have p : (rpPut v z).2.1 z.2.2 = v := if_pos rfl
  refine ⟨fun j hj => ?_, 1, rfl, TYP.one (by rw [p]; exact h) (by rw [p]; exact e) (by rw [p]; exact e2)⟩
  show (if j = z.2.2 then v else z.2.1 j) = z.2.1 j
  rw [if_neg (by omega)]
theorem okY_num {so v n k : Int} (h : 0 ≤ v ∧ v ≤ 9999) (hn : n < 40) : okY so v n k ∧ cN1 (mop v) n = n + 1 ∧ cK1 (mop v) k = k := by
  have m0 : mop v = 0 := if_pos (by omega)
  have v0 : mvl v = v := if_pos (by omega)
  unfold okY
  rw [m0, v0]
  exact ⟨⟨Or.inl ⟨rfl, h.1, h.2, hn⟩, fun e => absurd e (by decide), rfl⟩, if_pos (by decide), if_pos (by decide)⟩
theorem okY_nam {so v n k : Int} (h : 0 ≤ v ∧ v < 15) (hr : rpHr (15 + so) v = true) (hn : n < 40) : okY so (10000 + v) n k ∧ cN1 (mop (10000 + v)) n = n + 1 ∧ cK1 (mop (10000 + v)) k = k := by
  have m0 : mop (10000 + v) = 1 := by unfold mop; rw [if_neg (by omega), if_pos (by omega)]
  have v0 : mvl (10000 + v) = v := by unfold mvl; rw [if_neg (by omega), if_pos (by omega)]; omega
  unfold okY
  rw [m0, v0]
  refine ⟨⟨Or.inr (Or.inl ⟨rfl, h.1, h.2, hn⟩), fun _ => ?_, rfl⟩, if_pos (by decide), if_pos (by decide)⟩
  unfold rpHr at hr
  unfold okNm
  split at hr
  · have := of_decide_eq_true hr; omega
  · have := of_decide_eq_true hr; omega
theorem okY_neg {so n k : Int} (hn : 1 ≤ n) : okY so 10045 n k ∧ cN1 (mop 10045) n = n ∧ cK1 (mop 10045) k = k := ⟨⟨Or.inr (Or.inr (Or.inl ⟨rfl, hn⟩)), fun e => absurd e (by decide), rfl⟩, rfl, rfl⟩
theorem okY_op {so q n k : Int} (hq : 33 ≤ q ∧ q ≤ 36) (hn : 2 ≤ n) : okY so (10000 + q) n k ∧ cN1 (mop (10000 + q)) n = n - 1 ∧ cK1 (mop (10000 + q)) k = k := by
  rcases (by omega : q = 33 ∨ q = 34 ∨ q = 35 ∨ q = 36) with e | e | e | e <;> subst e <;> exact ⟨⟨Or.inr (Or.inr (Or.inr (Or.inl ⟨by decide, by decide, hn⟩))), fun e => absurd e (by decide), rfl⟩, rfl, rfl⟩
theorem okY_cmp {so q k : Int} (hq : rpIs q = true) (hk : k < 12) : okY so (10000 + q) 2 k ∧ cN1 (mop (10000 + q)) 2 = 0 ∧ cK1 (mop (10000 + q)) k = k + 1 := by
  have hq := rpIs_iff.mp hq
  rcases (by omega : q = 29 ∨ q = 30 ∨ q = 31 ∨ q = 32 ∨ q = 40 ∨ q = 41) with e | e | e | e | e | e <;> subst e <;> exact ⟨⟨Or.inr (Or.inr (Or.inr (Or.inr (Or.inl ⟨by decide, by decide, rfl, hk⟩)))), fun e => absurd e (by decide), rfl⟩, rfl, rfl⟩
theorem okY_not {so k : Int} (hk : 1 ≤ k) : okY so 10028 0 k ∧ cN1 (mop 10028) 0 = 0 ∧ cK1 (mop 10028) k = k := ⟨⟨Or.inr (Or.inr (Or.inr (Or.inr (Or.inr (Or.inl ⟨rfl, rfl, hk⟩))))), fun e => absurd e (by decide), rfl⟩, rfl, rfl⟩
theorem okY_and {so k : Int} (hk : 2 ≤ k) : okY so 10027 0 k ∧ cN1 (mop 10027) 0 = 0 ∧ cK1 (mop 10027) k = k - 1 := ⟨⟨Or.inr (Or.inr (Or.inr (Or.inr (Or.inr (Or.inr ⟨by decide, by decide, rfl, hk⟩))))), fun e => absurd e (by decide), rfl⟩, rfl, rfl⟩
theorem okY_or {so k : Int} (hk : 2 ≤ k) : okY so 10026 0 k ∧ cN1 (mop 10026) 0 = 0 ∧ cK1 (mop 10026) k = k - 1 := ⟨⟨Or.inr (Or.inr (Or.inr (Or.inr (Or.inr (Or.inr ⟨by decide, by decide, rfl, hk⟩))))), fun e => absurd e (by decide), rfl⟩, rfl, rfl⟩
/-- a reader that leaves one value more -/
def TO (so hb : Int) (one : rpS → rpR) : Prop := ∀ z y, one z = (0, y) → ∀ n k, 0 ≤ n → n + hb ≤ 40 → TPz so z y n k (n + 1) k
section TY
variable {so hb : Int} {k nm : Int → Int} {one : rpS → rpR}
theorem ty_Fac (ho : TO so hb one) {n q : Int} (hn : 0 ≤ n) (hb2 : n + 1 + hb ≤ 40) : ∀ (m : Nat) (x y : rpS), rpFac k one m x = (0, y) → TPz so x y (n + 1) q (n + 1) q
  | 0, x, y, h => by cases h
  | m + 1, x, y, h => by
    unfold rpFac at h
    split at h
    · rename_i g
      obtain ⟨u, h1, h2⟩ := rpB_0 h
      have a1 := (ho _ _ h1 (n + 1) q (by omega) (by omega)).of_nx
      obtain ⟨b1, b2, b3⟩ := okY_op (so := so) (q := k x.1) (n := n + 1 + 1) (k := q) (by omega) (by omega)
      exact (a1.tr (TPz.put b1 (b2.trans (by omega : n + 1 + 1 - 1 = n + 1)) b3)).tr (ty_Fac ho hn hb2 m _ _ h2)
    · cases h; exact TPz.rf
theorem ty_Prd (ho : TO so hb one) : TO so (hb + 1) (rpPrd k one) := fun z y h n q hn hh => by
  obtain ⟨u, h1, h2⟩ := rpB_0 h
  exact (ho _ _ h1 n q hn (by omega)).tr (ty_Fac ho hn (by omega) _ _ _ h2)
theorem ty_Add (ho : TO so hb one) {n q : Int} (hn : 0 ≤ n) (hb2 : n + 2 + hb ≤ 40) : ∀ (m : Nat) (x y : rpS), rpAdd k one m x = (0, y) → TPz so x y (n + 1) q (n + 1) q
  | 0, x, y, h => by cases h
  | m + 1, x, y, h => by
    unfold rpAdd at h
    split at h
    · rename_i g
      obtain ⟨u, h1, h2⟩ := rpB_0 h
      have a1 := (ty_Prd ho _ _ h1 (n + 1) q (by omega) (by omega)).of_nx
      obtain ⟨b1, b2, b3⟩ := okY_op (so := so) (q := k x.1) (n := n + 1 + 1) (k := q) (by omega) (by omega)
      exact (a1.tr (TPz.put b1 (b2.trans (by omega : n + 1 + 1 - 1 = n + 1)) b3)).tr (ty_Add ho hn hb2 m _ _ h2)
    · cases h; exact TPz.rf
theorem ty_Sum (ho : TO so hb one) : TO so (hb + 2) (rpSum k one) := fun z y h n q hn hh => by
  obtain ⟨u, h1, h2⟩ := rpB_0 h
  exact (ty_Prd ho _ _ h1 n q hn (by omega)).tr (ty_Add ho hn (by omega) _ _ _ h2)
theorem ty_One (hk0 : ∀ a, 0 ≤ k a) (hnm : ∀ a, k a = 42 → 0 ≤ nm a) : ∀ m : Nat, TO so (1 + 2 * m) (rpOne k nm (15 + so) m)
  | 0, z, y, h, n, q, hn, hh => by
    unfold rpOne at h
    split at h
    · rename_i g
      split at h
      · cases h
      · cases h
        obtain ⟨b1, b2, b3⟩ := okY_num (so := so) (v := nm z.1) (n := n) (k := q) ⟨hnm _ g, by omega⟩ (by omega)
        exact TPz.put (z := rpNx z) b1 b2 b3
    · split at h
      · rename_i g
        split at h
        · rename_i g2
          cases h
          obtain ⟨b1, b2, b3⟩ := okY_nam (so := so) (v := k z.1) (n := n) (k := q) ⟨hk0 _, g⟩ g2 (by omega)
          exact TPz.put (z := rpNx z) b1 b2 b3
        · cases h
      · split at h <;> cases h
  | m + 1, z, y, h, n, q, hn, hh => by
    have ih := ty_One hk0 hnm m
    unfold rpOne at h
    split at h
    · rename_i g
      split at h
      · cases h
      · cases h
        obtain ⟨b1, b2, b3⟩ := okY_num (so := so) (v := nm z.1) (n := n) (k := q) ⟨hnm _ g, by omega⟩ (by omega)
        exact TPz.put (z := rpNx z) b1 b2 b3
    · split at h
      · rename_i g
        split at h
        · rename_i g2
          cases h
          obtain ⟨b1, b2, b3⟩ := okY_nam (so := so) (v := k z.1) (n := n) (k := q) ⟨hk0 _, g⟩ g2 (by omega)
          exact TPz.put (z := rpNx z) b1 b2 b3
        · cases h
      · split at h
        · obtain ⟨u, h1, h2⟩ := rpB_0 h
          split at h2
          · cases h2
            exact ((ty_Sum ih _ _ h1 n q hn (by omega)).of_nx).nx
          · cases h2
        · split at h
          · obtain ⟨u, h1, h2⟩ := rpB_0 h
            cases h2
            obtain ⟨b1, b2, b3⟩ := okY_neg (so := so) (n := n + 1) (k := q) (by omega)
            exact ((ih _ _ h1 n q hn (by omega)).of_nx).tr (TPz.put b1 b2 b3)
          · cases h
theorem ty_Cmp (hk0 : ∀ a, 0 ≤ k a) (hnm : ∀ a, k a = 42 → 0 ≤ nm a) {m : Nat} (hm : m ≤ 8) {z y : rpS} (h : rpCmp k (rpOne k nm (15 + so) m) z = (0, y)) {q : Int} (hq : q < 12) : TPz so z y 0 q 0 (q + 1) := by
  obtain ⟨u, h1, h2⟩ := rpB_0 h
  have hS := ty_Sum (k := k) (ty_One (so := so) hk0 hnm m)
  split at h2
  · rename_i g
    obtain ⟨x, h3, h4⟩ := rpB_0 h2
    cases h4
    have a1 := hS _ _ h1 0 q (by omega) (by omega)
    have a2 := (hS _ _ h3 1 q (by omega) (by omega)).of_nx
    obtain ⟨b1, b2, b3⟩ := okY_cmp (so := so) (k := q) g hq
    exact (a1.tr a2).tr (TPz.put b1 b2 b3)
  · cases h2
theorem ty_Ask (hk0 : ∀ a, 0 ≤ k a) (hnm : ∀ a, k a = 42 → 0 ≤ nm a) {q : Int} (hq0 : 0 ≤ q) (hq : q < 12) : ∀ (m : Nat) (z y : rpS), m ≤ 8 → rpAsk k nm (15 + so) m z = (0, y) → TPz so z y 0 q 0 (q + 1)
  | 0, z, y, hm, h => by
    unfold rpAsk at h
    split at h
    · cases h
    · exact ty_Cmp hk0 hnm hm h hq
  | m + 1, z, y, hm, h => by
    unfold rpAsk at h
    split at h
    · obtain ⟨u, h1, h2⟩ := rpB_0 h
      cases h2
      obtain ⟨b1, b2, b3⟩ := okY_not (so := so) (k := q + 1) (by omega)
      exact ((ty_Ask hk0 hnm hq0 hq m _ _ (by omega) h1).of_nx).tr (TPz.put b1 b2 b3)
    · exact ty_Cmp hk0 hnm hm h hq
theorem ty_Ei (hk0 : ∀ a, 0 ≤ k a) (hnm : ∀ a, k a = 42 → 0 ≤ nm a) : ∀ (n : Nat) (an oo : Bool) (z y : rpS), rpEi k nm (15 + so) n an oo z = (0, y) → TPz so z y 0 (bI (an = true) + bI (oo = true)) 0 1
  | 0, an, oo, z, y, h => by cases h
  | n + 1, an, oo, z, y, h => by
    rw [rpEi_s] at h
    obtain ⟨u, h1, h2⟩ := rpB_0 h
    have e1 : bI (true = true) = 1 := bI_t rfl
    have e0 : bI (false = true) = 0 := bI_f (by decide)
    have ha := bI_01 (an = true)
    have hb := bI_01 (oo = true)
    have a1 := ty_Ask (so := so) hk0 hnm (q := bI (an = true) + bI (oo = true)) (by omega) (by omega) 8 _ _ (by decide) h1
    have a2 : TPz so z (if an = true then rpPut 10027 u else u) 0 (bI (an = true) + bI (oo = true)) 0 (bI (oo = true) + 1) := by
      cases an with
      | true =>
        rw [if_pos rfl]
        obtain ⟨b1, b2, b3⟩ := okY_and (so := so) (k := bI (true = true) + bI (oo = true) + 1) (by omega)
        exact a1.tr (TPz.put b1 b2 (b3.trans (by omega)))
      | false =>
        rw [if_neg (by decide)]
        rw [e0] at a1 ⊢
        rw [show (0 : Int) + bI (oo = true) = bI (oo = true) by omega] at a1 ⊢
        exact a1
    have h2 : rpEf k nm (15 + so) n oo (if an = true then rpPut 10027 u else u) = (0, y) := h2
    obtain ⟨x, hx⟩ : ∃ x, x = (if an = true then rpPut 10027 u else u) := ⟨_, rfl⟩
    rw [← hx] at a2 h2
    have a3 : TPz so z (if oo = true then rpPut 10026 x else x) 0 (bI (an = true) + bI (oo = true)) 0 1 := by
      cases oo with
      | true =>
        rw [if_pos rfl]
        obtain ⟨b1, b2, b3⟩ := okY_or (so := so) (k := bI (true = true) + 1) (by omega)
        exact a2.tr (TPz.put b1 b2 (b3.trans (by omega)))
      | false =>
        rw [if_neg (by decide)]
        rw [e0] at a2 ⊢
        exact a2
    unfold rpEf at h2
    split at h2
    · have a4 := ty_Ei hk0 hnm n _ _ _ _ h2
      rw [e1, show (1 : Int) + bI (oo = true) = bI (oo = true) + 1 by omega] at a4
      exact a2.tr a4.of_nx
    · split at h2
      · have a4 := ty_Ei hk0 hnm n _ _ _ _ h2
        rw [e0, e1] at a4
        exact a3.tr a4.of_nx
      · cases h2
        exact a3
end TY
