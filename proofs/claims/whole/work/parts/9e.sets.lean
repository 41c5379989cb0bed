/-! Orders of a set of books. -/
theorem elF_mono {S : Int} {m : Nat} (hm : (blN S.toNat 10).length = m) {a b : Int} (a0 : 0 ≤ a) (ab : a < b) (b1 : b < m) : elF S a < elF S b := by
  unfold elF
  have := bl_mono (S := S.toNat) (n := 10) (p := a.toNat) (q := b.toNat) (by omega) (by omega)
  omega
theorem elF_r {S : Int} {m : Nat} (hm : (blN S.toNat 10).length = m) {a : Int} (a0 : 0 ≤ a) (a1 : a < m) : 0 ≤ elF S a ∧ elF S a < 10 := by
  unfold elF
  have := (bl_mem (S := S.toNat) (n := 10) (p := a.toNat) (by omega)).1
  omega
theorem elF_bit {S : Int} {m : Nat} (h0 : 0 ≤ S) (hm : (blN S.toNat 10).length = m) {a : Int} (a0 : 0 ≤ a) (a1 : a < m) : S / 2 ^ (elF S a).toNat % 2 = 1 := by
  have h := (bl_mem (S := S.toNat) (n := 10) (p := a.toNat) (by omega)).2
  have e : (elF S a).toNat = (blN S.toNat 10).getD a.toNat 0 := by
    unfold elF
    rw [Int.toNat_natCast]
  rw [e, show S = ((S.toNat : Nat) : Int) by omega, p2c, dvc, Int.toNat_natCast]
  exact_mod_cast h
/-- the books of a list of places of the set -/
def mpL (S : Int) (l : List Nat) : List Nat := l.map (fun e => (blN S.toNat 10).getD e 0)
theorem unU_lt {m u : Nat} : ∀ e ∈ unU m u, e < m := by
  intro e he
  unfold unU at he
  exact List.mem_range.mp (List.mem_filter.mp he).1
theorem mpL_filter {S : Int} {m : Nat} (hm : (blN S.toNat 10).length = m) {l : List Nat} (hl : ∀ e ∈ l, e < m) (P Q : Nat → Bool) (h : ∀ e, e < m → P ((blN S.toNat 10).getD e 0) = Q e) : (mpL S l).filter P = mpL S (l.filter Q) := by
  unfold mpL
  induction l with
  | nil => rfl
  | cons x l ih =>
    have hx := h x (hl x (List.mem_cons_self ..))
    have ih := ih (fun e he => hl e (List.mem_cons_of_mem _ he))
    rw [List.map_cons]
    by_cases c : Q x = true
    · rw [List.filter_cons_of_pos (by rw [hx]; exact c), List.filter_cons_of_pos c, List.map_cons, ih]
    · rw [List.filter_cons_of_neg (by rw [hx]; exact c), List.filter_cons_of_neg c, ih]
/-- what is left of the set behind p places -/
def lfS (S : Int) (f : Int → Int) : Nat → Int
  | 0 => S
  | p + 1 => lfS S f p - andI (lfS S f p) (1 * 2 ^ (elF S (f p)).toNat)
def usM (f : Int → Int) : Nat → Nat
  | 0 => 0
  | p + 1 => usM f p ||| 2 ^ (f p).toNat
theorem usM_lt {m : Nat} (hm : m < 7) {f : Int → Int} (hr : ∀ p, 0 ≤ p → p < (m : Int) → 0 ≤ f p ∧ f p < m) : ∀ p : Nat, p ≤ m → usM f p < 64
  | 0, _ => (by decide : 0 < 64)
  | p + 1, h => by
    have ih := usM_lt hm hr p (by omega)
    have g := hr p (by omega) (by omega)
    rw [usM]
    exact Nat.or_lt_two_pow (n := 6) (by omega) (Nat.pow_lt_pow_right (by decide) (by omega))
theorem andI_1 {x : Int} {b : Nat} (h : 0 ≤ x) : andI x (1 * 2 ^ b) = ((x.toNat &&& 2 ^ b : Nat) : Int) := by
  unfold andI
  rw [Int.one_mul, p2c, Int.toNat_natCast]
theorem andI_2 {x : Int} {b : Nat} (h : 0 ≤ x) : andI x (1 * 2 ^ b - 1) = ((x.toNat &&& (2 ^ b - 1) : Nat) : Int) := by
  unfold andI
  have := Nat.two_pow_pos b
  rw [Int.one_mul, p2c, show (((2 ^ b : Nat) : Int) - 1).toNat = 2 ^ b - 1 by omega]
theorem and_le (x y : Nat) : x &&& y ≤ x := Nat.and_le_left
theorem mpL_all {S : Int} {m : Nat} (hm : (blN S.toNat 10).length = m) : mpL S (List.range m) = blN S.toNat 10 := by
  unfold mpL
  apply List.ext_getElem
  · rw [List.length_map, List.length_range, hm]
  · intro i h1 h2
    rw [List.getElem_map, List.getElem_range, List.getD_eq_getElem?_getD, List.getElem?_eq_getElem h2]
    rfl
theorem unU_0 (m : Nat) : unU m 0 = List.range m := by
  unfold unU
  rw [List.filter_eq_self.mpr]
  intro a _
  rw [Nat.zero_div]
  rfl
theorem lfS_ok {S : Int} {m : Nat} (h0 : 0 ≤ S) (h1 : S < 1024) (hm : (blN S.toNat 10).length = m) (hm7 : m < 7) {f : Int → Int} (hr : ∀ p, 0 ≤ p → p < (m : Int) → 0 ≤ f p ∧ f p < m) : ∀ p : Nat, p ≤ m → (0 ≤ lfS S f p ∧ lfS S f p < 1024) ∧ blN (lfS S f p).toNat 10 = mpL S (unU m (usM f p))
  | 0, _ => ⟨⟨h0, h1⟩, by
    show blN S.toNat 10 = mpL S (unU m 0)
    rw [unU_0, mpL_all hm]⟩
  | p + 1, h => by
    have ih := lfS_ok h0 h1 hm hm7 hr p (by omega)
    have g := hr p (by omega) (by omega)
    have gb := elF_r hm g.1 g.2
    have hu := usM_lt hm7 hr p (by omega)
    obtain ⟨⟨i0, i1⟩, i2⟩ := ih
    have e1 : lfS S f (p + 1) = (((lfS S f p).toNat - ((lfS S f p).toNat &&& 2 ^ (elF S (f p)).toNat) : Nat) : Int) := by
      rw [lfS, andI_1 i0]
      have := and_le (lfS S f p).toNat (2 ^ (elF S (f p)).toNat)
      omega
    have hk := List.all_eq_true.mp (bl_clr (lfS S f p).toNat (by omega)) (elF S (f p)).toNat (List.mem_range.mpr (by omega))
    rw [Bool.and_eq_true, beq_iff_eq] at hk
    refine ⟨?_, ?_⟩
    · rw [e1]
      have := and_le (lfS S f p).toNat (2 ^ (elF S (f p)).toNat)
      omega
    · rw [e1, Int.toNat_natCast, hk.1, i2, usM]
      have ho := List.all_eq_true.mp (List.all_eq_true.mp (un_or m hm7) (usM f p) (List.mem_range.mpr hu)) (f p).toNat (List.mem_range.mpr (by omega))
      rw [beq_iff_eq] at ho
      rw [ho]
      refine mpL_filter hm unU_lt _ _ (fun e he => ?_)
      have hne : ((blN S.toNat 10).getD e 0 = (elF S (f p)).toNat) ↔ e = (f p).toNat := by
        constructor
        · intro q
          rcases Nat.lt_trichotomy e (f p).toNat with z | z | z
          · have := elF_mono hm (a := e) (b := f p) (by omega) (by omega) g.2
            unfold elF at this q
            rw [Int.toNat_natCast] at this q
            omega
          · exact z
          · have := elF_mono hm (a := f p) (b := e) g.1 (by omega) (by omega)
            unfold elF at this q
            rw [Int.toNat_natCast] at this q
            omega
        · intro q
          unfold elF
          rw [Int.toNat_natCast, q]
      by_cases c : e = (f p).toNat
      · rw [bne_eq_false_iff_eq.mpr (hne.mpr c), bne_eq_false_iff_eq.mpr c]
      · rw [bne_iff_ne.mpr (fun q => c (hne.mp q)), bne_iff_ne.mpr c]
/-- how many of those left are lower books -/
theorem lfS_cnt {S : Int} {m : Nat} (h0 : 0 ≤ S) (h1 : S < 1024) (hm : (blN S.toNat 10).length = m) (hm7 : m < 7) {f : Int → Int} (hr : ∀ p, 0 ≤ p → p < (m : Int) → 0 ≤ f p ∧ f p < m) {p : Nat} (hp : p < m) : popI (andI (lfS S f p) (1 * 2 ^ (elF S (f p)).toNat - 1)) = ((clE m (usM f p) (f p).toNat : Nat) : Int) := by
  obtain ⟨⟨i0, i1⟩, i2⟩ := lfS_ok h0 h1 hm hm7 hr p (by omega)
  have g := hr p (by omega) (by omega)
  have gb := elF_r hm g.1 g.2
  have hk := List.all_eq_true.mp (bl_clr (lfS S f p).toNat (by omega)) (elF S (f p)).toNat (List.mem_range.mpr (by omega))
  rw [Bool.and_eq_true, beq_iff_eq, beq_iff_eq] at hk
  rw [andI_2 i0, popI_N (Int.natCast_nonneg _), Int.toNat_natCast, hk.2, i2]
  congr 1
  unfold clE
  rw [mpL_filter hm unU_lt (fun e => decide (e < (elF S (f p)).toNat)) (fun x => decide (x < (f p).toNat)) (fun e he => ?_)]
  · unfold mpL
    rw [List.length_map]
  · have : ((blN S.toNat 10).getD e 0 < (elF S (f p)).toNat) ↔ e < (f p).toNat := by
      constructor
      · intro q
        rcases Nat.lt_or_ge e (f p).toNat with z | z
        · exact z
        · exfalso
          rcases (by omega : e = (f p).toNat ∨ (f p).toNat < e) with y | y
          · unfold elF at q
            rw [Int.toNat_natCast, y] at q
            omega
          · have := elF_mono hm (a := f p) (b := e) g.1 (by omega) (by omega)
            unfold elF at this q
            rw [Int.toNat_natCast] at this q
            omega
      · intro q
        have := elF_mono hm (a := e) (b := f p) (by omega) (by omega) g.2
        unfold elF at this ⊢
        rw [Int.toNat_natCast] at this ⊢
        omega
    by_cases c : e < (f p).toNat
    · rw [decide_eq_true (this.mpr c), decide_eq_true c]
    · rw [decide_eq_false (fun q => c (this.mp q)), decide_eq_false c]
/-- the class's way to the number -/
def rkW (m : Nat) (f : Int → Int) : Nat → Nat
  | 0 => 0
  | p + 1 => rkW m f p + clE m (usM f p) (f p).toNat * fct (m - 1 - p)
theorem rkW_all {m : Nat} {f : Int → Int} : ∀ p : Nat, p ≤ m → rkW m f p + rkC m (usM f p) ((lsF m f).drop p) = rkC m 0 (lsF m f)
  | 0, _ => by rw [List.drop_zero]; show 0 + rkC m 0 _ = _; rw [Nat.zero_add]
  | p + 1, h => by
    have ih := rkW_all (m := m) (f := f) p (by omega)
    rw [lsF_drop (by omega), rkC, List.length_drop, lsF_len] at ih
    rw [← ih, rkW, usM, show m - 1 - p = m - (p + 1) by omega, Nat.add_assoc]
theorem rkW_end {m : Nat} (hm : m < 7) {f : Int → Int} (hr : ∀ p, 0 ≤ p → p < (m : Int) → 0 ≤ f p ∧ f p < m) (hi : injF f m) : ((rkW m f m : Nat) : Int) = rkI m f := by
  have := rkW_all (m := m) (f := f) m (Nat.le_refl m)
  rw [List.drop_eq_nil_of_le (by rw [lsF_len]; exact Nat.le_refl m), rkC, Nat.add_zero, (rk_ok hm hr hi).2.2] at this
  unfold rkI
  rw [this]
/-- the digits: the books of order n -/
theorem odS_us {m : Nat} {n : Int} : ∀ p : Nat, (odS m n.toNat p).1 = usM (dgI m n) p
  | 0 => rfl
  | p + 1 => by
    have e : (dgI m n (p : Int)).toNat = nxE m (odS m n.toNat p).1 ((odS m n.toNat p).2 / fct (m - 1 - p)) := by
      show (((dgE m n.toNat ((p : Int)).toNat : Nat) : Int)).toNat = _
      rw [Int.toNat_natCast, Int.toNat_natCast]
      rfl
    rw [odS, usM, e, odS_us p]
theorem dg_low {S : Int} {m : Nat} (h0 : 0 ≤ S) (h1 : S < 1024) (hm : (blN S.toNat 10).length = m) (hm7 : m < 7) {n : Int} (n0 : 0 ≤ n) (n1 : n < fct m) {p : Nat} (hp : p < m) : (odS m n.toNat p).2 / fct (m - 1 - p) < (blN (lfS S (dgI m n) p).toNat 10).length ∧ (((blN (lfS S (dgI m n) p).toNat 10).getD ((odS m n.toNat p).2 / fct (m - 1 - p)) 0 : Nat) : Int) = elF S (dgI m n p) ∧ (odS m n.toNat p).2 < 720 := by
  have hd := dg_ok hm7 n0 n1
  have hl := lfS_ok h0 h1 hm hm7 hd.1 p (by omega)
  have ho := List.all_eq_true.mp (List.all_eq_true.mp (od_all m hm7) n.toNat (List.mem_range.mpr (by omega))) p (List.mem_range.mpr hp)
  rw [Bool.and_eq_true, Bool.and_eq_true, decide_eq_true_eq, decide_eq_true_eq, decide_eq_true_eq, odS_us] at ho
  obtain ⟨⟨o1, o2⟩, o3⟩ := ho
  rw [hl.2]
  unfold mpL
  rw [List.length_map]
  refine ⟨o2, ?_, o3⟩
  rw [List.getD_eq_getElem?_getD, List.getElem?_map, List.getElem?_eq_getElem o2]
  show ((((blN S.toNat 10).getD ((unU m (usM (dgI m n) p))[_]) 0 : Nat)) : Int) = elF S (dgI m n p)
  unfold elF
  congr 2
  unfold dgI dgE nxE
  rw [Int.toNat_natCast, Int.toNat_natCast, odS_us, List.getD_eq_getElem?_getD, List.getElem?_eq_getElem o2]
  rfl
