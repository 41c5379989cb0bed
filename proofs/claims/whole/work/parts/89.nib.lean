/-! A row of books in one number, four bits a place. -/
def nbN (e p : Nat) : Nat := e / 2 ^ (4 * p) % 16
theorem nbN_xor (a b p : Nat) : nbN (a ^^^ b) p = nbN a p ^^^ nbN b p := by
  unfold nbN
  rw [Nat.xor_div_two_pow, show (16 : Nat) = 2 ^ 4 from rfl, Nat.xor_mod_two_pow]
theorem nbN_or (a b p : Nat) : nbN (a ||| b) p = nbN a p ||| nbN b p := by
  unfold nbN
  rw [Nat.or_div_two_pow, show (16 : Nat) = 2 ^ 4 from rfl, Nat.or_mod_two_pow]
theorem nbN_lt (e p : Nat) : nbN e p < 16 := Nat.mod_lt _ (by decide)
theorem pw_split {p q : Nat} (h : q < p) : (2 : Nat) ^ (4 * p) = 2 ^ (4 * q) * (16 * 2 ^ (4 * (p - q - 1))) := by
  rw [show (16 : Nat) = 2 ^ 4 from rfl, ← Nat.pow_add, ← Nat.pow_add]
  congr 1
  omega
theorem nbN_lo {x p q : Nat} (h : q < p) : nbN (x * 2 ^ (4 * p)) q = 0 := by
  unfold nbN
  rw [pw_split h, show x * (2 ^ (4 * q) * (16 * 2 ^ (4 * (p - q - 1)))) = 2 ^ (4 * q) * (16 * (x * 2 ^ (4 * (p - q - 1)))) by rw [Nat.mul_left_comm x, Nat.mul_left_comm x], Nat.mul_div_cancel_left _ (Nat.two_pow_pos _)]
  exact Nat.mul_mod_right _ _
theorem nbN_hi {x p q : Nat} (h : p ≤ q) : nbN (x * 2 ^ (4 * p)) q = nbN x (q - p) := by
  unfold nbN
  have e : (2 : Nat) ^ (4 * q) = 2 ^ (4 * p) * 2 ^ (4 * (q - p)) := by
    rw [← Nat.pow_add]; congr 1; omega
  rw [e, ← Nat.div_div_eq_div_mul, Nat.mul_div_cancel _ (Nat.two_pow_pos _)]
theorem nbN_sm {u r : Nat} (hu : u < 16) : nbN u r = if r = 0 then u else 0 := by
  unfold nbN
  by_cases h : r = 0
  · subst h
    rw [if_pos rfl]
    omega
  · rw [if_neg h, Nat.div_eq_of_lt]
    have : (2 : Nat) ^ 4 ≤ 2 ^ (4 * r) := Nat.pow_le_pow_right (by decide) (by omega)
    omega
theorem nbN_shl {u p q : Nat} (hu : u < 16) : nbN (u * 2 ^ (4 * p)) q = if q = p then u else 0 := by
  by_cases h : q < p
  · rw [nbN_lo h, if_neg (by omega)]
  · rw [nbN_hi (by omega), nbN_sm hu]
    by_cases h2 : q = p
    · rw [if_pos (by omega), if_pos h2]
    · rw [if_neg (by omega), if_neg h2]
theorem nbN_mod {e p q : Nat} : nbN (e % 2 ^ (4 * p)) q = if q < p then nbN e q else 0 := by
  unfold nbN
  by_cases h : q < p
  · rw [if_pos h, pw_split h, Nat.mod_mul_right_div_self, Nat.mod_mul_right_mod]
  · rw [if_neg h, Nat.div_eq_of_lt]
    have : (2 : Nat) ^ (4 * p) ≤ 2 ^ (4 * q) := Nat.pow_le_pow_right (by decide) (by omega)
    have := Nat.mod_lt e (Nat.two_pow_pos (4 * p))
    omega
theorem nbN_div {e p q : Nat} : nbN (e / 2 ^ (4 * p)) q = nbN e (p + q) := by
  unfold nbN
  rw [Nat.div_div_eq_div_mul, ← Nat.pow_add, show 4 * p + 4 * q = 4 * (p + q) by omega]
theorem nbN_big {e q : Nat} (he : e < 1099511627776) (h : 10 ≤ q) : nbN e q = 0 := by
  unfold nbN
  rw [Nat.div_eq_of_lt]
  have : (2 : Nat) ^ 40 ≤ 2 ^ (4 * q) := Nat.pow_le_pow_right (by decide) (by omega)
  omega
theorem nbN_ext {e e' : Nat} (he : e < 1099511627776) (he' : e' < 1099511627776) (h : ∀ p, p < 10 → nbN e p = nbN e' p) : e = e' := by
  have h0 := h 0 (by decide)
  have h1 := h 1 (by decide)
  have h2 := h 2 (by decide)
  have h3 := h 3 (by decide)
  have h4 := h 4 (by decide)
  have h5 := h 5 (by decide)
  have h6 := h 6 (by decide)
  have h7 := h 7 (by decide)
  have h8 := h 8 (by decide)
  have h9 := h 9 (by decide)
  unfold nbN at h0 h1 h2 h3 h4 h5 h6 h7 h8 h9
  simp only [Nat.reduceMul, Nat.reducePow, Nat.div_one] at h0 h1 h2 h3 h4 h5 h6 h7 h8 h9
  omega
/-- the place p of a row's number -/
def nbI (e p : Int) : Int := e / 2 ^ (4 * p).toNat % 16
theorem nbI_nat {e p : Int} (he : 0 ≤ e) (hp : 0 ≤ p) : nbI e p = ((nbN e.toNat p.toNat : Nat) : Int) := by
  unfold nbI nbN
  rw [show (4 * p).toNat = 4 * p.toNat by omega]
  have h1 : e = ((e.toNat : Nat) : Int) := by omega
  rw [h1, p2c, dvc]
  show ((e.toNat / 2 ^ (4 * p.toNat) : Nat) : Int) % ((16 : Nat) : Int) = _
  norm_cast
theorem nbI_r (e p : Int) : 0 ≤ nbI e p ∧ nbI e p < 16 := ⟨Int.emod_nonneg _ (by decide), Int.emod_lt_of_pos _ (by decide)⟩
theorem nbI_ext {e e' : Int} (h0 : 0 ≤ e) (h1 : e < 1099511627776) (g0 : 0 ≤ e') (g1 : e' < 1099511627776) (h : ∀ p, 0 ≤ p → p < 10 → nbI e p = nbI e' p) : e = e' := by
  have := nbN_ext (e := e.toNat) (e' := e'.toNat) (by omega) (by omega) (fun p hp => by
    have := h p (by omega) (by omega)
    rw [nbI_nat h0 (by omega), nbI_nat g0 (by omega)] at this
    exact_mod_cast this)
  omega
theorem pwI (p : Int) (hp : 0 ≤ p) : (2 : Int) ^ (4 * p).toNat = ((2 ^ (4 * p.toNat) : Nat) : Int) := by
  rw [show (4 * p).toNat = 4 * p.toNat by omega, p2c]
theorem shl_nat {u p : Int} (hu : 0 ≤ u) (hp : 0 ≤ p) : u * 2 ^ (4 * p).toNat = ((u.toNat * 2 ^ (4 * p.toNat) : Nat) : Int) := by
  rw [pwI p hp, show u = ((u.toNat : Nat) : Int) by omega]
  norm_cast
theorem xorI_nat (x y : Int) : (xorI x y).toNat = x.toNat ^^^ y.toNat := by
  unfold xorI
  rw [Int.toNat_natCast]
theorem orI_nat (x y : Int) : (orI x y).toNat = x.toNat ||| y.toNat := by
  unfold orI
  rw [Int.toNat_natCast]
theorem shl_lt {u p : Nat} (hu : u < 16) (hp : p < 10) : u * 2 ^ (4 * p) < 1099511627776 := by
  have h1 : (2 : Nat) ^ (4 * p) ≤ 2 ^ 36 := Nat.pow_le_pow_right (by decide) (by omega)
  have h2 : u * 2 ^ (4 * p) ≤ 15 * 2 ^ 36 := Nat.mul_le_mul (by omega) h1
  omega
/-- two places changed -/
def swpI (e p : Int) : Int := xorI e (orI (xorI (nbI e p) (nbI e (p + 1)) * 2 ^ (4 * p).toNat) (xorI (nbI e p) (nbI e (p + 1)) * 2 ^ (4 * (p + 1)).toNat))
theorem swpI_r {e p : Int} (h0 : 0 ≤ e) (h1 : e < 1099511627776) (p0 : 0 ≤ p) (p1 : p < 9) : 0 ≤ swpI e p ∧ swpI e p < 1099511627776 := by
  refine ⟨Int.natCast_nonneg _, ?_⟩
  have hu : (nbI e p).toNat ^^^ (nbI e (p + 1)).toNat < 16 := by
    have a := nbI_r e p
    have b := nbI_r e (p + 1)
    exact Nat.xor_lt_two_pow (n := 4) (by omega) (by omega)
  have hx : 0 ≤ xorI (nbI e p) (nbI e (p + 1)) := Int.natCast_nonneg _
  have : (swpI e p).toNat < 2 ^ 40 := by
    unfold swpI
    rw [xorI_nat, orI_nat]
    refine Nat.xor_lt_two_pow (by omega) (Nat.or_lt_two_pow ?_ ?_)
    · rw [shl_nat hx p0, Int.toNat_natCast, xorI_nat]
      exact shl_lt hu (by omega)
    · rw [shl_nat hx (by omega), Int.toNat_natCast, xorI_nat]
      exact shl_lt hu (by omega)
  omega
theorem xor_self_r (a b : Nat) : a ^^^ (a ^^^ b) = b := by rw [← Nat.xor_assoc, Nat.xor_self, Nat.zero_xor]
theorem swpI_nb {e p q : Int} (h0 : 0 ≤ e) (p0 : 0 ≤ p) (q0 : 0 ≤ q) : nbI (swpI e p) q = if q = p then nbI e (p + 1) else if q = p + 1 then nbI e p else nbI e q := by
  have hu : (nbI e p).toNat ^^^ (nbI e (p + 1)).toNat < 16 := by
    have a := nbI_r e p
    have b := nbI_r e (p + 1)
    exact Nat.xor_lt_two_pow (n := 4) (by omega) (by omega)
  have hx : 0 ≤ xorI (nbI e p) (nbI e (p + 1)) := Int.natCast_nonneg _
  have hs : 0 ≤ swpI e p := Int.natCast_nonneg _
  have key : nbN (swpI e p).toNat q.toNat = if q = p then nbN e.toNat (p.toNat + 1) else if q = p + 1 then nbN e.toNat p.toNat else nbN e.toNat q.toNat := by
    unfold swpI
    rw [xorI_nat, orI_nat, shl_nat hx p0, shl_nat hx (by omega : 0 ≤ p + 1), Int.toNat_natCast, Int.toNat_natCast, nbN_xor, nbN_or, xorI_nat, nbN_shl hu, nbN_shl hu, nbI_nat h0 p0, nbI_nat h0 (by omega : 0 ≤ p + 1), Int.toNat_natCast, Int.toNat_natCast, show (p + 1).toNat = p.toNat + 1 by omega]
    by_cases c1 : q = p
    · rw [if_pos (by omega), if_neg (by omega), if_pos c1, Nat.or_zero, c1]
      exact xor_self_r _ _
    · by_cases c2 : q = p + 1
      · rw [if_neg (by omega), if_pos (by omega), if_neg c1, if_pos c2, Nat.zero_or, show q.toNat = p.toNat + 1 by omega, Nat.xor_comm (nbN e.toNat p.toNat)]
        exact xor_self_r _ _
      · rw [if_neg (by omega), if_neg (by omega), if_neg c1, if_neg c2, Nat.or_zero, Nat.xor_zero]
  rw [nbI_nat hs q0, key, nbI_nat h0 (by omega : 0 ≤ p + 1), nbI_nat h0 p0, nbI_nat h0 q0, show (p + 1).toNat = p.toNat + 1 by omega]
  (repeat' split) <;> rfl
/-- a place taken out -/
def woI (e p : Int) : Int := orI (e / 2 ^ (4 * (p + 1)).toNat * 2 ^ (4 * p).toNat) (andI e (1 * 2 ^ (4 * p).toNat - 1))
theorem and_low {e p : Int} (h0 : 0 ≤ e) (p0 : 0 ≤ p) : andI e (1 * 2 ^ (4 * p).toNat - 1) = ((e.toNat % 2 ^ (4 * p.toNat) : Nat) : Int) := by
  unfold andI
  have h : (1 * (2 : Int) ^ (4 * p).toNat - 1).toNat = 2 ^ (4 * p.toNat) - 1 := by
    rw [Int.one_mul, pwI p p0]
    have := Nat.two_pow_pos (4 * p.toNat)
    omega
  rw [h, Nat.and_two_pow_sub_one_eq_mod]
theorem wo_hi {e p : Int} (h0 : 0 ≤ e) (p0 : 0 ≤ p) : e / 2 ^ (4 * (p + 1)).toNat * 2 ^ (4 * p).toNat = ((e.toNat / 2 ^ (4 * (p.toNat + 1)) * 2 ^ (4 * p.toNat) : Nat) : Int) := by
  have h1 : e = ((e.toNat : Nat) : Int) := by omega
  rw [pwI p p0, pwI (p + 1) (by omega), show (p + 1).toNat = p.toNat + 1 by omega]
  generalize e.toNat = E at h1
  subst h1
  norm_cast
theorem woI_nb {e p q : Int} (h0 : 0 ≤ e) (p0 : 0 ≤ p) (q0 : 0 ≤ q) : nbI (woI e p) q = if q < p then nbI e q else nbI e (q + 1) := by
  have hs : 0 ≤ woI e p := Int.natCast_nonneg _
  have key : nbN (woI e p).toNat q.toNat = if q < p then nbN e.toNat q.toNat else nbN e.toNat (q.toNat + 1) := by
    unfold woI
    rw [orI_nat, wo_hi h0 p0, and_low h0 p0, Int.toNat_natCast, Int.toNat_natCast, nbN_or, nbN_mod]
    by_cases c : q < p
    · rw [if_pos (by omega), if_pos c, nbN_lo (by omega), Nat.zero_or]
    · rw [if_neg (by omega), if_neg c, nbN_hi (by omega), nbN_div, Nat.or_zero, show p.toNat + 1 + (q.toNat - p.toNat) = q.toNat + 1 by omega]
  rw [nbI_nat hs q0, key, nbI_nat h0 q0, nbI_nat h0 (by omega : 0 ≤ q + 1), show (q + 1).toNat = q.toNat + 1 by omega]
  split <;> rfl
theorem woI_r {e p : Int} (h0 : 0 ≤ e) (h1 : e < 1099511627776) (p0 : 0 ≤ p) (p1 : p < 10) : 0 ≤ woI e p ∧ woI e p < 1099511627776 := by
  refine ⟨Int.natCast_nonneg _, ?_⟩
  have : (woI e p).toNat < 2 ^ 40 := by
    unfold woI
    rw [orI_nat, wo_hi h0 p0, and_low h0 p0, Int.toNat_natCast, Int.toNat_natCast]
    refine Nat.or_lt_two_pow ?_ ?_
    · have a : e.toNat / 2 ^ (4 * (p.toNat + 1)) * 2 ^ (4 * p.toNat) ≤ e.toNat := by
        have q : (2 : Nat) ^ (4 * p.toNat) ≤ 2 ^ (4 * (p.toNat + 1)) := Nat.pow_le_pow_right (by decide) (by omega)
        exact Nat.le_trans (Nat.mul_le_mul_left _ q) (Nat.div_mul_le_self _ _)
      omega
    · have := Nat.mod_le e.toNat (2 ^ (4 * p.toNat))
      omega
  omega
/-- one more place laid on top -/
theorem tpI_nb {e b n q : Int} (h0 : 0 ≤ e) (b0 : 0 ≤ b) (b1 : b < 16) (n0 : 0 ≤ n) (q0 : 0 ≤ q) : nbI (orI e (b * 2 ^ (4 * n).toNat)) q = orI (nbI e q) (if q = n then b else 0) := by
  have hs : 0 ≤ orI e (b * 2 ^ (4 * n).toNat) := Int.natCast_nonneg _
  rw [nbI_nat hs q0, orI_nat, shl_nat b0 n0, Int.toNat_natCast, nbN_or, nbN_shl (by omega), nbI_nat h0 q0]
  unfold orI
  rw [Int.toNat_natCast]
  by_cases c : q = n
  · rw [if_pos (by omega), if_pos c]
  · rw [if_neg (by omega), if_neg c]; rfl
theorem tpI_r {e b n : Int} (h0 : 0 ≤ e) (h1 : e < 1099511627776) (b0 : 0 ≤ b) (b1 : b < 16) (n0 : 0 ≤ n) (n1 : n < 10) : 0 ≤ orI e (b * 2 ^ (4 * n).toNat) ∧ orI e (b * 2 ^ (4 * n).toNat) < 1099511627776 := by
  refine ⟨Int.natCast_nonneg _, ?_⟩
  have : (orI e (b * 2 ^ (4 * n).toNat)).toNat < 2 ^ 40 := by
    rw [orI_nat, shl_nat b0 n0, Int.toNat_natCast]
    exact Nat.or_lt_two_pow (by omega) (shl_lt (by omega) (by omega))
  omega
theorem orI_0 {x : Int} (h : 0 ≤ x) : orI x 0 = x ∧ orI 0 x = x := by
  unfold orI
  constructor
  · rw [show (0 : Int).toNat = 0 from rfl, Nat.or_zero]; omega
  · rw [show (0 : Int).toNat = 0 from rfl, Nat.zero_or]; omega
/-- the number of a row of n books -/
def RW (e : Int) (f : Int → Int) (n : Int) : Prop := (0 ≤ e ∧ e < 1099511627776) ∧ ∀ p, 0 ≤ p → p < 10 → nbI e p = if p < n then f p else 0
theorem RW.uniq {e e' n : Int} {f f' : Int → Int} (h : RW e f n) (h' : RW e' f' n) (hf : ∀ p, 0 ≤ p → p < n → f p = f' p) : e = e' := nbI_ext h.1.1 h.1.2 h'.1.1 h'.1.2 (fun p p0 p1 => by
  rw [h.2 p p0 p1, h'.2 p p0 p1]
  by_cases c : p < n
  · rw [if_pos c, if_pos c, hf p p0 c]
  · rw [if_neg c, if_neg c])
