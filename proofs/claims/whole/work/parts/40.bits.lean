/-! Bits over whole numbers. -/
theorem p2c (n : Nat) : (2 : Int) ^ n = ((2 ^ n : Nat) : Int) := by norm_cast
theorem dvc (m n : Nat) : (m : Int) / (n : Int) = ((m / n : Nat) : Int) := by norm_cast
def andI (x y : Int) : Int := ((x.toNat &&& y.toNat : Nat) : Int)
def orI (x y : Int) : Int := ((x.toNat ||| y.toNat : Nat) : Int)
def xorI (x y : Int) : Int := ((x.toNat ^^^ y.toNat : Nat) : Int)
theorem iI_bv (x : Int) : (iI x).toBitVec = BitVec.ofInt 32 x := rfl
theorem lI_bv (x : Int) : (lI x).toBitVec = BitVec.ofInt 64 x := rfl
theorem bv_and {w : Nat} {x y : Int} (hx : 0 ≤ x) (hy : 0 ≤ y) : BitVec.ofInt w x &&& BitVec.ofInt w y = BitVec.ofInt w (andI x y) := by
  obtain ⟨n, rfl⟩ := Int.eq_ofNat_of_zero_le hx
  obtain ⟨m, rfl⟩ := Int.eq_ofNat_of_zero_le hy
  unfold andI
  rw [Int.toNat_natCast, Int.toNat_natCast, BitVec.ofInt_natCast, BitVec.ofInt_natCast, BitVec.ofInt_natCast, BitVec.ofNat_and]
theorem bv_or {w : Nat} {x y : Int} (hx : 0 ≤ x) (hy : 0 ≤ y) : BitVec.ofInt w x ||| BitVec.ofInt w y = BitVec.ofInt w (orI x y) := by
  obtain ⟨n, rfl⟩ := Int.eq_ofNat_of_zero_le hx
  obtain ⟨m, rfl⟩ := Int.eq_ofNat_of_zero_le hy
  unfold orI
  rw [Int.toNat_natCast, Int.toNat_natCast, BitVec.ofInt_natCast, BitVec.ofInt_natCast, BitVec.ofInt_natCast, BitVec.ofNat_or]
theorem bv_xor {w : Nat} {x y : Int} (hx : 0 ≤ x) (hy : 0 ≤ y) : BitVec.ofInt w x ^^^ BitVec.ofInt w y = BitVec.ofInt w (xorI x y) := by
  obtain ⟨n, rfl⟩ := Int.eq_ofNat_of_zero_le hx
  obtain ⟨m, rfl⟩ := Int.eq_ofNat_of_zero_le hy
  unfold xorI
  rw [Int.toNat_natCast, Int.toNat_natCast, BitVec.ofInt_natCast, BitVec.ofInt_natCast, BitVec.ofInt_natCast, BitVec.ofNat_xor]
theorem bv_mod (w : Nat) (x : Int) : BitVec.ofInt w x = BitVec.ofInt w (x % 2 ^ w) := by
  apply BitVec.eq_of_toInt_eq
  rw [BitVec.toInt_ofInt, BitVec.toInt_ofInt, show ((2 : Int) ^ w) = ((2 ^ w : Nat) : Int) by norm_cast, Int.emod_bmod]
theorem bv_mask {w : Nat} (x : Int) {j : Nat} {p m : Int} (hj : j ≤ w) (hp : (2 : Int) ^ j = p) (hm : m = p - 1) : BitVec.ofInt w x &&& BitVec.ofInt w m = BitVec.ofInt w (x % p) := by
  have hpn : p = ((2 ^ j : Nat) : Int) := by rw [← hp]; norm_cast
  have h2 : (0 : Int) < 2 ^ w := by
    have := Int.natCast_pos.mpr (Nat.two_pow_pos w)
    rwa [show ((2 ^ w : Nat) : Int) = (2 : Int) ^ w by norm_cast] at this
  have hpp : 0 < p := by rw [hpn]; exact Int.natCast_pos.mpr (Nat.two_pow_pos j)
  have e1 : BitVec.ofInt w x = BitVec.ofInt w (x % 2 ^ w) := bv_mod w x
  have h0 : 0 ≤ x % 2 ^ w := Int.emod_nonneg _ (by omega)
  rw [e1, bv_and h0 (by omega)]
  congr 1
  have hd : p ∣ (2 : Int) ^ w := by rw [← hp]; exact ⟨(2 : Int) ^ (w - j), by rw [← Int.pow_add]; congr 1; omega⟩
  have e2 : x % 2 ^ w % p = x % p := Int.emod_emod_of_dvd _ hd
  rw [← e2]
  obtain ⟨n, hn⟩ := Int.eq_ofNat_of_zero_le h0
  rw [hn]
  unfold andI
  have hmn : m.toNat = 2 ^ j - 1 := by
    rw [hm, hpn]
    have := Nat.two_pow_pos j
    omega
  rw [Int.toNat_natCast, hmn, Nat.and_two_pow_sub_one_eq_mod, hpn]
  norm_cast
theorem iI_and {x y : Int} (hx : 0 ≤ x) (hy : 0 ≤ y) : iI x &&& iI y = iI (andI x y) := Int32.toBitVec_inj.mp (by rw [Int32.toBitVec_and, iI_bv, iI_bv, iI_bv, bv_and hx hy])
theorem iI_or {x y : Int} (hx : 0 ≤ x) (hy : 0 ≤ y) : iI x ||| iI y = iI (orI x y) := Int32.toBitVec_inj.mp (by rw [Int32.toBitVec_or, iI_bv, iI_bv, iI_bv, bv_or hx hy])
theorem iI_xor {x y : Int} (hx : 0 ≤ x) (hy : 0 ≤ y) : iI x ^^^ iI y = iI (xorI x y) := Int32.toBitVec_inj.mp (by rw [Int32.toBitVec_xor, iI_bv, iI_bv, iI_bv, bv_xor hx hy])
theorem iI_mask (x : Int) {j : Nat} {p m : Int} (hj : j ≤ 32) (hp : (2 : Int) ^ j = p) (hm : m = p - 1) : iI x &&& iI m = iI (x % p) := Int32.toBitVec_inj.mp (by rw [Int32.toBitVec_and, iI_bv, iI_bv, iI_bv, bv_mask x hj hp hm])
theorem lI_and {x y : Int} (hx : 0 ≤ x) (hy : 0 ≤ y) : lI x &&& lI y = lI (andI x y) := Int64.toBitVec_inj.mp (by rw [Int64.toBitVec_and, lI_bv, lI_bv, lI_bv, bv_and hx hy])
theorem lI_or {x y : Int} (hx : 0 ≤ x) (hy : 0 ≤ y) : lI x ||| lI y = lI (orI x y) := Int64.toBitVec_inj.mp (by rw [Int64.toBitVec_or, lI_bv, lI_bv, lI_bv, bv_or hx hy])
theorem lI_xor {x y : Int} (hx : 0 ≤ x) (hy : 0 ≤ y) : lI x ^^^ lI y = lI (xorI x y) := Int64.toBitVec_inj.mp (by rw [Int64.toBitVec_xor, lI_bv, lI_bv, lI_bv, bv_xor hx hy])
theorem lI_mask (x : Int) {j : Nat} {p m : Int} (hj : j ≤ 64) (hp : (2 : Int) ^ j = p) (hm : m = p - 1) : lI x &&& lI m = lI (x % p) := Int64.toBitVec_inj.mp (by rw [Int64.toBitVec_and, lI_bv, lI_bv, lI_bv, bv_mask x hj hp hm])
theorem i32_not (x : Int32) : ~~~ x = - x - 1 := Int32.toBitVec_inj.mp (by rw [Int32.toBitVec_not, BitVec.not_eq_neg_add]; rfl)
theorem iI_not (x : Int) : iI x ^^^ iI (-1) = iI (-1 - x) := by
  have h : iI (-1) = ~~~ (0 : Int32) := by decide
  have h2 : ~~~ iI x = iI (-1 - x) := by
    rw [i32_not, iI_neg, show (1 : Int32) = iI 1 from rfl, iI_sub]
    congr 1
    omega
  rw [← h2, h]
  apply Int32.toBitVec_inj.mp
  rw [Int32.toBitVec_xor, Int32.toBitVec_not, Int32.toBitVec_not]
  show _ ^^^ BitVec.allOnes 32 = _
  exact BitVec.xor_allOnes
/-- x without the bits of y -/
theorem iI_andn {x y : Int} (hx : 0 ≤ x) (hy : 0 ≤ y) (hx1 : x < 2147483648) (hy1 : y < 2147483648) : iI x &&& iI (-1 - y) = iI (x - andI x y) := by
  have e : iI (-1 - y) = ~~~ iI y := by
    rw [i32_not, iI_neg, show (1 : Int32) = iI 1 from rfl, iI_sub]
    congr 1
    omega
  have h1 : iI x = (iI x &&& iI y) + (iI x &&& ~~~ iI y) := by
    apply Int32.toBitVec_inj.mp
    rw [Int32.toBitVec_add, Int32.toBitVec_and, Int32.toBitVec_and, Int32.toBitVec_not]
    generalize (iI x).toBitVec = a
    generalize (iI y).toBitVec = b
    rw [BitVec.add_eq_or_of_and_eq_zero _ _ (by ext i hi; simp; intro _ h; simp [h])]
    ext i hi
    simp
    cases a[i] <;> cases b[i] <;> rfl
  rw [e]
  rw [iI_and hx hy] at h1
  have h3 : iI x &&& ~~~ iI y = iI x - iI (andI x y) := by
    rw [h1]
    conv => rhs; rw [Int32.add_comm]
    rw [Int32.add_sub_cancel, ← h1]
  rw [h3, iI_sub]
theorem sh_l : ∀ n, n < 32 → ((nI n &&& 31).toBitVec.smod 32).toNat = n := by decide +kernel
theorem sh_u : ∀ n, n < 32 → (((nI n).toUInt32 &&& Int32.toUInt32 31).toBitVec % 32).toNat = n := by decide +kernel
set_option maxRecDepth 100000 in
theorem sl_l : ∀ k, k < 64 → ((nI k).toInt64 &&& 63) = Int64.ofNat k := by decide +kernel
set_option maxRecDepth 100000 in
theorem sl_u : ∀ k, k < 64 → ((nI k).toInt64.toUInt64 &&& Int64.toUInt64 63) = UInt64.ofNat k := by decide +kernel
set_option maxRecDepth 100000 in
theorem sl_m : ∀ k, k < 64 → ((Int64.ofNat k).toBitVec.smod 64).toNat = k := by decide +kernel
theorem bv_shl {w : Nat} (x : Int) (n : Nat) : BitVec.ofInt w x <<< n = BitVec.ofInt w (x * 2 ^ n) := by
  rw [BitVec.shiftLeft_eq_mul_twoPow, BitVec.ofInt_mul]
  congr 1
  apply BitVec.eq_of_toNat_eq
  rw [BitVec.toNat_twoPow, show ((2 : Int) ^ n) = ((2 ^ n : Nat) : Int) by norm_cast, BitVec.ofInt_natCast, BitVec.toNat_ofNat]
theorem iI_shl (x : Int) {k : Int} {p : Int} (h0 : 0 ≤ k) (h1 : k < 32) (hp : (2 : Int) ^ k.toNat = p) : iI x <<< (iI k &&& 31) = iI (x * p) := by
  obtain ⟨n, rfl⟩ := Int.eq_ofNat_of_zero_le h0
  apply Int32.toBitVec_inj.mp
  rw [Int32.toBitVec_shiftLeft]
  show (iI x).toBitVec <<< ((nI n &&& 31).toBitVec.smod 32).toNat = _
  rw [sh_l n (by omega), iI_bv, bv_shl, iI_bv, ← hp, Int.toNat_natCast]
theorem iI_shr {x k p : Int} (hx : rI x) (h0 : 0 ≤ k) (h1 : k < 32) (hp : (2 : Int) ^ k.toNat = p) : iI x >>> (iI k &&& 31) = iI (x / p) := by
  obtain ⟨n, rfl⟩ := Int.eq_ofNat_of_zero_le h0
  rw [← iI_of (iI x >>> (iI n &&& 31))]
  have := pk_shr (iI x) (nI n &&& 31) n (sh_l n (by omega))
  rw [show (iI (n : Int)) = nI n from rfl, this, iI_toInt hx, Int.shiftRight_eq_div_pow, ← hp, Int.toNat_natCast, show ((2 ^ n : Nat) : Int) = (2 : Int) ^ n by norm_cast]
theorem iI_ushr {x k p : Int} (hx : rI x) (h0 : 0 ≤ k) (h1 : k < 32) (hp : (2 : Int) ^ k.toNat = p) : ((iI x).toUInt32 >>> ((iI k).toUInt32 &&& Int32.toUInt32 31)).toInt32 = iI (x % 4294967296 / p) := by
  obtain ⟨n, rfl⟩ := Int.eq_ofNat_of_zero_le h0
  have hb := pk_ushr (iI x) (nI n) n (sh_u n (by omega))
  apply Int32.toBitVec_inj.mp
  apply BitVec.eq_of_toNat_eq
  show ((iI x).toUInt32 >>> ((nI n).toUInt32 &&& Int32.toUInt32 31)).toInt32.toBitVec.toNat = _
  rw [hb, iI_bv, iI_bv, BitVec.toNat_ofInt, BitVec.toNat_ofInt]
  have e0 : 0 ≤ x % 4294967296 := Int.emod_nonneg _ (by decide)
  have e1 : x % 4294967296 < 4294967296 := Int.emod_lt_of_pos _ (by decide)
  obtain ⟨m, hm⟩ := Int.eq_ofNat_of_zero_le e0
  have hpn : p = ((2 ^ n : Nat) : Int) := by rw [← hp, Int.toNat_natCast, p2c]
  rw [show (((2 ^ 32 : Nat) : Int)) = 4294967296 from rfl, hm, hpn]
  have e2 : ((m : Int) / ((2 ^ n : Nat) : Int)) = ((m / 2 ^ n : Nat) : Int) := dvc _ _
  rw [e2, Int.toNat_natCast]
  have e3 : (((m / 2 ^ n : Nat) : Int) % 4294967296) = ((m / 2 ^ n % 4294967296 : Nat) : Int) := (Int.natCast_emod _ 4294967296).symm
  rw [e3, Int.toNat_natCast, Nat.mod_eq_of_lt]
  have : m / 2 ^ n ≤ m := Nat.div_le_self _ _
  omega
theorem lI_shl (x : Int) {k : Int} {p : Int} (h0 : 0 ≤ k) (h1 : k < 64) (hp : (2 : Int) ^ k.toNat = p) : lI x <<< ((iI k).toInt64 &&& 63) = lI (x * p) := by
  obtain ⟨n, rfl⟩ := Int.eq_ofNat_of_zero_le h0
  apply Int64.toBitVec_inj.mp
  rw [Int64.toBitVec_shiftLeft, show iI (n : Int) = nI n from rfl, sl_l n (by omega)]
  show (lI x).toBitVec <<< ((Int64.ofNat n).toBitVec.smod 64).toNat = _
  rw [sl_m n (by omega), lI_bv, bv_shl, lI_bv, ← hp, Int.toNat_natCast]
theorem lI_ushr {x k p : Int} (hx0 : 0 ≤ x) (hx1 : x < 9223372036854775808) (h0 : 0 ≤ k) (h1 : k < 64) (hp : (2 : Int) ^ k.toNat = p) : ((lI x).toUInt64 >>> ((iI k).toInt64.toUInt64 &&& Int64.toUInt64 63)).toInt64 = lI (x / p) := by
  obtain ⟨n, rfl⟩ := Int.eq_ofNat_of_zero_le h0
  obtain ⟨m, rfl⟩ := Int.eq_ofNat_of_zero_le hx0
  rw [show iI (n : Int) = nI n from rfl, sl_u n (by omega)]
  apply Int64.toBitVec_inj.mp
  apply BitVec.eq_of_toNat_eq
  have hpn : p = ((2 ^ n : Nat) : Int) := by rw [← hp, Int.toNat_natCast, p2c]
  have e2 : ((m : Int) / ((2 ^ n : Nat) : Int)) = ((m / 2 ^ n : Nat) : Int) := dvc _ _
  rw [lI_bv, hpn, e2, BitVec.ofInt_natCast, BitVec.toNat_ofNat]
  show ((lI m).toUInt64 >>> UInt64.ofNat n).toNat = _
  have g1 : (UInt64.ofNat n).toNat = n := by
    show (BitVec.ofNat 64 n).toNat = n
    rw [BitVec.toNat_ofNat, Nat.mod_eq_of_lt (by omega)]
  have g2 : (lI m).toUInt64.toNat = m := by
    show (BitVec.ofInt 64 m).toNat = m
    rw [BitVec.ofInt_natCast, BitVec.toNat_ofNat, Nat.mod_eq_of_lt (by omega)]
  rw [UInt64.toNat_shiftRight, g1, g2, Nat.mod_eq_of_lt (by omega : n < 64), Nat.shiftRight_eq_div_pow, Nat.mod_eq_of_lt]
  have : m / 2 ^ n ≤ m := Nat.div_le_self _ _
  omega
section WBT
variable {E : mm_EV} {me pc r1 r2 : Nat} {cd : Nat → Option mm_In} {Lc : List (Option Value)} {r : List Value} {M : mm_M} {Q : mm_Rs → Prop} {x y p k : Int}
theorem wi_and (hc : (mm_CM me).2.2.2.2.2.2.2 = cd) (hi : cd pc = some (.iand, 1, r1, r2)) (hx : 0 ≤ x) (hy : 0 ≤ y) (kk : mm_wp E me (pc + 1, Lc, .int (iI (andI x y)) :: r, M) Q) : mm_wp E me (pc, Lc, .int (iI y) :: .int (iI x) :: r, M) Q := wp_st (z' := (pc + 1, Lc, .int (iI x &&& iI y) :: r, M)) (stp_of hc hi rfl) (by rw [iI_and hx hy]; exact kk)
theorem wi_msk (j : Nat) (p : Int) (hp : (2 : Int) ^ j = p) (hj : j ≤ 32) (hm : y = p - 1) (hc : (mm_CM me).2.2.2.2.2.2.2 = cd) (hi : cd pc = some (.iand, 1, r1, r2)) (kk : mm_wp E me (pc + 1, Lc, .int (iI (x % p)) :: r, M) Q) : mm_wp E me (pc, Lc, .int (iI y) :: .int (iI x) :: r, M) Q := wp_st (z' := (pc + 1, Lc, .int (iI x &&& iI y) :: r, M)) (stp_of hc hi rfl) (by rw [iI_mask x hj hp hm]; exact kk)
theorem wi_or (hc : (mm_CM me).2.2.2.2.2.2.2 = cd) (hi : cd pc = some (.ior, 1, r1, r2)) (hx : 0 ≤ x) (hy : 0 ≤ y) (kk : mm_wp E me (pc + 1, Lc, .int (iI (orI x y)) :: r, M) Q) : mm_wp E me (pc, Lc, .int (iI y) :: .int (iI x) :: r, M) Q := wp_st (z' := (pc + 1, Lc, .int (iI x ||| iI y) :: r, M)) (stp_of hc hi rfl) (by rw [iI_or hx hy]; exact kk)
theorem wi_xor (hc : (mm_CM me).2.2.2.2.2.2.2 = cd) (hi : cd pc = some (.ixor, 1, r1, r2)) (hx : 0 ≤ x) (hy : 0 ≤ y) (kk : mm_wp E me (pc + 1, Lc, .int (iI (xorI x y)) :: r, M) Q) : mm_wp E me (pc, Lc, .int (iI y) :: .int (iI x) :: r, M) Q := wp_st (z' := (pc + 1, Lc, .int (iI x ^^^ iI y) :: r, M)) (stp_of hc hi rfl) (by rw [iI_xor hx hy]; exact kk)
theorem wi_not (hc : (mm_CM me).2.2.2.2.2.2.2 = cd) (hi : cd pc = some (.ixor, 1, r1, r2)) (kk : mm_wp E me (pc + 1, Lc, .int (iI (-1 - x)) :: r, M) Q) : mm_wp E me (pc, Lc, .int (iI (-1)) :: .int (iI x) :: r, M) Q := wp_st (z' := (pc + 1, Lc, .int (iI x ^^^ iI (-1)) :: r, M)) (stp_of hc hi rfl) (by rw [iI_not]; exact kk)
theorem wi_andn (hc : (mm_CM me).2.2.2.2.2.2.2 = cd) (hi : cd pc = some (.iand, 1, r1, r2)) (hx : 0 ≤ x) (hy : 0 ≤ y) (hx1 : x < 2147483648) (hy1 : y < 2147483648) (kk : mm_wp E me (pc + 1, Lc, .int (iI (x - andI x y)) :: r, M) Q) : mm_wp E me (pc, Lc, .int (iI (-1 - y)) :: .int (iI x) :: r, M) Q := wp_st (z' := (pc + 1, Lc, .int (iI x &&& iI (-1 - y)) :: r, M)) (stp_of hc hi rfl) (by rw [iI_andn hx hy hx1 hy1]; exact kk)
theorem wi_shl (p : Int) (hp : (2 : Int) ^ k.toNat = p) (hc : (mm_CM me).2.2.2.2.2.2.2 = cd) (hi : cd pc = some (.ishl, 1, r1, r2)) (h0 : 0 ≤ k) (h1 : k < 32) (kk : mm_wp E me (pc + 1, Lc, .int (iI (x * p)) :: r, M) Q) : mm_wp E me (pc, Lc, .int (iI k) :: .int (iI x) :: r, M) Q := wp_st (z' := (pc + 1, Lc, .int (iI x <<< (iI k &&& 31)) :: r, M)) (stp_of hc hi rfl) (by rw [iI_shl x h0 h1 hp]; exact kk)
theorem wi_shr (p : Int) (hp : (2 : Int) ^ k.toNat = p) (hc : (mm_CM me).2.2.2.2.2.2.2 = cd) (hi : cd pc = some (.ishr, 1, r1, r2)) (hx : rI x) (h0 : 0 ≤ k) (h1 : k < 32) (kk : mm_wp E me (pc + 1, Lc, .int (iI (x / p)) :: r, M) Q) : mm_wp E me (pc, Lc, .int (iI k) :: .int (iI x) :: r, M) Q := wp_st (z' := (pc + 1, Lc, .int (iI x >>> (iI k &&& 31)) :: r, M)) (stp_of hc hi rfl) (by rw [iI_shr hx h0 h1 hp]; exact kk)
theorem wi_ushr (p : Int) (hp : (2 : Int) ^ k.toNat = p) (hc : (mm_CM me).2.2.2.2.2.2.2 = cd) (hi : cd pc = some (.iushr, 1, r1, r2)) (hx : rI x) (h0 : 0 ≤ k) (h1 : k < 32) (kk : mm_wp E me (pc + 1, Lc, .int (iI (x % 4294967296 / p)) :: r, M) Q) : mm_wp E me (pc, Lc, .int (iI k) :: .int (iI x) :: r, M) Q := wp_st (z' := (pc + 1, Lc, .int ((iI x).toUInt32 >>> ((iI k).toUInt32 &&& Int32.toUInt32 31)).toInt32 :: r, M)) (stp_of hc hi rfl) (by rw [iI_ushr hx h0 h1 hp]; exact kk)
theorem wl_and (hc : (mm_CM me).2.2.2.2.2.2.2 = cd) (hi : cd pc = some (.land, 1, r1, r2)) (hx : 0 ≤ x) (hy : 0 ≤ y) (kk : mm_wp E me (pc + 1, Lc, .long (lI (andI x y)) :: r, M) Q) : mm_wp E me (pc, Lc, .long (lI y) :: .long (lI x) :: r, M) Q := wp_st (z' := (pc + 1, Lc, .long (lI x &&& lI y) :: r, M)) (stp_of hc hi rfl) (by rw [lI_and hx hy]; exact kk)
theorem wl_msk (j : Nat) (p : Int) (hp : (2 : Int) ^ j = p) (hj : j ≤ 64) (hm : y = p - 1) (hc : (mm_CM me).2.2.2.2.2.2.2 = cd) (hi : cd pc = some (.land, 1, r1, r2)) (kk : mm_wp E me (pc + 1, Lc, .long (lI (x % p)) :: r, M) Q) : mm_wp E me (pc, Lc, .long (lI y) :: .long (lI x) :: r, M) Q := wp_st (z' := (pc + 1, Lc, .long (lI x &&& lI y) :: r, M)) (stp_of hc hi rfl) (by rw [lI_mask x hj hp hm]; exact kk)
theorem wl_or (hc : (mm_CM me).2.2.2.2.2.2.2 = cd) (hi : cd pc = some (.lor, 1, r1, r2)) (hx : 0 ≤ x) (hy : 0 ≤ y) (kk : mm_wp E me (pc + 1, Lc, .long (lI (orI x y)) :: r, M) Q) : mm_wp E me (pc, Lc, .long (lI y) :: .long (lI x) :: r, M) Q := wp_st (z' := (pc + 1, Lc, .long (lI x ||| lI y) :: r, M)) (stp_of hc hi rfl) (by rw [lI_or hx hy]; exact kk)
theorem wl_xor (hc : (mm_CM me).2.2.2.2.2.2.2 = cd) (hi : cd pc = some (.lxor, 1, r1, r2)) (hx : 0 ≤ x) (hy : 0 ≤ y) (kk : mm_wp E me (pc + 1, Lc, .long (lI (xorI x y)) :: r, M) Q) : mm_wp E me (pc, Lc, .long (lI y) :: .long (lI x) :: r, M) Q := wp_st (z' := (pc + 1, Lc, .long (lI x ^^^ lI y) :: r, M)) (stp_of hc hi rfl) (by rw [lI_xor hx hy]; exact kk)
theorem wl_shl (p : Int) (hp : (2 : Int) ^ k.toNat = p) (hc : (mm_CM me).2.2.2.2.2.2.2 = cd) (hi : cd pc = some (.lshl, 1, r1, r2)) (h0 : 0 ≤ k) (h1 : k < 64) (kk : mm_wp E me (pc + 1, Lc, .long (lI (x * p)) :: r, M) Q) : mm_wp E me (pc, Lc, .int (iI k) :: .long (lI x) :: r, M) Q := wp_st (z' := (pc + 1, Lc, .long (lI x <<< ((iI k).toInt64 &&& 63)) :: r, M)) (stp_of hc hi rfl) (by rw [lI_shl x h0 h1 hp]; exact kk)
theorem wl_ushr (p : Int) (hp : (2 : Int) ^ k.toNat = p) (hc : (mm_CM me).2.2.2.2.2.2.2 = cd) (hi : cd pc = some (.lushr, 1, r1, r2)) (hx0 : 0 ≤ x) (hx1 : x < 9223372036854775808) (h0 : 0 ≤ k) (h1 : k < 64) (kk : mm_wp E me (pc + 1, Lc, .long (lI (x / p)) :: r, M) Q) : mm_wp E me (pc, Lc, .int (iI k) :: .long (lI x) :: r, M) Q := wp_st (z' := (pc + 1, Lc, .long ((lI x).toUInt64 >>> ((iI k).toInt64.toUInt64 &&& Int64.toUInt64 63)).toInt64 :: r, M)) (stp_of hc hi rfl) (by rw [lI_ushr hx0 hx1 h0 h1 hp]; exact kk)
end WBT
