/-! Rules over whole numbers: memory is s (ints) and l (longs) by cell and slot. -/
def iI (x : Int) : Int32 := Int32.ofInt x
def lI (x : Int) : Int64 := Int64.ofInt x
def rI (x : Int) : Prop := -2147483648 ≤ x ∧ x < 2147483648
theorem rI_of {x : Int} (h1 : -2147483648 ≤ x) (h2 : x < 2147483648) : rI x := ⟨h1, h2⟩
theorem iI_toInt {x : Int} (h : rI x) : (iI x).toInt = x := by
  have h1 := h.1
  have h2 := h.2
  exact Int32.toInt_ofInt_of_le (by omega) (by omega)
theorem iI_of (v : Int32) : iI v.toInt = v := Int32.ofInt_toInt v
theorem rI_v (v : Int32) : rI v.toInt := ⟨by have := Int32.le_toInt v; omega, by have := Int32.toInt_lt v; omega⟩
theorem iI_add (x y : Int) : iI x + iI y = iI (x + y) := (Int32.ofInt_add x y).symm
theorem iI_sub (x y : Int) : iI x - iI y = iI (x - y) := (Int32.ofInt_sub x y).symm
theorem iI_mul (x y : Int) : iI x * iI y = iI (x * y) := (Int32.ofInt_mul x y).symm
theorem iI_neg (x : Int) : - iI x = iI (-x) := (Int32.ofInt_neg x).symm
theorem iI_lt {x y : Int} (hx : rI x) (hy : rI y) : iI x < iI y ↔ x < y := by
  rw [Int32.lt_iff_toInt_lt, iI_toInt hx, iI_toInt hy]
theorem iI_le {x y : Int} (hx : rI x) (hy : rI y) : iI x ≤ iI y ↔ x ≤ y := by
  rw [Int32.le_iff_toInt_le, iI_toInt hx, iI_toInt hy]
theorem iI_eq {x y : Int} (hx : rI x) (hy : rI y) : iI x = iI y ↔ x = y := by
  constructor
  · intro h
    have := congrArg Int32.toInt h
    rwa [iI_toInt hx, iI_toInt hy] at this
  · intro h; rw [h]
theorem iI_nat {x : Int} (h0 : 0 ≤ x) (h : x < 2147483648) : (iI x).toNatClampNeg = x.toNat := by
  show (iI x).toInt.toNat = _
  rw [iI_toInt ⟨by omega, h⟩]
theorem iI_pos {x : Int} (h0 : 0 ≤ x) (h : x < 2147483648) : ¬ iI x < 0 := by
  show ¬ iI x < iI 0
  rw [iI_lt ⟨by omega, h⟩ ⟨by decide, by decide⟩]
  omega
theorem r0 : rI 0 := ⟨by decide, by decide⟩
theorem iI_zero : iI 0 = 0 := rfl
theorem iI_nI (n : Nat) : nI n = iI n := rfl
def up (s : Nat → Int → Int) (a : Nat) (k v : Int) : Nat → Int → Int := fun b j => if b = a ∧ j = k then v else s b j
theorem up_at {s : Nat → Int → Int} {a : Nat} {k v : Int} : up s a k v a k = v := by simp [up]
theorem up_ne {s : Nat → Int → Int} {a b : Nat} {k j v : Int} (h : ¬ (b = a ∧ j = k)) : up s a k v b j = s b j := by simp [up, h]
theorem up_c {s : Nat → Int → Int} {a b : Nat} {k j v : Int} (h : b ≠ a) : up s a k v b j = s b j := by simp [up, h]
theorem up_k {s : Nat → Int → Int} {a b : Nat} {k j v : Int} (h : j ≠ k) : up s a k v b j = s b j := by simp [up, h]
def mG (s : Nat → Int → Int) : Nat → Nat → Int32 := fun c k => iI (s c k)
def mL (l : Nat → Int → Int) : Nat → Nat → Int64 := fun c k => lI (l c k)
abbrev MX (L t : Nat) (s l : Nat → Int → Int) : mm_M := mm_X L t (mG s) (mL l)
theorem mG_up {s : Nat → Int → Int} {a : Nat} {k v : Int} (h : 0 ≤ k) : mm_u2 (mG s) a k.toNat (iI v) = mG (up s a k v) := by
  funext b j
  show _ = iI (up s a k v b j)
  by_cases hb : b = a ∧ (j : Int) = k
  · have : b = a ∧ j = k.toNat := ⟨hb.1, by omega⟩
    obtain ⟨rfl, rfl⟩ := this
    simp [mm_u2, up, hb.2]
  · have hb2 : ¬ (b = a ∧ j = k.toNat) := fun q => hb ⟨q.1, by omega⟩
    rw [up_ne hb]
    have : mm_u2 (mG s) a k.toNat (iI v) b j = mG s b j := by
      unfold mm_u2
      by_cases h1 : b = a
      · have h2 : ¬ j = k.toNat := fun q => hb2 ⟨h1, q⟩
        simp [h1, h2]
      · simp [h1]
    rw [this]
    rfl
theorem mL_up {s : Nat → Int → Int} {a : Nat} {k v : Int} (h : 0 ≤ k) : mm_u2 (mL s) a k.toNat (lI v) = mL (up s a k v) := by
  funext b j
  show _ = lI (up s a k v b j)
  by_cases hb : b = a ∧ (j : Int) = k
  · have : b = a ∧ j = k.toNat := ⟨hb.1, by omega⟩
    obtain ⟨rfl, rfl⟩ := this
    simp [mm_u2, up, hb.2]
  · have hb2 : ¬ (b = a ∧ j = k.toNat) := fun q => hb ⟨q.1, by omega⟩
    rw [up_ne hb]
    have : mm_u2 (mL s) a k.toNat (lI v) b j = mL s b j := by
      unfold mm_u2
      by_cases h1 : b = a
      · have h2 : ¬ j = k.toNat := fun q => hb2 ⟨h1, q⟩
        simp [h1, h2]
      · simp [h1]
    rw [this]
    rfl
/-- a yes or no as an int -/
def bI (p : Prop) [Decidable p] : Int := if p then 1 else 0
theorem bI_t {p : Prop} [Decidable p] (h : p) : bI p = 1 := if_pos h
theorem bI_f {p : Prop} [Decidable p] (h : ¬ p) : bI p = 0 := if_neg h
theorem bI_01 (p : Prop) [Decidable p] : bI p = 0 ∨ bI p = 1 := by
  unfold bI; split <;> simp
theorem bI_r (p : Prop) [Decidable p] : 0 ≤ bI p ∧ bI p ≤ 1 := by
  unfold bI; split <;> simp
section WI
variable {E : mm_EV} {me pc r1 r2 : Nat} {cd : Nat → Option mm_In} {Lc : List (Option Value)} {r : List Value} {M : mm_M} {Q : mm_Rs → Prop} {x y : Int}
theorem wi_ic {n : Int} (hc : (mm_CM me).2.2.2.2.2.2.2 = cd) (hi : cd pc = some (.iconst n, 1, r1, r2)) (k : mm_wp E me (pc + 1, Lc, .int (iI n) :: r, M) Q) : mm_wp E me (pc, Lc, r, M) Q := wp_st (stp_of hc hi rfl) k
theorem wi_bi {n : Int} (hc : (mm_CM me).2.2.2.2.2.2.2 = cd) (hi : cd pc = some (.bipush n, 2, r1, r2)) (hn : (Int8.ofInt n).toInt32 = iI n) (k : mm_wp E me (pc + 2, Lc, .int (iI n) :: r, M) Q) : mm_wp E me (pc, Lc, r, M) Q := wp_st (z' := (pc + 2, Lc, .int (Int8.ofInt n).toInt32 :: r, M)) (stp_of hc hi rfl) (by rw [hn]; exact k)
theorem wi_si {n : Int} (hc : (mm_CM me).2.2.2.2.2.2.2 = cd) (hi : cd pc = some (.sipush n, 3, r1, r2)) (hn : (Int16.ofInt n).toInt32 = iI n) (k : mm_wp E me (pc + 3, Lc, .int (iI n) :: r, M) Q) : mm_wp E me (pc, Lc, r, M) Q := wp_st (z' := (pc + 3, Lc, .int (Int16.ofInt n).toInt32 :: r, M)) (stp_of hc hi rfl) (by rw [hn]; exact k)
theorem wi_i1 {kk : Fin 4} {v : Int32} (hc : (mm_CM me).2.2.2.2.2.2.2 = cd) (hi : cd pc = some (.iload_n kk, 1, r1, r2)) (hL : mm_nth Lc kk = some (some (.int v))) (k : mm_wp E me (pc + 1, Lc, .int v :: r, M) Q) : mm_wp E me (pc, Lc, r, M) Q := by
  refine wp_st (stp_of hc hi ?_) k
  show mm_ld pc Lc r M kk 1 0 = _
  unfold mm_ld
  rw [hL]
  rfl
theorem wi_i2 {kk : Nat} {v : Int32} (hc : (mm_CM me).2.2.2.2.2.2.2 = cd) (hi : cd pc = some (.iload kk, 2, r1, r2)) (hL : mm_nth Lc kk = some (some (.int v))) (k : mm_wp E me (pc + 2, Lc, .int v :: r, M) Q) : mm_wp E me (pc, Lc, r, M) Q := by
  refine wp_st (stp_of hc hi ?_) k
  show mm_ld pc Lc r M kk 2 0 = _
  unfold mm_ld
  rw [hL]
  rfl
theorem wi_is1 {kk : Fin 4} {v : Int32} {L' : List (Option Value)} (hc : (mm_CM me).2.2.2.2.2.2.2 = cd) (hi : cd pc = some (.istore_n kk, 1, r1, r2)) (hk : (kk : Nat) < Lc.length) (hL : mm_s1 Lc kk (.int v) = L') (k : mm_wp E me (pc + 1, L', r, M) Q) : mm_wp E me (pc, Lc, .int v :: r, M) Q := by
  refine wp_st (z' := (pc + 1, L', r, M)) (stp_of hc hi ?_) k
  show (if (kk : Nat) < Lc.length then some (pc + 1, mm_s1 Lc kk (.int v), r, M) else none) = _
  rw [if_pos hk, hL]
theorem wi_is2 {kk : Nat} {v : Int32} {L' : List (Option Value)} (hc : (mm_CM me).2.2.2.2.2.2.2 = cd) (hi : cd pc = some (.istore kk, 2, r1, r2)) (hk : (kk : Nat) < Lc.length) (hL : mm_s1 Lc kk (.int v) = L') (k : mm_wp E me (pc + 2, L', r, M) Q) : mm_wp E me (pc, Lc, .int v :: r, M) Q := by
  refine wp_st (z' := (pc + 2, L', r, M)) (stp_of hc hi ?_) k
  show (if (kk : Nat) < Lc.length then some (pc + 2, mm_s1 Lc kk (.int v), r, M) else none) = _
  rw [if_pos hk, hL]
theorem wi_l1 {kk : Fin 4} {v : Int64} (hc : (mm_CM me).2.2.2.2.2.2.2 = cd) (hi : cd pc = some (.lload_n kk, 1, r1, r2)) (hL : mm_nth Lc kk = some (some (.long v))) (k : mm_wp E me (pc + 1, Lc, .long v :: r, M) Q) : mm_wp E me (pc, Lc, r, M) Q := by
  refine wp_st (stp_of hc hi ?_) k
  show mm_ld pc Lc r M kk 1 1 = _
  unfold mm_ld
  rw [hL]
  rfl
theorem wi_l2 {kk : Nat} {v : Int64} (hc : (mm_CM me).2.2.2.2.2.2.2 = cd) (hi : cd pc = some (.lload kk, 2, r1, r2)) (hL : mm_nth Lc kk = some (some (.long v))) (k : mm_wp E me (pc + 2, Lc, .long v :: r, M) Q) : mm_wp E me (pc, Lc, r, M) Q := by
  refine wp_st (stp_of hc hi ?_) k
  show mm_ld pc Lc r M kk 2 1 = _
  unfold mm_ld
  rw [hL]
  rfl
theorem wi_ls1 {kk : Fin 4} {v : Int64} {L' : List (Option Value)} (hc : (mm_CM me).2.2.2.2.2.2.2 = cd) (hi : cd pc = some (.lstore_n kk, 1, r1, r2)) (hk : (kk : Nat) + 1 < Lc.length) (hL : mm_s2 Lc kk (.long v) = L') (k : mm_wp E me (pc + 1, L', r, M) Q) : mm_wp E me (pc, Lc, .long v :: r, M) Q := by
  refine wp_st (z' := (pc + 1, L', r, M)) (stp_of hc hi ?_) k
  show (if (kk : Nat) + 1 < Lc.length then some (pc + 1, mm_s2 Lc kk (.long v), r, M) else none) = _
  rw [if_pos hk, hL]
theorem wi_ls2 {kk : Nat} {v : Int64} {L' : List (Option Value)} (hc : (mm_CM me).2.2.2.2.2.2.2 = cd) (hi : cd pc = some (.lstore kk, 2, r1, r2)) (hk : (kk : Nat) + 1 < Lc.length) (hL : mm_s2 Lc kk (.long v) = L') (k : mm_wp E me (pc + 2, L', r, M) Q) : mm_wp E me (pc, Lc, .long v :: r, M) Q := by
  refine wp_st (z' := (pc + 2, L', r, M)) (stp_of hc hi ?_) k
  show (if (kk : Nat) + 1 < Lc.length then some (pc + 2, mm_s2 Lc kk (.long v), r, M) else none) = _
  rw [if_pos hk, hL]
theorem wi_a1 {kk : Fin 4} {v : Nat} (hc : (mm_CM me).2.2.2.2.2.2.2 = cd) (hi : cd pc = some (.aload_n kk, 1, r1, r2)) (hL : mm_nth Lc kk = some (some (.ref v))) (k : mm_wp E me (pc + 1, Lc, .ref v :: r, M) Q) : mm_wp E me (pc, Lc, r, M) Q := by
  refine wp_st (stp_of hc hi ?_) k
  show mm_ld pc Lc r M kk 1 2 = _
  unfold mm_ld
  rw [hL]
  rfl
theorem wi_a2 {kk : Nat} {v : Nat} (hc : (mm_CM me).2.2.2.2.2.2.2 = cd) (hi : cd pc = some (.aload kk, 2, r1, r2)) (hL : mm_nth Lc kk = some (some (.ref v))) (k : mm_wp E me (pc + 2, Lc, .ref v :: r, M) Q) : mm_wp E me (pc, Lc, r, M) Q := by
  refine wp_st (stp_of hc hi ?_) k
  show mm_ld pc Lc r M kk 2 2 = _
  unfold mm_ld
  rw [hL]
  rfl
theorem wi_as1 {kk : Fin 4} {v : Nat} {L' : List (Option Value)} (hc : (mm_CM me).2.2.2.2.2.2.2 = cd) (hi : cd pc = some (.astore_n kk, 1, r1, r2)) (hk : (kk : Nat) < Lc.length) (hL : mm_s1 Lc kk (.ref v) = L') (k : mm_wp E me (pc + 1, L', r, M) Q) : mm_wp E me (pc, Lc, .ref v :: r, M) Q := by
  refine wp_st (z' := (pc + 1, L', r, M)) (stp_of hc hi ?_) k
  show (if (kk : Nat) < Lc.length then some (pc + 1, mm_s1 Lc kk (.ref v), r, M) else none) = _
  rw [if_pos hk, hL]
theorem wi_as2 {kk : Nat} {v : Nat} {L' : List (Option Value)} (hc : (mm_CM me).2.2.2.2.2.2.2 = cd) (hi : cd pc = some (.astore kk, 2, r1, r2)) (hk : (kk : Nat) < Lc.length) (hL : mm_s1 Lc kk (.ref v) = L') (k : mm_wp E me (pc + 2, L', r, M) Q) : mm_wp E me (pc, Lc, .ref v :: r, M) Q := by
  refine wp_st (z' := (pc + 2, L', r, M)) (stp_of hc hi ?_) k
  show (if (kk : Nat) < Lc.length then some (pc + 2, mm_s1 Lc kk (.ref v), r, M) else none) = _
  rw [if_pos hk, hL]
theorem wi_inc {kk : Nat} {n : Int} {L' : List (Option Value)} (hc : (mm_CM me).2.2.2.2.2.2.2 = cd) (hi : cd pc = some (.iinc kk n, 3, r1, r2)) (hx : mm_nth Lc kk = some (some (.int (iI x)))) (hL : mm_s1 Lc kk (.int (iI (x + n))) = L') (k : mm_wp E me (pc + 3, L', r, M) Q) : mm_wp E me (pc, Lc, r, M) Q := by
  refine wp_st (z' := (pc + 3, L', r, M)) (stp_of hc hi ?_) k
  show (match mm_nth Lc kk with | some (some (.int x)) => some (pc + 3, mm_s1 Lc kk (.int (x + Int32.ofInt n)), r, M) | _ => none) = _
  rw [hx, ← hL, ← iI_add]
  rfl
theorem wi_add (hc : (mm_CM me).2.2.2.2.2.2.2 = cd) (hi : cd pc = some (.iadd, 1, r1, r2)) (k : mm_wp E me (pc + 1, Lc, .int (iI (x + y)) :: r, M) Q) : mm_wp E me (pc, Lc, .int (iI y) :: .int (iI x) :: r, M) Q := wp_st (z' := (pc + 1, Lc, .int (iI x + iI y) :: r, M)) (stp_of hc hi rfl) (by rw [iI_add]; exact k)
theorem wi_sub (hc : (mm_CM me).2.2.2.2.2.2.2 = cd) (hi : cd pc = some (.isub, 1, r1, r2)) (k : mm_wp E me (pc + 1, Lc, .int (iI (x - y)) :: r, M) Q) : mm_wp E me (pc, Lc, .int (iI y) :: .int (iI x) :: r, M) Q := wp_st (z' := (pc + 1, Lc, .int (iI x - iI y) :: r, M)) (stp_of hc hi rfl) (by rw [iI_sub]; exact k)
theorem wi_mul (hc : (mm_CM me).2.2.2.2.2.2.2 = cd) (hi : cd pc = some (.imul, 1, r1, r2)) (k : mm_wp E me (pc + 1, Lc, .int (iI (x * y)) :: r, M) Q) : mm_wp E me (pc, Lc, .int (iI y) :: .int (iI x) :: r, M) Q := wp_st (z' := (pc + 1, Lc, .int (iI x * iI y) :: r, M)) (stp_of hc hi rfl) (by rw [iI_mul]; exact k)
theorem wi_neg (hc : (mm_CM me).2.2.2.2.2.2.2 = cd) (hi : cd pc = some (.ineg, 1, r1, r2)) (k : mm_wp E me (pc + 1, Lc, .int (iI (-x)) :: r, M) Q) : mm_wp E me (pc, Lc, .int (iI x) :: r, M) Q := wp_st (z' := (pc + 1, Lc, .int (- iI x) :: r, M)) (stp_of hc hi rfl) (by rw [iI_neg]; exact k)
theorem wi_go {o : Int} (hc : (mm_CM me).2.2.2.2.2.2.2 = cd) (hi : cd pc = some (.goto o, 3, r1, r2)) (k : mm_wp E me (r1, Lc, r, M) Q) : mm_wp E me (pc, Lc, r, M) Q := wp_st (stp_of hc hi rfl) k
theorem wi_dup {v : Int32} (hc : (mm_CM me).2.2.2.2.2.2.2 = cd) (hi : cd pc = some (.dup, 1, r1, r2)) (k : mm_wp E me (pc + 1, Lc, .int v :: .int v :: r, M) Q) : mm_wp E me (pc, Lc, .int v :: r, M) Q := wp_st (stp_of hc hi rfl) k
theorem wi_dupr {v : Nat} (hc : (mm_CM me).2.2.2.2.2.2.2 = cd) (hi : cd pc = some (.dup, 1, r1, r2)) (k : mm_wp E me (pc + 1, Lc, .ref v :: .ref v :: r, M) Q) : mm_wp E me (pc, Lc, .ref v :: r, M) Q := wp_st (stp_of hc hi rfl) k
theorem wi_dup2 {v : Nat} {w : Int32} (hc : (mm_CM me).2.2.2.2.2.2.2 = cd) (hi : cd pc = some (.dup2, 1, r1, r2)) (k : mm_wp E me (pc + 1, Lc, .int w :: .ref v :: .int w :: .ref v :: r, M) Q) : mm_wp E me (pc, Lc, .int w :: .ref v :: r, M) Q := wp_st (stp_of hc hi rfl) k
theorem wi_pop {v : Int32} (hc : (mm_CM me).2.2.2.2.2.2.2 = cd) (hi : cd pc = some (.pop, 1, r1, r2)) (k : mm_wp E me (pc + 1, Lc, r, M) Q) : mm_wp E me (pc, Lc, .int v :: r, M) Q := wp_st (stp_of hc hi rfl) k
end WI
