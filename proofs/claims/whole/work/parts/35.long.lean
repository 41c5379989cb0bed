/-! Longs as whole numbers. -/
def rL (x : Int) : Prop := -9223372036854775808 ≤ x ∧ x < 9223372036854775808
theorem lI_toInt {x : Int} (h : rL x) : (lI x).toInt = x := by
  have h1 := h.1
  have h2 := h.2
  exact Int64.toInt_ofInt_of_le (by omega) (by omega)
theorem lI_add (x y : Int) : lI x + lI y = lI (x + y) := (Int64.ofInt_add x y).symm
theorem lI_sub (x y : Int) : lI x - lI y = lI (x - y) := (Int64.ofInt_sub x y).symm
theorem lI_mul (x y : Int) : lI x * lI y = lI (x * y) := (Int64.ofInt_mul x y).symm
theorem lI_neg (x : Int) : - lI x = lI (-x) := (Int64.ofInt_neg x).symm
theorem lI_lt {x y : Int} (hx : rL x) (hy : rL y) : lI x < lI y ↔ x < y := by
  rw [Int64.lt_iff_toInt_lt, lI_toInt hx, lI_toInt hy]
theorem lI_eq {x y : Int} (hx : rL x) (hy : rL y) : lI x = lI y ↔ x = y := by
  constructor
  · intro h
    have := congrArg Int64.toInt h
    rwa [lI_toInt hx, lI_toInt hy] at this
  · intro h; rw [h]
theorem i2l_I {x : Int} (h : rI x) : (iI x).toInt64 = lI x := by
  rw [← Int64.ofInt_int32ToInt, iI_toInt h]
  rfl
theorem l2i_I (x : Int) : (lI x).toInt32 = iI x := Int64.toInt32_ofInt
theorem lI_div {x y : Int} (hx : rL x) (hy : rL y) (hm : y ≠ -1 ∨ x ≠ -9223372036854775808) : lI x / lI y = lI (x.tdiv y) := by
  have h : (lI x / lI y).toInt = x.tdiv y := by
    have hm2 : lI x ≠ Int64.minValue ∨ lI y ≠ -1 := by
      rcases hm with h | h
      · right
        intro q
        exact h ((lI_eq hy (y := -1) ⟨by decide, by decide⟩).mp q)
      · left
        intro q
        exact h ((lI_eq hx (y := -9223372036854775808) ⟨by decide, by decide⟩).mp q)
    rcases hm2 with q | q
    · rw [Int64.toInt_div_of_ne_left _ _ q, lI_toInt hx, lI_toInt hy]
    · rw [Int64.toInt_div_of_ne_right _ _ q, lI_toInt hx, lI_toInt hy]
  rw [← h]
  exact (Int64.ofInt_toInt _).symm
def cmpI (x y : Int) : Int := if x < y then -1 else if x = y then 0 else 1
theorem cmpI_r (x y : Int) : rI (cmpI x y) := by
  unfold cmpI
  split
  · exact ⟨by decide, by decide⟩
  · split <;> exact ⟨by decide, by decide⟩
theorem cmpI_spec (x y : Int) : (x < y ∧ cmpI x y = -1) ∨ (x = y ∧ cmpI x y = 0) ∨ (y < x ∧ cmpI x y = 1) := by
  unfold cmpI
  split
  · left; exact ⟨by assumption, rfl⟩
  · split
    · right; left; exact ⟨by assumption, rfl⟩
    · right; right; exact ⟨by omega, rfl⟩
theorem lg_I {x y : Int} (hx : rL x) (hy : rL y) : lg_cmp (lI x) (lI y) = iI (cmpI x y) := by
  unfold lg_cmp
  rcases cmpI_spec x y with ⟨h, e⟩ | ⟨h, e⟩ | ⟨h, e⟩
  · rw [e, if_neg (fun q : lI y < lI x => absurd ((lI_lt hy hx).mp q) (by omega)), if_neg (fun q => absurd ((lI_eq hx hy).mp q) (by omega))]
    rfl
  · rw [e, if_neg (fun q : lI y < lI x => absurd ((lI_lt hy hx).mp q) (by omega)), if_pos ((lI_eq hx hy).mpr h)]
    rfl
  · rw [e, if_pos (show lI y < lI x from (lI_lt hy hx).mpr h)]
    rfl
section WL
variable {E : mm_EV} {me pc r1 r2 : Nat} {cd : Nat → Option mm_In} {Lc : List (Option Value)} {r : List Value} {M : mm_M} {Q : mm_Rs → Prop} {x y : Int}
theorem wl_ic {z : Int} (hc : (mm_CM me).2.2.2.2.2.2.2 = cd) (hi : ∃ n' , cd pc = some (.lconst n', 1, r1, r2) ∧ Int64.ofNat (n' : Nat) = lI z) (k : mm_wp E me (pc + 1, Lc, .long (lI z) :: r, M) Q) : mm_wp E me (pc, Lc, r, M) Q := by
  obtain ⟨n', hi, e⟩ := hi
  exact wp_st (z' := (pc + 1, Lc, .long (Int64.ofNat (n' : Nat)) :: r, M)) (stp_of hc hi rfl) (by rw [e]; exact k)
theorem wl_ld {z : Int} {idx : Nat} (hc : (mm_CM me).2.2.2.2.2.2.2 = cd) (hi : cd pc = some (.ldc2_w idx, 3, r1, r2)) (e : Int64.ofNat r1 = lI z) (k : mm_wp E me (pc + 3, Lc, .long (lI z) :: r, M) Q) : mm_wp E me (pc, Lc, r, M) Q := wp_st (z' := (pc + 3, Lc, .long (Int64.ofNat r1) :: r, M)) (stp_of hc hi rfl) (by rw [e]; exact k)
theorem wl_add (hc : (mm_CM me).2.2.2.2.2.2.2 = cd) (hi : cd pc = some (.ladd, 1, r1, r2)) (k : mm_wp E me (pc + 1, Lc, .long (lI (x + y)) :: r, M) Q) : mm_wp E me (pc, Lc, .long (lI y) :: .long (lI x) :: r, M) Q := wp_st (z' := (pc + 1, Lc, .long (lI x + lI y) :: r, M)) (stp_of hc hi rfl) (by rw [lI_add]; exact k)
theorem wl_sub (hc : (mm_CM me).2.2.2.2.2.2.2 = cd) (hi : cd pc = some (.lsub, 1, r1, r2)) (k : mm_wp E me (pc + 1, Lc, .long (lI (x - y)) :: r, M) Q) : mm_wp E me (pc, Lc, .long (lI y) :: .long (lI x) :: r, M) Q := wp_st (z' := (pc + 1, Lc, .long (lI x - lI y) :: r, M)) (stp_of hc hi rfl) (by rw [lI_sub]; exact k)
theorem wl_mul (hc : (mm_CM me).2.2.2.2.2.2.2 = cd) (hi : cd pc = some (.lmul, 1, r1, r2)) (k : mm_wp E me (pc + 1, Lc, .long (lI (x * y)) :: r, M) Q) : mm_wp E me (pc, Lc, .long (lI y) :: .long (lI x) :: r, M) Q := wp_st (z' := (pc + 1, Lc, .long (lI x * lI y) :: r, M)) (stp_of hc hi rfl) (by rw [lI_mul]; exact k)
theorem wl_neg (hc : (mm_CM me).2.2.2.2.2.2.2 = cd) (hi : cd pc = some (.lneg, 1, r1, r2)) (k : mm_wp E me (pc + 1, Lc, .long (lI (-x)) :: r, M) Q) : mm_wp E me (pc, Lc, .long (lI x) :: r, M) Q := wp_st (z' := (pc + 1, Lc, .long (- lI x) :: r, M)) (stp_of hc hi rfl) (by rw [lI_neg]; exact k)
theorem wl_i2l (hc : (mm_CM me).2.2.2.2.2.2.2 = cd) (hi : cd pc = some (.i2l, 1, r1, r2)) (hx : rI x) (k : mm_wp E me (pc + 1, Lc, .long (lI x) :: r, M) Q) : mm_wp E me (pc, Lc, .int (iI x) :: r, M) Q := wp_st (z' := (pc + 1, Lc, .long (iI x).toInt64 :: r, M)) (stp_of hc hi rfl) (by rw [i2l_I hx]; exact k)
theorem wl_l2i (hc : (mm_CM me).2.2.2.2.2.2.2 = cd) (hi : cd pc = some (.l2i, 1, r1, r2)) (k : mm_wp E me (pc + 1, Lc, .int (iI x) :: r, M) Q) : mm_wp E me (pc, Lc, .long (lI x) :: r, M) Q := wp_st (z' := (pc + 1, Lc, .int (lI x).toInt32 :: r, M)) (stp_of hc hi rfl) (by rw [l2i_I]; exact k)
theorem wl_cmp (hc : (mm_CM me).2.2.2.2.2.2.2 = cd) (hi : cd pc = some (.lcmp, 1, r1, r2)) (hx : rL x) (hy : rL y) (k : mm_wp E me (pc + 1, Lc, .int (iI (cmpI x y)) :: r, M) Q) : mm_wp E me (pc, Lc, .long (lI y) :: .long (lI x) :: r, M) Q := wp_st (z' := (pc + 1, Lc, .int (lg_cmp (lI x) (lI y)) :: r, M)) (stp_of hc hi rfl) (by rw [lg_I hx hy]; exact k)
theorem wl_div (hc : (mm_CM me).2.2.2.2.2.2.2 = cd) (hi : cd pc = some (.ldiv, 1, r1, r2)) (hx : rL x) (hy : rL y) (h0 : y ≠ 0) (hm : y ≠ -1 ∨ x ≠ -9223372036854775808) (k : mm_wp E me (pc + 1, Lc, .long (lI (x.tdiv y)) :: r, M) Q) : mm_wp E me (pc, Lc, .long (lI y) :: .long (lI x) :: r, M) Q := by
  refine wp_st (z' := (pc + 1, Lc, .long (lI x / lI y) :: r, M)) (stp_of hc hi ?_) (by rw [lI_div hx hy hm]; exact k)
  have hz : ¬ lI y = 0 := fun q => h0 ((lI_eq hy (y := 0) ⟨by decide, by decide⟩).mp q)
  show (if lI y = 0 then none else some (pc + 1, Lc, Value.long (lI x / lI y) :: r, M)) = _
  rw [if_neg hz]
end WL
