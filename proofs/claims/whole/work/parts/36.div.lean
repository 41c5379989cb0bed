/-! Quotients and rests of ints. -/
theorem iI_div {x y : Int} (hx : rI x) (hy : rI y) (hm : y ≠ -1 ∨ x ≠ -2147483648) : iI x / iI y = iI (x.tdiv y) := by
  have h : (iI x / iI y).toInt = x.tdiv y := by
    have hm2 : iI x ≠ Int32.minValue ∨ iI y ≠ -1 := by
      rcases hm with h | h
      · right
        intro q
        exact h ((iI_eq hy (y := -1) ⟨by decide, by decide⟩).mp q)
      · left
        intro q
        exact h ((iI_eq hx (y := -2147483648) ⟨by decide, by decide⟩).mp q)
    rcases hm2 with q | q
    · rw [Int32.toInt_div_of_ne_left _ _ q, iI_toInt hx, iI_toInt hy]
    · rw [Int32.toInt_div_of_ne_right _ _ q, iI_toInt hx, iI_toInt hy]
  rw [← h]
  exact (Int32.ofInt_toInt _).symm
section WD
variable {E : mm_EV} {me pc r1 r2 : Nat} {cd : Nat → Option mm_In} {Lc : List (Option Value)} {r : List Value} {M : mm_M} {Q : mm_Rs → Prop} {x y : Int}
theorem wi_div (hc : (mm_CM me).2.2.2.2.2.2.2 = cd) (hi : cd pc = some (.idiv, 1, r1, r2)) (hx : rI x) (hy : rI y) (h0 : y ≠ 0) (hm : y ≠ -1 ∨ x ≠ -2147483648) (k : mm_wp E me (pc + 1, Lc, .int (iI (x.tdiv y)) :: r, M) Q) : mm_wp E me (pc, Lc, .int (iI y) :: .int (iI x) :: r, M) Q := by
  refine wp_st (z' := (pc + 1, Lc, .int (iI x / iI y) :: r, M)) (stp_of hc hi ?_) (by rw [iI_div hx hy hm]; exact k)
  have hz : ¬ iI y = 0 := fun q => h0 ((iI_eq hy (y := 0) ⟨by decide, by decide⟩).mp q)
  show (if iI y = 0 then none else some (pc + 1, Lc, Value.int (iI x / iI y) :: r, M)) = _
  rw [if_neg hz]
/-- of what isn't below zero -/
theorem wi_divp (hc : (mm_CM me).2.2.2.2.2.2.2 = cd) (hi : cd pc = some (.idiv, 1, r1, r2)) (hx : rI x) (hy : rI y) (h0 : 0 ≤ x) (h1 : 0 < y) (k : mm_wp E me (pc + 1, Lc, .int (iI (x / y)) :: r, M) Q) : mm_wp E me (pc, Lc, .int (iI y) :: .int (iI x) :: r, M) Q := by
  refine wi_div hc hi hx hy (by omega) (by omega) ?_
  rw [Int.tdiv_eq_ediv_of_nonneg h0]
  exact k
theorem wi_remp (hc : (mm_CM me).2.2.2.2.2.2.2 = cd) (hi : cd pc = some (.irem, 1, r1, r2)) (hx : rI x) (hy : rI y) (h0 : 0 ≤ x) (h1 : 0 < y) (k : mm_wp E me (pc + 1, Lc, .int (iI (x % y)) :: r, M) Q) : mm_wp E me (pc, Lc, .int (iI y) :: .int (iI x) :: r, M) Q := by
  have e : iI x - iI x / iI y * iI y = iI (x % y) := by
    rw [iI_div hx hy (by omega), Int.tdiv_eq_ediv_of_nonneg h0, iI_mul, iI_sub]
    congr 1
    have := Int.mul_ediv_add_emod x y
    rw [Int.mul_comm] at this
    omega
  refine wp_st (z' := (pc + 1, Lc, .int (iI x - iI x / iI y * iI y) :: r, M)) (stp_of hc hi ?_) (by rw [e]; exact k)
  have hz : ¬ iI y = 0 := fun q => absurd ((iI_eq hy (y := 0) ⟨by decide, by decide⟩).mp q) (by omega)
  show (if iI y = 0 then none else some (pc + 1, Lc, Value.int (iI x - iI x / iI y * iI y) :: r, M)) = _
  rw [if_neg hz]
end WD
section WS
variable {E : mm_EV} {me pc r1 r2 : Nat} {cd : Nat → Option mm_In} {Lc : List (Option Value)} {r : List Value} {M : mm_M} {Q : mm_Rs → Prop} {x : Int}
theorem wi_ldc {z : Int} {idx : Nat} (hc : (mm_CM me).2.2.2.2.2.2.2 = cd) (hi : cd pc = some (.ldc idx, 2, r1, 0)) (e : Int32.ofNat r1 = iI z) (k : mm_wp E me (pc + 2, Lc, .int (iI z) :: r, M) Q) : mm_wp E me (pc, Lc, r, M) Q := wp_st (z' := (pc + 2, Lc, .int (Int32.ofNat r1) :: r, M)) (stp_of hc hi (by exact Or.inl rfl)) (by rw [e]; exact k)
theorem wi_ldw {z : Int} {idx : Nat} (hc : (mm_CM me).2.2.2.2.2.2.2 = cd) (hi : cd pc = some (.ldc_w idx, 3, r1, r2)) (e : Int32.ofNat r1 = iI z) (k : mm_wp E me (pc + 3, Lc, .int (iI z) :: r, M) Q) : mm_wp E me (pc, Lc, r, M) Q := wp_st (z' := (pc + 3, Lc, .int (Int32.ofNat r1) :: r, M)) (stp_of hc hi rfl) (by rw [e]; exact k)
/-- the places of a switch -/
def swI (pc : Nat) (x d : Int) (Lc : List (Option Value)) (r : List Value) (M : mm_M) : Int → List Int → mm_St
  | _, [] => (((pc : Int) + d).toNat, Lc, r, M)
  | lo, o :: os => if x = lo then (((pc : Int) + o).toNat, Lc, r, M) else swI pc x d Lc r M (lo + 1) os
theorem swI_eq {d : Int} (hx : rI x) : ∀ (os : List Int) (lo : Int), mm_swl pc (iI x) Lc r M d lo os = swI pc x d Lc r M lo os
  | [], _ => rfl
  | o :: os, lo => by
    unfold mm_swl swI
    rw [iI_toInt hx, swI_eq hx os (lo + 1)]
theorem wi_sw {d lo hi : Int} {os : Array Int} {ln : Nat} (hc : (mm_CM me).2.2.2.2.2.2.2 = cd) (hi : cd pc = some (.tableswitch d lo hi os, ln, r1, r2)) (hx : rI x) (k : mm_wp E me (swI pc x d Lc r M lo os.toList) Q) : mm_wp E me (pc, Lc, .int (iI x) :: r, M) Q := by
  refine wp_st (z' := mm_swl pc (iI x) Lc r M d lo os.toList) (stp_of hc hi rfl) ?_
  rw [swI_eq hx]
  exact k
end WS
section W01
variable {E : mm_EV} {me pc r1 r2 : Nat} {cd : Nat → Option mm_In} {Lc : List (Option Value)} {r : List Value} {M : mm_M} {Q : mm_Rs → Prop} {x y : Int}
theorem wi_or01 (hc : (mm_CM me).2.2.2.2.2.2.2 = cd) (hi : cd pc = some (.ior, 1, r1, r2)) (hx : x = 0 ∨ x = 1) (hy : y = 0 ∨ y = 1) (k : mm_wp E me (pc + 1, Lc, .int (iI (bI (x = 1 ∨ y = 1))) :: r, M) Q) : mm_wp E me (pc, Lc, .int (iI y) :: .int (iI x) :: r, M) Q := by
  refine wp_st (z' := (pc + 1, Lc, .int (iI x ||| iI y) :: r, M)) (stp_of hc hi rfl) ?_
  have e : iI x ||| iI y = iI (bI (x = 1 ∨ y = 1)) := by
    rcases hx with rfl | rfl <;> rcases hy with rfl | rfl <;> rfl
  rw [e]
  exact k
theorem wi_and01 (hc : (mm_CM me).2.2.2.2.2.2.2 = cd) (hi : cd pc = some (.iand, 1, r1, r2)) (hx : x = 0 ∨ x = 1) (hy : y = 0 ∨ y = 1) (k : mm_wp E me (pc + 1, Lc, .int (iI (bI (x = 1 ∧ y = 1))) :: r, M) Q) : mm_wp E me (pc, Lc, .int (iI y) :: .int (iI x) :: r, M) Q := by
  refine wp_st (z' := (pc + 1, Lc, .int (iI x &&& iI y) :: r, M)) (stp_of hc hi rfl) ?_
  have e : iI x &&& iI y = iI (bI (x = 1 ∧ y = 1)) := by
    rcases hx with rfl | rfl <;> rcases hy with rfl | rfl <;> rfl
  rw [e]
  exact k
end W01
