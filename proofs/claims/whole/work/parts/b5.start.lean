/-! How it begins. -/
def a0R : Int → Int := fun k => if k.toNat = 3 then 1 else if k.toNat = 4 then 31 else if k.toNat = 6 then -1 else if 10 ≤ k.toNat ∧ k.toNat < 13 then 30 else 0
theorem a0_hi {k : Int} (h : 13 ≤ k) : a0R k = 0 := by
  unfold a0R
  rw [if_neg (by omega), if_neg (by omega), if_neg (by omega), if_neg (by omega)]
theorem a0_w {x : Int} (h0 : 0 ≤ x) (h1 : x < 3) : a0R (10 + x) = 30 := by
  unfold a0R
  rw [if_neg (by omega), if_neg (by omega), if_neg (by omega), if_pos (by omega)]
theorem a0_VA (T : Int → Int) : VA a0R T := by
  have e0 : a0R 0 = 0 := by decide
  have e1 : a0R 1 = 0 := by decide
  have e2 : a0R 2 = 0 := by decide
  have e3 : a0R 3 = 1 := by decide
  have e4 : a0R 4 = 31 := by decide
  have e5 : a0R 5 = 0 := by decide
  have e6 : a0R 6 = -1 := by decide
  have e7 : a0R 7 = 0 := by decide
  have e8 : a0R 8 = 0 := by decide
  have e9 : a0R 9 = 0 := by decide
  refine ⟨⟨by omega, by omega, by omega, by omega, by omega, fun b h0 h1 => by omega, fun i h0 h1 => by omega⟩, ⟨by omega, fun x h0 h1 => ?_, fun x p h0 h1 h2 h3 => ?_, fun x p q h0 h1 h2 h3 h4 => ?_, fun b h0 h1 => by omega⟩, ⟨by omega, by omega, by omega, by omega, fun x h0 h1 => ?_, fun i h0 h1 => by omega⟩, fun i h0 h1 => by omega, fun h => by omega, by omega⟩
  · rw [a0_hi (by omega)]; omega
  · rw [a0_hi (by omega)] at h3; omega
  · rw [a0_hi (by omega)] at h4; omega
  · rw [a0_w h0 h1]; omega
theorem a0_Lg : okLg a0R := fun j h0 h1 => by
  rw [a0_hi (by omega), a0_hi (by omega), a0_hi (by omega), a0_hi (by omega)]
  omega
def s0R (xs : Nat → Int32) : Nat → Int → Int := fun a k => (zz_g xs [] 621 a k.toNat).toInt
theorem s0_G {xs : Nat → Int32} : mG (s0R xs) = zz_g xs [] 621 := by
  funext a k
  show iI ((zz_g xs [] 621 a ((k : Int).toNat)).toInt) = _
  rw [iI_of, Int.toNat_natCast]
theorem s0_lo {xs : Nat → Int32} {a : Nat} (h : a < 621) (k : Int) : s0R xs a k = (mm_G0 a k.toNat).toInt := by
  show ((if a < 621 then mm_G0 a else _) k.toNat).toInt = _
  rw [if_pos h]
theorem s0_row {xs : Nat → Int32} : s0R xs 599 = a0R ∧ s0R xs 600 = a0R := by
  constructor <;> funext k <;> rw [s0_lo (by decide)] <;> unfold a0R
  · show (if k.toNat = 3 then (1 : Int32) else if k.toNat = 4 then 31 else if k.toNat = 6 then (-1) else if 10 ≤ k.toNat ∧ k.toNat < 13 then 30 else 0).toInt = _
    (repeat' split) <;> rfl
  · show (if k.toNat = 3 then (1 : Int32) else if k.toNat = 4 then 31 else if k.toNat = 6 then (-1) else if 10 ≤ k.toNat ∧ k.toNat < 13 then 30 else 0).toInt = _
    (repeat' split) <;> rfl
theorem s0_LB {xs : Nat → Int32} {T : Int → Int} {b : Nat} (hb : b = 0 ∨ b = 288) : LB b (s0R xs) a0R T := by
  have e0 : a0R 0 = 0 := by decide
  have e5 : a0R 5 = 0 := by decide
  have e7 : a0R 7 = 0 := by decide
  have e8 : a0R 8 = 0 := by decide
  have v0 : cur a0R 0 = 0 := by decide
  have v4 : cur a0R 4 = 0 := by decide
  refine ⟨?_, fun x h0 h1 => ?_, fun k w h0 h1 => by omega, fun i h0 h1 => by omega, ⟨?_, ?_, ?_, ?_, fun x h0 h1 => ?_, fun x p h0 h1 h2 h3 => ?_, fun c h0 h1 => ?_, fun i h0 h1 => ?_⟩, fun i h0 h1 => by omega, fun i h0 h1 => by omega⟩
  · rcases hb with q | q <;> subst q <;> refine ⟨?_, ?_, ?_, ?_, ?_, ?_, ?_, ?_⟩ <;> rw [s0_lo (by decide)] <;> decide
  · rw [a0_w h0 h1]
    rcases hb with q | q <;> subst q <;> rw [s0_lo (by decide)] <;> rcases (by omega : x = 0 ∨ x = 1 ∨ x = 2) with z | z | z <;> subst z <;> decide
  · rw [v4]; rcases hb with q | q <;> subst q <;> rw [s0_lo (by decide)] <;> decide
  · rcases hb with q | q <;> subst q <;> rw [s0_lo (by decide)] <;> decide
  · rcases hb with q | q <;> subst q <;> rw [s0_lo (by decide)] <;> decide
  · rcases hb with q | q <;> subst q <;> rw [s0_lo (by decide)] <;> decide
  · rw [cur_many _ h0 h1, a0_hi (by omega)]
    rcases hb with q | q <;> subst q <;> rw [s0_lo (by decide)] <;> rfl
  · rw [cur_many _ h0 h1, a0_hi (by omega)] at h3; omega
  · rw [v0, if_neg (by omega)]
    rcases hb with q | q <;> subst q <;> rw [s0_lo (by decide)] <;> (show (if c.toNat < 10 then (3 : Int32) else 0).toInt = 3; rw [if_pos (by omega)]; rfl)
  · have : minI (cur a0R 4) 60 = 0 := by decide
    rw [this] at h1; omega
theorem s0_BZ {L : Nat} {xs : Nat → Int32} : BZ (mm_X L 584 (zz_g xs [] 621) (fun _ _ => 0)) := by
  have h0 : BZ (mm_M0 L xs) := fun a ha => absurd ha (Nat.not_lt_zero _)
  have h1 := bz_ev _ _ _ _ _ (sp_84 (d := 0) (L := L) (xs := xs)) (bz_al h0)
  have h2 := bz_ev _ _ _ _ _ (sp_146 (d := 0) (L := L) (xs := xs)) (bz_al h1)
  rw [← zz_X]
  exact h2
theorem s0_M {L : Nat} {xs : Nat → Int32} : mm_X L 584 (zz_g xs [] 621) (fun _ _ => 0) = MX L 584 (s0R xs) (fun _ _ => 0) := by
  show mm_X L 584 (zz_g xs [] 621) (fun _ _ => 0) = mm_X L 584 (mG (s0R xs)) (mL fun _ _ => 0)
  rw [s0_G]
  rfl
theorem s0_IV {L : Nat} {xs : Nat → Int32} : IV L xs (mm_X L 584 (zz_g xs [] 621) (fun _ _ => 0)) := by
  have hB := s0_BZ (L := L) (xs := xs)
  rw [s0_M] at hB
  refine ⟨584, s0R xs, fun _ _ => 0, a0R, a0R, s0R xs 601, s0_M, ⟨⟨s0_LB (Or.inl rfl), fun v h0 h1 => ?_⟩, ⟨s0_row.1, rfl, fun v h0 h1 => ?_⟩, a0_VA _, a0_Lg⟩, ⟨s0_LB (Or.inr rfl), fun k _ _ => by rw [s0_row.2], a0_VA _, a0_Lg, Int.le_refl _⟩, ⟨fun j h0 h1 => ?_, fun j => ?_, hB⟩, ⟨?_, ?_, ?_, ?_⟩, ?_, ?_⟩
  · rw [s0_lo (by decide)]
    have : (mm_G0 578 v.toNat).toInt = 0 := rfl
    omega
  · rw [s0_lo (by decide)]
    have : (mm_G0 604 v.toNat).toInt = 0 := rfl
    omega
  · rcases (by omega : j = 0 ∨ j = 1 ∨ j = 2 ∨ j = 3 ∨ j = 4 ∨ j = 5 ∨ j = 6) with z | z | z | z | z | z | z <;> subst z <;> rfl
  · show (zz_g xs [] 621 1000001 ((j : Int).toNat)).toInt = _
    rw [Int.toNat_natCast]
    rfl
  · rw [s0_lo (by decide), s0_lo (by decide)]; rfl
  · rw [s0_lo (by decide)]; decide
  · rw [s0_lo (by decide)]; decide
  · refine ⟨by funext k; rw [s0_lo (by decide), s0_lo (by decide)]; rfl, fun k => ?_⟩
    rw [s0_lo (by decide)]
    have : (mm_G0 597 k.toNat).toInt = 0 := rfl
    omega
  · rw [s0_lo (by decide), s0_lo (by decide)]; rfl
  · refine ⟨by rw [s0_lo (by decide), s0_lo (by decide)]; rfl, ?_⟩
    rw [s0_lo (by decide)]
    decide
