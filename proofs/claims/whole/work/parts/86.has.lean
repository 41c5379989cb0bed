/-! Sets by bits. -/
theorem sp_149 {d L t : Nat} {s l : Nat → Int → Int} {x i : Int} (hx : rI x) (h0 : 0 ≤ i) (h1 : i < 32) : mm_Ev mm_ct mm_CM (d + 1) 149 [.int (iI x), .int (iI i)] (MX L t s l) (some (.int (iI (bI (x / 2 ^ i.toNat % 2 = 1)))), MX L t s l) := by
  have hc : (mm_CM 149).2.2.2.2.2.2.2 = mm_cf cd_149 := by rw [cm_149]; rfl
  refine ev_of (mx := 2) (by rw [cm_149]; decide) (by rw [cm_149]; rfl) (by show 2 ≤ _; decide) ?_
  show mm_wp _ _ (0, [some (.int (iI x)), some (.int (iI i))], [], MX L t s l) (fun r => r = (some (.int (iI (bI (x / 2 ^ i.toNat % 2 = 1)))), MX L t s l))
  refine wi_i1 hc rfl rfl ?_
  refine wi_i1 hc rfl rfl ?_
  refine wi_shr (2 ^ i.toNat) rfl hc rfl hx (by omega) (by omega) ?_
  refine wi_ic hc rfl ?_
  refine wi_msk 1 2 rfl (by decide) (by decide) hc rfl ?_
  refine wi_ic hc rfl ?_
  refine wi_cne hc rfl ⟨by omega, by omega⟩ ⟨by decide, by decide⟩ (fun h1_ => ?_) (fun h1_ => ?_)
  · refine wi_ic hc rfl ?_
    refine wi_r0 hc rfl (by rw [cm_149]; rfl) ?_
    rw [bI_f (p := x / 2 ^ i.toNat % 2 = 1) (by omega)]
  · refine wi_ic hc rfl ?_
    refine wi_go hc rfl ?_
    refine wi_r1 hc rfl (by rw [cm_149]; rfl) ?_
    rw [bI_t (p := x / 2 ^ i.toNat % 2 = 1) (by omega)]
