/-! Small methods of both sides. -/
theorem sp_125 {d L t : Nat} {s l : Nat → Int → Int} {x : Int} (hx : rI x) : mm_Ev mm_ct mm_CM (d + 1) 125 [.int (iI x)] (MX L t s l) (some (.int (iI (bI (0 ≤ x ∧ x ≤ 2)))), MX L t s l) := by
  have hc : (mm_CM 125).2.2.2.2.2.2.2 = mm_cf cd_125 := by rw [cm_125]; rfl
  refine ev_of (mx := 1) (by rw [cm_125]; decide) (by rw [cm_125]; rfl) (by show 1 ≤ _; decide) ?_
  show mm_wp _ _ (0, [some (.int (iI x))], [], MX L t s l) _
  refine wi_i1 hc rfl rfl ?_
  refine wi_zlt hc rfl hx (fun h1_ => ?_) (fun h1_ => ?_)
  · refine wi_ic hc rfl ?_
    refine wi_r0 hc rfl (by rw [cm_125]; rfl) ?_
    rw [bI_f (p := 0 ≤ x ∧ x ≤ 2) (by omega)]
  · refine wi_i1 hc rfl rfl ?_
    refine wi_ic hc rfl ?_
    refine wi_cge hc rfl hx ⟨by decide, by decide⟩ (fun h2_ => ?_) (fun h2_ => ?_)
    · refine wi_ic hc rfl ?_
      refine wi_r0 hc rfl (by rw [cm_125]; rfl) ?_
      rw [bI_f (p := 0 ≤ x ∧ x ≤ 2) (by omega)]
    · refine wi_ic hc rfl ?_
      refine wi_go hc rfl ?_
      refine wi_r1 hc rfl (by rw [cm_125]; rfl) ?_
      rw [bI_t (p := 0 ≤ x ∧ x ≤ 2) (by omega)]
theorem sp_148 {d L t : Nat} {s l : Nat → Int → Int} {x lo hi : Int} (hx : rI x) (h1 : rI lo) (h2 : rI hi) : mm_Ev mm_ct mm_CM (d + 1) 148 [.int (iI x), .int (iI lo), .int (iI hi)] (MX L t s l) (some (.int (iI (bI (lo ≤ x ∧ x ≤ hi)))), MX L t s l) := by
  have hc : (mm_CM 148).2.2.2.2.2.2.2 = mm_cf cd_148 := by rw [cm_148]; rfl
  refine ev_of (mx := 3) (by rw [cm_148]; decide) (by rw [cm_148]; rfl) (by show 3 ≤ _; decide) ?_
  show mm_wp _ _ (0, [some (.int (iI x)), some (.int (iI lo)), some (.int (iI hi))], [], MX L t s l) _
  refine wi_i1 hc rfl rfl ?_
  refine wi_i1 hc rfl rfl ?_
  refine wi_clt hc rfl hx h1 (fun h1_ => ?_) (fun h1_ => ?_)
  · refine wi_ic hc rfl ?_
    refine wi_r0 hc rfl (by rw [cm_148]; rfl) ?_
    rw [bI_f (p := lo ≤ x ∧ x ≤ hi) (by omega)]
  · refine wi_i1 hc rfl rfl ?_
    refine wi_i1 hc rfl rfl ?_
    refine wi_cgt hc rfl hx h2 (fun h2_ => ?_) (fun h2_ => ?_)
    · refine wi_ic hc rfl ?_
      refine wi_r0 hc rfl (by rw [cm_148]; rfl) ?_
      rw [bI_f (p := lo ≤ x ∧ x ≤ hi) (by omega)]
    · refine wi_ic hc rfl ?_
      refine wi_go hc rfl ?_
      refine wi_r1 hc rfl (by rw [cm_148]; rfl) ?_
      rw [bI_t (p := lo ≤ x ∧ x ≤ hi) (by omega)]
