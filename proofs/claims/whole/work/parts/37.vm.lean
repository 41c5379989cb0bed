/-! The stack machines of both sides: one step's arithmetic. -/
def clipI (v : Int) : Int := if v > 1000000 then 1000000 else if v < -1000000 then -1000000 else v
theorem sp_200 {d L t : Nat} {s l : Nat → Int → Int} {v : Int} (hv : rL v) : mm_Ev mm_ct mm_CM (d + 1) 200 [.long (lI v)] (MX L t s l) (some (.long (lI (clipI v))), MX L t s l) := by
  have hc : (mm_CM 200).2.2.2.2.2.2.2 = mm_cf cd_200 := by rw [cm_200]; rfl
  refine ev_of (mx := 2) (by rw [cm_200]; decide) (by rw [cm_200]; rfl) (by show 2 ≤ _; decide) ?_
  show mm_wp _ _ (0, [some (.long (lI v)), none], [], MX L t s l) _
  refine wi_l1 hc rfl rfl ?_
  refine wl_ld (z := 1000000) hc rfl rfl ?_
  have h1_ := cmpI_spec v 1000000
  refine wl_cmp hc rfl hv ⟨by decide, by decide⟩ ?_
  refine wi_zle hc rfl (cmpI_r _ _) (fun h2_ => ?_) (fun h2_ => ?_)
  · refine wi_l1 hc rfl rfl ?_
    refine wl_ld (z := -1000000) hc rfl rfl ?_
    have h3_ := cmpI_spec v (-1000000)
    refine wl_cmp hc rfl hv ⟨by decide, by decide⟩ ?_
    refine wi_zge hc rfl (cmpI_r _ _) (fun h4_ => ?_) (fun h4_ => ?_)
    · refine wi_l1 hc rfl rfl ?_
      refine wi_rl hc rfl (by rw [cm_200]; rfl) ?_
      rw [show clipI v = v by unfold clipI; (repeat split) <;> omega]
    · refine wl_ld (z := -1000000) hc rfl rfl ?_
      refine wi_go hc rfl ?_
      refine wi_rl hc rfl (by rw [cm_200]; rfl) ?_
      rw [show clipI v = (-1000000) by unfold clipI; (repeat split) <;> omega]
  · refine wl_ld (z := 1000000) hc rfl rfl ?_
    refine wi_go hc rfl ?_
    refine wi_rl hc rfl (by rw [cm_200]; rfl) ?_
    rw [show clipI v = 1000000 by unfold clipI; (repeat split) <;> omega]
