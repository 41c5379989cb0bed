/-! Letters and figures. -/
theorem sp_47 {d L t : Nat} {s l : Nat → Int → Int} {x : Int} (hx : rI x) : mm_Ev mm_ct mm_CM (d + 1) 47 [.int (iI x)] (MX L t s l) (some (.int (iI (bI ((97 ≤ x ∧ x ≤ 122) ∨ (65 ≤ x ∧ x ≤ 90))))), MX L t s l) := by
  have hc : (mm_CM 47).2.2.2.2.2.2.2 = mm_cf cd_47 := by rw [cm_47]; rfl
  refine ev_of (mx := 1) (by rw [cm_47]; decide) (by rw [cm_47]; rfl) (by show 1 ≤ _; decide) ?_
  show mm_wp _ _ (0, [some (.int (iI x))], [], MX L t s l) (fun r => r = (some (.int (iI (bI ((97 ≤ x ∧ x ≤ 122) ∨ (65 ≤ x ∧ x ≤ 90))))), MX L t s l))
  refine wi_i1 hc rfl rfl ?_
  refine wi_bi hc rfl rfl ?_
  refine wi_clt hc rfl hx ⟨by decide, by decide⟩ (fun h1_ => ?_) (fun h1_ => ?_)
  · refine wi_i1 hc rfl rfl ?_
    refine wi_bi hc rfl rfl ?_
    refine wi_clt hc rfl hx ⟨by decide, by decide⟩ (fun h2_ => ?_) (fun h2_ => ?_)
    · refine wi_ic hc rfl ?_
      refine wi_r0 hc rfl (by rw [cm_47]; rfl) ?_
      rw [bI_f (p := (97 ≤ x ∧ x ≤ 122) ∨ (65 ≤ x ∧ x ≤ 90)) (by omega)]
    · refine wi_i1 hc rfl rfl ?_
      refine wi_bi hc rfl rfl ?_
      refine wi_cgt hc rfl hx ⟨by decide, by decide⟩ (fun h3_ => ?_) (fun h3_ => ?_)
      · refine wi_ic hc rfl ?_
        refine wi_r0 hc rfl (by rw [cm_47]; rfl) ?_
        rw [bI_f (p := (97 ≤ x ∧ x ≤ 122) ∨ (65 ≤ x ∧ x ≤ 90)) (by omega)]
      · refine wi_ic hc rfl ?_
        refine wi_go hc rfl ?_
        refine wi_r1 hc rfl (by rw [cm_47]; rfl) ?_
        rw [bI_t (p := (97 ≤ x ∧ x ≤ 122) ∨ (65 ≤ x ∧ x ≤ 90)) (by omega)]
  · refine wi_i1 hc rfl rfl ?_
    refine wi_bi hc rfl rfl ?_
    refine wi_cle hc rfl hx ⟨by decide, by decide⟩ (fun h4_ => ?_) (fun h4_ => ?_)
    · refine wi_ic hc rfl ?_
      refine wi_go hc rfl ?_
      refine wi_r1 hc rfl (by rw [cm_47]; rfl) ?_
      rw [bI_t (p := (97 ≤ x ∧ x ≤ 122) ∨ (65 ≤ x ∧ x ≤ 90)) (by omega)]
    · refine wi_i1 hc rfl rfl ?_
      refine wi_bi hc rfl rfl ?_
      refine wi_clt hc rfl hx ⟨by decide, by decide⟩ (fun h5_ => ?_) (fun h5_ => ?_)
      · refine wi_ic hc rfl ?_
        refine wi_r0 hc rfl (by rw [cm_47]; rfl) ?_
        rw [bI_f (p := (97 ≤ x ∧ x ≤ 122) ∨ (65 ≤ x ∧ x ≤ 90)) (by omega)]
      · refine wi_i1 hc rfl rfl ?_
        refine wi_bi hc rfl rfl ?_
        refine wi_cgt hc rfl hx ⟨by decide, by decide⟩ (fun h6_ => ?_) (fun h6_ => ?_)
        · refine wi_ic hc rfl ?_
          refine wi_r0 hc rfl (by rw [cm_47]; rfl) ?_
          rw [bI_f (p := (97 ≤ x ∧ x ≤ 122) ∨ (65 ≤ x ∧ x ≤ 90)) (by omega)]
        · refine wi_ic hc rfl ?_
          refine wi_go hc rfl ?_
          refine wi_r1 hc rfl (by rw [cm_47]; rfl) ?_
          rw [bI_t (p := (97 ≤ x ∧ x ≤ 122) ∨ (65 ≤ x ∧ x ≤ 90)) (by omega)]
theorem sp_48 {d L t : Nat} {s l : Nat → Int → Int} {x : Int} (hx : rI x) : mm_Ev mm_ct mm_CM (d + 1) 48 [.int (iI x)] (MX L t s l) (some (.int (iI (bI (48 ≤ x ∧ x ≤ 57)))), MX L t s l) := by
  have hc : (mm_CM 48).2.2.2.2.2.2.2 = mm_cf cd_48 := by rw [cm_48]; rfl
  refine ev_of (mx := 1) (by rw [cm_48]; decide) (by rw [cm_48]; rfl) (by show 1 ≤ _; decide) ?_
  show mm_wp _ _ (0, [some (.int (iI x))], [], MX L t s l) (fun r => r = (some (.int (iI (bI (48 ≤ x ∧ x ≤ 57)))), MX L t s l))
  refine wi_i1 hc rfl rfl ?_
  refine wi_bi hc rfl rfl ?_
  refine wi_clt hc rfl hx ⟨by decide, by decide⟩ (fun h1_ => ?_) (fun h1_ => ?_)
  · refine wi_ic hc rfl ?_
    refine wi_r0 hc rfl (by rw [cm_48]; rfl) ?_
    rw [bI_f (p := 48 ≤ x ∧ x ≤ 57) (by omega)]
  · refine wi_i1 hc rfl rfl ?_
    refine wi_bi hc rfl rfl ?_
    refine wi_cgt hc rfl hx ⟨by decide, by decide⟩ (fun h2_ => ?_) (fun h2_ => ?_)
    · refine wi_ic hc rfl ?_
      refine wi_r0 hc rfl (by rw [cm_48]; rfl) ?_
      rw [bI_f (p := 48 ≤ x ∧ x ≤ 57) (by omega)]
    · refine wi_ic hc rfl ?_
      refine wi_go hc rfl ?_
      refine wi_r1 hc rfl (by rw [cm_48]; rfl) ?_
      rw [bI_t (p := 48 ≤ x ∧ x ≤ 57) (by omega)]
theorem sp_164 {d L t : Nat} {s l : Nat → Int → Int} {x : Int} (hx : rI x) : mm_Ev mm_ct mm_CM (d + 2) 164 [.int (iI x)] (MX L t s l) (some (.int (iI (bI ((97 ≤ x ∧ x ≤ 122) ∨ (65 ≤ x ∧ x ≤ 90))))), MX L t s l) := by
  have hc : (mm_CM 164).2.2.2.2.2.2.2 = mm_cf cd_164 := by rw [cm_164]; rfl
  refine ev_of (mx := 1) (by rw [cm_164]; decide) (by rw [cm_164]; rfl) (by show 1 ≤ _; decide) ?_
  show mm_wp _ _ (0, [some (.int (iI x))], [], MX L t s l) (fun r => r = (some (.int (iI (bI ((97 ≤ x ∧ x ≤ 122) ∨ (65 ≤ x ∧ x ≤ 90))))), MX L t s l))
  refine wi_i1 hc rfl rfl ?_
  refine wi_bi hc rfl rfl ?_
  refine wi_bi hc rfl rfl ?_
  refine wp_cs (As := [.int (iI x), .int (iI 97), .int (iI 122)]) (r := []) hc rfl (by rw [cm_148]; rfl) rfl (Nat.le_of_ble_eq_true rfl) (ev_mono (sp_148 (d := 0) hx ⟨by decide, by decide⟩ ⟨by decide, by decide⟩) (by omega)) ?_
  show mm_wp _ _ (8, [some (.int (iI x))], [.int (iI (bI (97 ≤ x ∧ x ≤ 122)))], MX L t s l) _
  refine wi_bne hc rfl (fun h1_ => ?_) (fun h1_ => ?_)
  · refine wi_ic hc rfl ?_
    refine wi_go hc rfl ?_
    refine wi_r1 hc rfl (by rw [cm_164]; rfl) ?_
    rw [bI_t (p := (97 ≤ x ∧ x ≤ 122) ∨ (65 ≤ x ∧ x ≤ 90)) (by omega)]
  · refine wi_i1 hc rfl rfl ?_
    refine wi_bi hc rfl rfl ?_
    refine wi_bi hc rfl rfl ?_
    refine wp_cs (As := [.int (iI x), .int (iI 65), .int (iI 90)]) (r := []) hc rfl (by rw [cm_148]; rfl) rfl (Nat.le_of_ble_eq_true rfl) (ev_mono (sp_148 (d := 0) hx ⟨by decide, by decide⟩ ⟨by decide, by decide⟩) (by omega)) ?_
    show mm_wp _ _ (19, [some (.int (iI x))], [.int (iI (bI (65 ≤ x ∧ x ≤ 90)))], MX L t s l) _
    refine wi_b01 hc rfl rfl rfl rfl (bI_01 _) ?_
    refine wi_rb hc rfl (by rw [cm_164]; rfl) ?_
    rw [show bI (65 ≤ x ∧ x ≤ 90) = bI ((97 ≤ x ∧ x ≤ 122) ∨ (65 ≤ x ∧ x ≤ 90)) by unfold bI; congr 1; exact propext ⟨fun h => by omega, fun h => by omega⟩]
theorem sp_165 {d L t : Nat} {s l : Nat → Int → Int} {x : Int} (hx : rI x) : mm_Ev mm_ct mm_CM (d + 2) 165 [.int (iI x)] (MX L t s l) (some (.int (iI (bI (48 ≤ x ∧ x ≤ 57)))), MX L t s l) := by
  have hc : (mm_CM 165).2.2.2.2.2.2.2 = mm_cf cd_165 := by rw [cm_165]; rfl
  refine ev_of (mx := 1) (by rw [cm_165]; decide) (by rw [cm_165]; rfl) (by show 1 ≤ _; decide) ?_
  show mm_wp _ _ (0, [some (.int (iI x))], [], MX L t s l) (fun r => r = (some (.int (iI (bI (48 ≤ x ∧ x ≤ 57)))), MX L t s l))
  refine wi_i1 hc rfl rfl ?_
  refine wi_bi hc rfl rfl ?_
  refine wi_bi hc rfl rfl ?_
  refine wp_cs (As := [.int (iI x), .int (iI 48), .int (iI 57)]) (r := []) hc rfl (by rw [cm_148]; rfl) rfl (Nat.le_of_ble_eq_true rfl) (ev_mono (sp_148 (d := 0) hx ⟨by decide, by decide⟩ ⟨by decide, by decide⟩) (by omega)) ?_
  show mm_wp _ _ (8, [some (.int (iI x))], [.int (iI (bI (48 ≤ x ∧ x ≤ 57)))], MX L t s l) _
  refine wi_rb hc rfl (by rw [cm_165]; rfl) ?_
  rfl
theorem sp_163 {d L t : Nat} {s l : Nat → Int → Int} {N x : Int} (hN : s 598 4 = N) (hr : 0 ≤ N ∧ N ≤ 300) (h0 : 0 ≤ x) (hx : rI x) : mm_Ev mm_ct mm_CM (d + 1) 163 [.ref 598, .int (iI x)] (MX L t s l) (some (.int (iI (if x < N then s 602 x else -1))), MX L t s l) := by
  have hc : (mm_CM 163).2.2.2.2.2.2.2 = mm_cf cd_163 := by rw [cm_163]; rfl
  refine ev_of (mx := 2) (by rw [cm_163]; decide) (by rw [cm_163]; rfl) (by show 2 ≤ _; decide) ?_
  show mm_wp _ _ (0, [some (.ref 598), some (.int (iI x))], [], MX L t s l) (fun r => r = (some (.int (iI (if x < N then s 602 x else -1))), MX L t s l))
  refine wi_i1 hc rfl rfl ?_
  refine wi_a1 hc rfl rfl ?_
  refine wi_gfv (kz := 4) rfl hc rfl rfl (by decide) (Nat.le_of_ble_eq_true rfl) rfl (v := N) (hN) ?_
  refine wi_cge hc rfl hx ⟨by omega, by omega⟩ (fun h1_ => ?_) (fun h1_ => ?_)
  · refine wi_ic hc rfl ?_
    refine wi_ri hc rfl (by rw [cm_163]; rfl) ?_
    rw [if_neg (by omega)]
  · refine wi_a1 hc rfl rfl ?_
    refine wi_gr (w := 602) hc rfl rfl (by decide) (Nat.le_of_ble_eq_true rfl) rfl ?_
    refine wi_i1 hc rfl rfl ?_
    refine wi_ild (N := 300) hc rfl rfl (by decide) (by decide) (by omega) (by omega) ?_
    refine wi_go hc rfl ?_
    refine wi_ri hc rfl (by rw [cm_163]; rfl) ?_
    rw [if_pos (by omega)]
