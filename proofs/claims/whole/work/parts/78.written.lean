/-! Written. -/
def wrP (A : Int → Int) (i w : Int) : Int := if i = -1 then minI (A 9) 60 else if (0 ≤ i ∧ i < minI (A 9) 60) ∧ 0 ≤ w ∧ w ≤ 3 then A (1594 + 4 * ((A 9 - minI (A 9) 60 + i) % 512) + w) else -2

theorem sp_105 {d L t : Nat} {s l : Nat → Int → Int} {A T : Int → Int} (hJ : JC s A T) (hVA : VA A T) (hLg : okLg A) {i w : Int} (hi : rI i) (hw : rI w) : mm_Ev mm_ct mm_CM (d + 1) 105 [.ref 0, .int (iI i), .int (iI w)] (MX L t s l) (some (.int (iI (wrP A i w))), MX L t s l) := by
  have hc : (mm_CM 105).2.2.2.2.2.2.2 = mm_cf cd_105 := by rw [cm_105]; rfl
  refine ev_of (mx := 5) (by rw [cm_105]; decide) (by rw [cm_105]; rfl) (by show 3 ≤ _; decide) ?_
  show mm_wp _ _ (0, [some (.ref 0), some (.int (iI i)), some (.int (iI w)), none, none], [], MX L t s l) (fun r => r = (some (.int (iI (wrP A i w))), MX L t s l))
  have hK := hVA.K
  have h9 := hVA.2.2.2.2.2
  have h1 := hVA.2.2.1.1
  have hms := minI_spec (A 9) 60
  refine wi_a1 hc rfl rfl ?_
  refine wi_gr (w := 1) hc rfl rfl (by decide) (Nat.le_of_ble_eq_true rfl) rfl ?_
  refine wi_gr (w := 2) hc rfl rfl (by decide) (Nat.le_of_ble_eq_true rfl) rfl ?_
  refine wi_as1 (L' := [some (.ref 0), some (.int (iI i)), some (.int (iI w)), some (.ref 2), none]) hc rfl (Nat.le_of_ble_eq_true rfl) rfl ?_
  refine wi_i1 hc rfl rfl ?_
  refine wi_ic hc rfl ?_
  refine wi_cne hc rfl hi ⟨by decide, by decide⟩ (fun h1_ => ?_) (fun h1_ => ?_)
  · refine wi_i1 hc rfl rfl ?_
    refine wi_zlt hc rfl hi (fun h2_ => ?_) (fun h2_ => ?_)
    · refine wi_bi hc rfl rfl ?_
      refine wi_ri hc rfl (by rw [cm_105]; rfl) ?_
      have hR : wrP A i w = -2 := by unfold wrP; rw [if_neg (by omega), if_neg (by omega)]
      rw [hR]
    · refine wi_i1 hc rfl rfl ?_
      refine wi_a1 hc rfl rfl ?_
      refine wi_gfv (kz := 4) rfl hc rfl rfl (by decide) (Nat.le_of_ble_eq_true rfl) rfl (v := minI (A 9) 60) (lb_wc hJ.1) ?_
      refine wi_cge hc rfl hi ⟨by omega, by omega⟩ (fun h3_ => ?_) (fun h3_ => ?_)
      · refine wi_bi hc rfl rfl ?_
        refine wi_ri hc rfl (by rw [cm_105]; rfl) ?_
        have hR : wrP A i w = -2 := by unfold wrP; rw [if_neg (by omega), if_neg (by omega)]
        rw [hR]
      · refine wi_i1 hc rfl rfl ?_
        refine wi_zlt hc rfl hw (fun h4_ => ?_) (fun h4_ => ?_)
        · refine wi_bi hc rfl rfl ?_
          refine wi_ri hc rfl (by rw [cm_105]; rfl) ?_
          have hR : wrP A i w = -2 := by unfold wrP; rw [if_neg (by omega), if_neg (by omega)]
          rw [hR]
        · refine wi_i1 hc rfl rfl ?_
          refine wi_ic hc rfl ?_
          refine wi_cle hc rfl hw ⟨by decide, by decide⟩ (fun h5_ => ?_) (fun h5_ => ?_)
          · refine wi_a1 hc rfl rfl ?_
            refine wi_gr (w := 9) hc rfl rfl (by decide) (Nat.le_of_ble_eq_true rfl) rfl ?_
            refine wi_i1 hc rfl rfl ?_
            refine wi_ildv (N := 60) hc rfl rfl (by decide) (by decide) (by omega) (by omega) (v := lgA A (A 9 - minI (A 9) 60 + i)) (lb_log hJ.1 (by omega) (by omega)) ?_
            obtain ⟨v, hv⟩ : ∃ z9, z9 = lgA A (A 9 - minI (A 9) 60 + i) := ⟨_, rfl⟩
            rw [← hv]
            obtain ⟨v0, v1, v2, v3, v4, v5⟩ := lg_parts hLg (A 9 - minI (A 9) 60 + i)
            rw [← hv] at v0 v1 v2 v3 v4 v5
            refine wi_is2 (L' := [some (.ref 0), some (.int (iI i)), some (.int (iI w)), some (.ref 2), some (.int (iI v))]) hc rfl (Nat.le_of_ble_eq_true rfl) rfl ?_
            refine wi_i1 hc rfl rfl ?_
            refine wi_sw hc rfl hw ?_
            refine wp_if (fun h6_ => ?_) (fun h6_ => ?_)
            · refine wi_i2 hc rfl rfl ?_
              refine wi_bi hc rfl rfl ?_
              refine wi_msk 4 16 rfl (by decide) (by decide) hc rfl ?_
              refine wi_ri hc rfl (by rw [cm_105]; rfl) ?_
              have hR : wrP A i w = v % 16 := by
                unfold wrP
                rw [if_neg (by omega), if_pos (by omega), show w = 0 by omega]
                rw [v2]; congr 1; omega
              rw [hR]
            · skip
              refine wp_if (fun h7_ => ?_) (fun h7_ => ?_)
              · refine wi_i2 hc rfl rfl ?_
                refine wi_ic hc rfl ?_
                refine wi_shr 16 rfl hc rfl ⟨by omega, by omega⟩ (by omega) (by omega) ?_
                refine wi_bi hc rfl rfl ?_
                refine wi_msk 4 16 rfl (by decide) (by decide) hc rfl ?_
                refine wi_ri hc rfl (by rw [cm_105]; rfl) ?_
                have hR : wrP A i w = (v / 16) % 16 := by
                  unfold wrP
                  rw [if_neg (by omega), if_pos (by omega), show w = 1 by omega]
                  rw [v3]
                rw [hR]
              · skip
                refine wp_if (fun h8_ => ?_) (fun h8_ => ?_)
                · refine wi_i2 hc rfl rfl ?_
                  refine wi_bi hc rfl rfl ?_
                  refine wi_shr 256 rfl hc rfl ⟨by omega, by omega⟩ (by omega) (by omega) ?_
                  refine wi_ic hc rfl ?_
                  refine wi_msk 2 4 rfl (by decide) (by decide) hc rfl ?_
                  refine wi_ri hc rfl (by rw [cm_105]; rfl) ?_
                  have hR : wrP A i w = (v / 256) % 4 := by
                    unfold wrP
                    rw [if_neg (by omega), if_pos (by omega), show w = 2 by omega]
                    rw [v4]
                  rw [hR]
                · skip
                  show mm_wp _ _ (98, [some (.ref 0), some (.int (iI i)), some (.int (iI w)), some (.ref 2), some (.int (iI v))], [], MX L t s l) _
                  refine wi_i2 hc rfl rfl ?_
                  refine wi_bi hc rfl rfl ?_
                  refine wi_shr 1024 rfl hc rfl ⟨by omega, by omega⟩ (by omega) (by omega) ?_
                  refine wi_ri hc rfl (by rw [cm_105]; rfl) ?_
                  have hR : wrP A i w = v / 1024 := by
                    unfold wrP
                    rw [if_neg (by omega), if_pos (by omega), show w = 3 by omega]
                    rw [v5]
                  rw [hR]
          · refine wi_bi hc rfl rfl ?_
            refine wi_ri hc rfl (by rw [cm_105]; rfl) ?_
            have hR : wrP A i w = -2 := by unfold wrP; rw [if_neg (by omega), if_neg (by omega)]
            rw [hR]
  · refine wi_a1 hc rfl rfl ?_
    refine wi_gfv (kz := 4) rfl hc rfl rfl (by decide) (Nat.le_of_ble_eq_true rfl) rfl (v := minI (A 9) 60) (lb_wc hJ.1) ?_
    refine wi_ri hc rfl (by rw [cm_105]; rfl) ?_
    have hR : wrP A i w = minI (A 9) 60 := by unfold wrP; rw [if_pos (by omega)]
    rw [hR]
theorem sp_238 {d L t : Nat} {s l : Nat → Int → Int} {A T : Int → Int} (hJ : JM s A T) (hVA : VA A T) {i w : Int} (hi : rI i) (hw : rI w) : mm_Ev mm_ct mm_CM (d + 2) 238 [.ref 598, .int (iI i), .int (iI w)] (MX L t s l) (some (.int (iI (wrP A i w))), MX L t s l) := by
  have hc : (mm_CM 238).2.2.2.2.2.2.2 = mm_cf cd_238 := by rw [cm_238]; rfl
  refine ev_of (mx := 4) (by rw [cm_238]; decide) (by rw [cm_238]; rfl) (by show 3 ≤ _; decide) ?_
  show mm_wp _ _ (0, [some (.ref 598), some (.int (iI i)), some (.int (iI w)), none], [], MX L t s l) (fun r => r = (some (.int (iI (wrP A i w))), MX L t s l))
  have hK := hVA.K
  have h9 := hVA.2.2.2.2.2
  have h1 := hVA.2.2.1.1
  have hms := minI_spec (A 9) 60
  refine wi_a1 hc rfl rfl ?_
  refine wi_gr (w := 599) hc rfl rfl (by decide) (Nat.le_of_ble_eq_true rfl) rfl ?_
  refine wi_bi hc rfl rfl ?_
  refine wi_ildv (N := 3642) hc rfl rfl (by decide) (by decide) (by omega) (by omega) (v := A 9) (congrFun (hJ.1) _) ?_
  refine wi_bi hc rfl rfl ?_
  refine wi_cge hc rfl ⟨by omega, by omega⟩ ⟨by decide, by decide⟩ (fun h1_ => ?_) (fun h1_ => ?_)
  · refine wi_bi hc rfl rfl ?_
    refine wi_is1 (L' := [some (.ref 598), some (.int (iI i)), some (.int (iI w)), some (.int (iI 60))]) hc rfl (Nat.le_of_ble_eq_true rfl) rfl ?_
    refine wi_i1 hc rfl rfl ?_
    refine wi_ic hc rfl ?_
    refine wi_cne hc rfl hi ⟨by decide, by decide⟩ (fun h2_ => ?_) (fun h2_ => ?_)
    · refine wi_i1 hc rfl rfl ?_
      refine wi_ic hc rfl ?_
      refine wi_i1 hc rfl rfl ?_
      refine wi_ic hc rfl ?_
      refine wi_sub hc rfl ?_
      refine wp_cs (As := [.int (iI i), .int (iI 0), .int (iI (60 - 1))]) (r := []) hc rfl (by rw [cm_148]; rfl) rfl (Nat.le_of_ble_eq_true rfl) (ev_mono (sp_148 (d := 0) hi ⟨by decide, by decide⟩ ⟨by omega, by omega⟩) (by omega)) ?_
      show mm_wp _ _ (40, [some (.ref 598), some (.int (iI i)), some (.int (iI w)), some (.int (iI 60))], [.int (iI (bI (0 ≤ i ∧ i ≤ 60 - 1)))], MX L t s l) _
      refine wi_beq hc rfl (fun h3_ => ?_) (fun h3_ => ?_)
      · refine wi_bi hc rfl rfl ?_
        refine wi_ri hc rfl (by rw [cm_238]; rfl) ?_
        have hR : wrP A i w = -2 := by unfold wrP; rw [if_neg (by omega), if_neg (by omega)]
        rw [hR]
      · refine wi_i1 hc rfl rfl ?_
        refine wi_ic hc rfl ?_
        refine wi_ic hc rfl ?_
        refine wp_cs (As := [.int (iI w), .int (iI 0), .int (iI 3)]) (r := []) hc rfl (by rw [cm_148]; rfl) rfl (Nat.le_of_ble_eq_true rfl) (ev_mono (sp_148 (d := 0) hw ⟨by decide, by decide⟩ ⟨by decide, by decide⟩) (by omega)) ?_
        show mm_wp _ _ (49, [some (.ref 598), some (.int (iI i)), some (.int (iI w)), some (.int (iI 60))], [.int (iI (bI (0 ≤ w ∧ w ≤ 3)))], MX L t s l) _
        refine wi_bne hc rfl (fun h4_ => ?_) (fun h4_ => ?_)
        · refine wi_a1 hc rfl rfl ?_
          refine wi_gr (w := 599) hc rfl rfl (by decide) (Nat.le_of_ble_eq_true rfl) rfl ?_
          refine wi_si hc rfl rfl ?_
          refine wi_ic hc rfl ?_
          refine wi_a1 hc rfl rfl ?_
          refine wi_gr (w := 599) hc rfl rfl (by decide) (Nat.le_of_ble_eq_true rfl) rfl ?_
          refine wi_bi hc rfl rfl ?_
          refine wi_ildv (N := 3642) hc rfl rfl (by decide) (by decide) (by omega) (by omega) (v := A 9) (congrFun (hJ.1) _) ?_
          refine wi_i1 hc rfl rfl ?_
          refine wi_sub hc rfl ?_
          refine wi_i1 hc rfl rfl ?_
          refine wi_add hc rfl ?_
          refine wi_si hc rfl rfl ?_
          refine wi_remp hc rfl ⟨by omega, by omega⟩ ⟨by decide, by decide⟩ (by omega) (by omega) ?_
          refine wi_mul hc rfl ?_
          refine wi_add hc rfl ?_
          refine wi_i1 hc rfl rfl ?_
          refine wi_add hc rfl ?_
          refine wi_ildv (N := 3642) hc rfl rfl (by decide) (by decide) (by omega) (by omega) (v := A ((1594 + (4 * ((((A 9) - 60) + i) % 512))) + w)) (congrFun (hJ.1) _) ?_
          refine wi_ri hc rfl (by rw [cm_238]; rfl) ?_
          have hmm : minI (A 9) 60 = 60 := by omega
          have hR : wrP A i w = A ((1594 + (4 * ((((A 9) - 60) + i) % 512))) + w) := by
            unfold wrP
            rw [if_neg (by omega), if_pos (by omega), hmm]
          rw [hR]
        · refine wi_bi hc rfl rfl ?_
          refine wi_ri hc rfl (by rw [cm_238]; rfl) ?_
          have hR : wrP A i w = -2 := by unfold wrP; rw [if_neg (by omega), if_neg (by omega)]
          rw [hR]
    · refine wi_i1 hc rfl rfl ?_
      refine wi_ri hc rfl (by rw [cm_238]; rfl) ?_
      have hmm : minI (A 9) 60 = 60 := by omega
      have hR : wrP A i w = 60 := by
        unfold wrP
        rw [if_pos (by omega), hmm]
      rw [hR]
  · refine wi_a1 hc rfl rfl ?_
    refine wi_gr (w := 599) hc rfl rfl (by decide) (Nat.le_of_ble_eq_true rfl) rfl ?_
    refine wi_bi hc rfl rfl ?_
    refine wi_ildv (N := 3642) hc rfl rfl (by decide) (by decide) (by omega) (by omega) (v := A 9) (congrFun (hJ.1) _) ?_
    refine wi_go hc rfl ?_
    refine wi_is1 (L' := [some (.ref 598), some (.int (iI i)), some (.int (iI w)), some (.int (iI (A 9)))]) hc rfl (Nat.le_of_ble_eq_true rfl) rfl ?_
    refine wi_i1 hc rfl rfl ?_
    refine wi_ic hc rfl ?_
    refine wi_cne hc rfl hi ⟨by decide, by decide⟩ (fun h5_ => ?_) (fun h5_ => ?_)
    · refine wi_i1 hc rfl rfl ?_
      refine wi_ic hc rfl ?_
      refine wi_i1 hc rfl rfl ?_
      refine wi_ic hc rfl ?_
      refine wi_sub hc rfl ?_
      refine wp_cs (As := [.int (iI i), .int (iI 0), .int (iI ((A 9) - 1))]) (r := []) hc rfl (by rw [cm_148]; rfl) rfl (Nat.le_of_ble_eq_true rfl) (ev_mono (sp_148 (d := 0) hi ⟨by decide, by decide⟩ ⟨by omega, by omega⟩) (by omega)) ?_
      show mm_wp _ _ (40, [some (.ref 598), some (.int (iI i)), some (.int (iI w)), some (.int (iI (A 9)))], [.int (iI (bI (0 ≤ i ∧ i ≤ (A 9) - 1)))], MX L t s l) _
      refine wi_beq hc rfl (fun h6_ => ?_) (fun h6_ => ?_)
      · refine wi_bi hc rfl rfl ?_
        refine wi_ri hc rfl (by rw [cm_238]; rfl) ?_
        have hR : wrP A i w = -2 := by unfold wrP; rw [if_neg (by omega), if_neg (by omega)]
        rw [hR]
      · refine wi_i1 hc rfl rfl ?_
        refine wi_ic hc rfl ?_
        refine wi_ic hc rfl ?_
        refine wp_cs (As := [.int (iI w), .int (iI 0), .int (iI 3)]) (r := []) hc rfl (by rw [cm_148]; rfl) rfl (Nat.le_of_ble_eq_true rfl) (ev_mono (sp_148 (d := 0) hw ⟨by decide, by decide⟩ ⟨by decide, by decide⟩) (by omega)) ?_
        show mm_wp _ _ (49, [some (.ref 598), some (.int (iI i)), some (.int (iI w)), some (.int (iI (A 9)))], [.int (iI (bI (0 ≤ w ∧ w ≤ 3)))], MX L t s l) _
        refine wi_bne hc rfl (fun h7_ => ?_) (fun h7_ => ?_)
        · refine wi_a1 hc rfl rfl ?_
          refine wi_gr (w := 599) hc rfl rfl (by decide) (Nat.le_of_ble_eq_true rfl) rfl ?_
          refine wi_si hc rfl rfl ?_
          refine wi_ic hc rfl ?_
          refine wi_a1 hc rfl rfl ?_
          refine wi_gr (w := 599) hc rfl rfl (by decide) (Nat.le_of_ble_eq_true rfl) rfl ?_
          refine wi_bi hc rfl rfl ?_
          refine wi_ildv (N := 3642) hc rfl rfl (by decide) (by decide) (by omega) (by omega) (v := A 9) (congrFun (hJ.1) _) ?_
          refine wi_i1 hc rfl rfl ?_
          refine wi_sub hc rfl ?_
          refine wi_i1 hc rfl rfl ?_
          refine wi_add hc rfl ?_
          refine wi_si hc rfl rfl ?_
          refine wi_remp hc rfl ⟨by omega, by omega⟩ ⟨by decide, by decide⟩ (by omega) (by omega) ?_
          refine wi_mul hc rfl ?_
          refine wi_add hc rfl ?_
          refine wi_i1 hc rfl rfl ?_
          refine wi_add hc rfl ?_
          refine wi_ildv (N := 3642) hc rfl rfl (by decide) (by decide) (by omega) (by omega) (v := A ((1594 + (4 * ((((A 9) - (A 9)) + i) % 512))) + w)) (congrFun (hJ.1) _) ?_
          refine wi_ri hc rfl (by rw [cm_238]; rfl) ?_
          have hmm : minI (A 9) 60 = A 9 := by omega
          have hR : wrP A i w = A ((1594 + (4 * ((((A 9) - (A 9)) + i) % 512))) + w) := by
            unfold wrP
            rw [if_neg (by omega), if_pos (by omega), hmm]
          rw [hR]
        · refine wi_bi hc rfl rfl ?_
          refine wi_ri hc rfl (by rw [cm_238]; rfl) ?_
          have hR : wrP A i w = -2 := by unfold wrP; rw [if_neg (by omega), if_neg (by omega)]
          rw [hR]
    · refine wi_i1 hc rfl rfl ?_
      refine wi_ri hc rfl (by rw [cm_238]; rfl) ?_
      have hmm : minI (A 9) 60 = A 9 := by omega
      have hR : wrP A i w = A 9 := by
        unfold wrP
        rw [if_pos (by omega), hmm]
      rw [hR]
