/-! About. -/
def flB (A : Int → Int) : Nat → Int
  | 0 => 0
  | n + 1 => if A (46 + 6 * n + 5) = 4 then orI (flB A n) (1 * 2 ^ n) else flB A n
theorem flB_nn (A : Int → Int) : ∀ n : Nat, 0 ≤ flB A n
  | 0 => Int.le_refl 0
  | n + 1 => by
    unfold flB
    split
    · exact Int.natCast_nonneg _
    · exact flB_nn A n
theorem orI_zero {x : Int} (h : 0 ≤ x) : orI x 0 = x := by
  unfold orI
  rw [show (0 : Int).toNat = 0 from rfl, Nat.or_zero]
  omega
def aboutP (A : Int → Int) (N x : Int) : Int := if x = 9 then flB A (A 0).toNat else if 0 ≤ x ∧ x ≤ 8 then A x else if x = 10 then N else -2

theorem sp_135 {d L t : Nat} {s l : Nat → Int → Int} {A T : Int → Int} (hJ : JC s A T) (hK : KA A T) : mm_Ev mm_ct mm_CM (d + 1) 135 [.ref 0] (MX L t s l) (some (.int (iI (flB A (A 0).toNat))), MX L t s l) := by
  have hc : (mm_CM 135).2.2.2.2.2.2.2 = mm_cf cd_135 := by rw [cm_135]; rfl
  refine ev_of (mx := 3) (by rw [cm_135]; decide) (by rw [cm_135]; rfl) (by show 1 ≤ _; decide) ?_
  show mm_wp _ _ (0, [some (.ref 0), none, none], [], MX L t s l) (fun r => r = (some (.int (iI (flB A (A 0).toNat))), MX L t s l))
  have hB := hK.2.1
  have g0 := hB.1
  refine wi_ic hc rfl ?_
  refine wi_is1 (L' := [some (.ref 0), some (.int (iI 0)), none]) hc rfl (Nat.le_of_ble_eq_true rfl) rfl ?_
  refine wi_ic hc rfl ?_
  refine wi_is1 (L' := [some (.ref 0), some (.int (iI 0)), some (.int (iI 0))]) hc rfl (Nat.le_of_ble_eq_true rfl) rfl ?_
  have loop4_ : ∀ i : Int, i ≤ A 0 → 0 ≤ i → ∀ f : Int, f = flB A i.toNat → mm_wp (mm_Ev mm_ct mm_CM d) 135 (4, [some (.ref 0), some (.int (iI f)), some (.int (iI i))], [], MX L t s l) (fun r => r = (some (.int (iI (flB A (A 0).toNat))), MX L t s l)) := by
    refine up_ind ?_
    intro i hi ih hi0 f hf
    have hfn := flB_nn A i.toNat
    rw [← hf] at hfn
    have hpw : (0 : Int) ≤ 2 ^ i.toNat := by rw [p2c]; exact Int.natCast_nonneg _
    have hfs : flB A (i + 1).toNat = if A (46 + 6 * i + 5) = 4 then orI f (1 * 2 ^ i.toNat) else f := by
      rw [show (i + 1).toNat = i.toNat + 1 by omega, flB, ← hf, show ((i.toNat : Nat) : Int) = i by omega]
    refine wi_i1 hc rfl rfl ?_
    refine wi_a1 hc rfl rfl ?_
    refine wi_gr (w := 1) hc rfl rfl (by decide) (Nat.le_of_ble_eq_true rfl) rfl ?_
    refine wi_gfv (kz := 8) rfl hc rfl rfl (by decide) (Nat.le_of_ble_eq_true rfl) rfl (v := A 0) (lb_books hJ.1) ?_
    refine wi_cge hc rfl ⟨by omega, by omega⟩ ⟨by omega, by omega⟩ (fun h1_ => ?_) (fun h1_ => ?_)
    · refine wi_i1 hc rfl rfl ?_
      refine wi_ri hc rfl (by rw [cm_135]; rfl) ?_
      rw [show A 0 = i by omega, ← hf]
    · have gw := (hB.2.2.2.2 i (by omega) (by omega)).1
      refine wi_a1 hc rfl rfl ?_
      refine wi_gr (w := 1) hc rfl rfl (by decide) (Nat.le_of_ble_eq_true rfl) rfl ?_
      refine wi_gr (w := 2) hc rfl rfl (by decide) (Nat.le_of_ble_eq_true rfl) rfl ?_
      refine wi_gr (w := 8) hc rfl rfl (by decide) (Nat.le_of_ble_eq_true rfl) rfl ?_
      refine wi_i1 hc rfl rfl ?_
      refine wi_ildv (N := 10) hc rfl rfl (by decide) (by decide) (by omega) (by omega) (v := A (46 + 6 * i + 5)) (lb_where hJ.1 (by omega) (by omega) (by omega)) ?_
      refine wi_ic hc rfl ?_
      refine wi_cne hc rfl ⟨by omega, by omega⟩ ⟨by decide, by decide⟩ (fun h2_ => ?_) (fun h2_ => ?_)
      · refine wi_inc (L' := [some (.ref 0), some (.int (iI f)), some (.int (iI (i + 1)))]) hc rfl rfl rfl ?_
        refine wi_go hc rfl ?_
        exact ih (by omega) (by omega) _ (by rw [hfs, if_neg (by omega)])
      · refine wi_i1 hc rfl rfl ?_
        refine wi_ic hc rfl ?_
        refine wi_i1 hc rfl rfl ?_
        refine wi_shl (2 ^ i.toNat) rfl hc rfl (by omega) (by omega) ?_
        refine wi_or hc rfl (by omega) (by omega) ?_
        refine wi_is1 (L' := [some (.ref 0), some (.int (iI (orI f (1 * (2 ^ i.toNat))))), some (.int (iI i))]) hc rfl (Nat.le_of_ble_eq_true rfl) rfl ?_
        refine wi_inc (L' := [some (.ref 0), some (.int (iI (orI f (1 * (2 ^ i.toNat))))), some (.int (iI (i + 1)))]) hc rfl rfl rfl ?_
        refine wi_go hc rfl ?_
        exact ih (by omega) (by omega) _ (by rw [hfs, if_pos (by omega)])
  exact loop4_ 0 (by omega) (by omega) 0 rfl
theorem sp_124 {d L t : Nat} {s l : Nat → Int → Int} {A T : Int → Int} (hJ : JC s A T) (hK : KA A T) {N x : Int} (hN : s 0 7 = N) (hx : rI x) : mm_Ev mm_ct mm_CM (d + 2) 124 [.ref 0, .int (iI x)] (MX L t s l) (some (.int (iI (aboutP A N x))), MX L t s l) := by
  have hc : (mm_CM 124).2.2.2.2.2.2.2 = mm_cf cd_124 := by rw [cm_124]; rfl
  refine ev_of (mx := 2) (by rw [cm_124]; decide) (by rw [cm_124]; rfl) (by show 2 ≤ _; decide) ?_
  show mm_wp _ _ (0, [some (.ref 0), some (.int (iI x))], [], MX L t s l) (fun r => r = (some (.int (iI (aboutP A N x))), MX L t s l))
  have hB := hK.2.1
  have g0 := hB.1
  have g2v := hK.1.2.1
  refine wi_i1 hc rfl rfl ?_
  refine wi_sw hc rfl hx ?_
  refine wp_if (fun h1_ => ?_) (fun h1_ => ?_)
  · refine wi_a1 hc rfl rfl ?_
    refine wi_gr (w := 1) hc rfl rfl (by decide) (Nat.le_of_ble_eq_true rfl) rfl ?_
    refine wi_gfv (kz := 8) rfl hc rfl rfl (by decide) (Nat.le_of_ble_eq_true rfl) rfl (v := A 0) (lb_books hJ.1) ?_
    refine wi_ri hc rfl (by rw [cm_124]; rfl) ?_
    have hR : aboutP A N x = A 0 := by
      unfold aboutP
      rw [if_neg (by omega), if_pos (by omega), show x = 0 by omega]
    rw [hR]
  · skip
    refine wp_if (fun h2_ => ?_) (fun h2_ => ?_)
    · refine wi_a1 hc rfl rfl ?_
      refine wi_gr (w := 1) hc rfl rfl (by decide) (Nat.le_of_ble_eq_true rfl) rfl ?_
      refine wi_gr (w := 2) hc rfl rfl (by decide) (Nat.le_of_ble_eq_true rfl) rfl ?_
      refine wi_gfv (kz := 6) rfl hc rfl rfl (by decide) (Nat.le_of_ble_eq_true rfl) rfl (v := A 1) (lb_night hJ.1) ?_
      refine wi_ri hc rfl (by rw [cm_124]; rfl) ?_
      have hR : aboutP A N x = A 1 := by
        unfold aboutP
        rw [if_neg (by omega), if_pos (by omega), show x = 1 by omega]
      rw [hR]
    · skip
      refine wp_if (fun h3_ => ?_) (fun h3_ => ?_)
      · refine wi_a1 hc rfl rfl ?_
        refine wi_gr (w := 1) hc rfl rfl (by decide) (Nat.le_of_ble_eq_true rfl) rfl ?_
        refine wi_gr (w := 2) hc rfl rfl (by decide) (Nat.le_of_ble_eq_true rfl) rfl ?_
        refine wi_gfv (kz := 5) rfl hc rfl rfl (by decide) (Nat.le_of_ble_eq_true rfl) rfl (v := A 2) (lb_wet hJ.1) ?_
        refine wi_b01 hc rfl rfl rfl rfl (by omega) ?_
        refine wi_ri hc rfl (by rw [cm_124]; rfl) ?_
        have hR : aboutP A N x = A 2 := by
          unfold aboutP
          rw [if_neg (by omega), if_pos (by omega), show x = 2 by omega]
        rw [hR]
      · skip
        refine wp_if (fun h4_ => ?_) (fun h4_ => ?_)
        · refine wi_a1 hc rfl rfl ?_
          refine wi_gr (w := 1) hc rfl rfl (by decide) (Nat.le_of_ble_eq_true rfl) rfl ?_
          refine wi_gfv (kz := 9) rfl hc rfl rfl (by decide) (Nat.le_of_ble_eq_true rfl) rfl (v := A 3) (lb_need hJ.1) ?_
          refine wi_ri hc rfl (by rw [cm_124]; rfl) ?_
          have hR : aboutP A N x = A 3 := by
            unfold aboutP
            rw [if_neg (by omega), if_pos (by omega), show x = 3 by omega]
          rw [hR]
        · skip
          refine wp_if (fun h5_ => ?_) (fun h5_ => ?_)
          · refine wi_a1 hc rfl rfl ?_
            refine wi_gr (w := 1) hc rfl rfl (by decide) (Nat.le_of_ble_eq_true rfl) rfl ?_
            refine wi_gr (w := 2) hc rfl rfl (by decide) (Nat.le_of_ble_eq_true rfl) rfl ?_
            refine wi_gfv (kz := 7) rfl hc rfl rfl (by decide) (Nat.le_of_ble_eq_true rfl) rfl (v := A 4) (lb_drawn hJ.1) ?_
            refine wi_ri hc rfl (by rw [cm_124]; rfl) ?_
            have hR : aboutP A N x = A 4 := by
              unfold aboutP
              rw [if_neg (by omega), if_pos (by omega), show x = 4 by omega]
            rw [hR]
          · skip
            refine wp_if (fun h6_ => ?_) (fun h6_ => ?_)
            · refine wi_a1 hc rfl rfl ?_
              refine wi_gr (w := 1) hc rfl rfl (by decide) (Nat.le_of_ble_eq_true rfl) rfl ?_
              refine wi_gfv (kz := 10) rfl hc rfl rfl (by decide) (Nat.le_of_ble_eq_true rfl) rfl (v := A 5) (lb_tc hJ.1) ?_
              refine wi_ri hc rfl (by rw [cm_124]; rfl) ?_
              have hR : aboutP A N x = A 5 := by
                unfold aboutP
                rw [if_neg (by omega), if_pos (by omega), show x = 5 by omega]
              rw [hR]
            · skip
              refine wp_if (fun h7_ => ?_) (fun h7_ => ?_)
              · refine wi_a1 hc rfl rfl ?_
                refine wi_gr (w := 1) hc rfl rfl (by decide) (Nat.le_of_ble_eq_true rfl) rfl ?_
                refine wi_gfv (kz := 11) rfl hc rfl rfl (by decide) (Nat.le_of_ble_eq_true rfl) rfl (v := A 6) (lb_rul hJ.1) ?_
                refine wi_ri hc rfl (by rw [cm_124]; rfl) ?_
                have hR : aboutP A N x = A 6 := by
                  unfold aboutP
                  rw [if_neg (by omega), if_pos (by omega), show x = 6 by omega]
                rw [hR]
              · skip
                refine wp_if (fun h8_ => ?_) (fun h8_ => ?_)
                · refine wi_a1 hc rfl rfl ?_
                  refine wi_gr (w := 1) hc rfl rfl (by decide) (Nat.le_of_ble_eq_true rfl) rfl ?_
                  refine wi_gfv (kz := 7) rfl hc rfl rfl (by decide) (Nat.le_of_ble_eq_true rfl) rfl (v := A 7) (lb_sc hJ.1) ?_
                  refine wi_ri hc rfl (by rw [cm_124]; rfl) ?_
                  have hR : aboutP A N x = A 7 := by
                    unfold aboutP
                    rw [if_neg (by omega), if_pos (by omega), show x = 7 by omega]
                  rw [hR]
                · skip
                  refine wp_if (fun h9_ => ?_) (fun h9_ => ?_)
                  · refine wi_a1 hc rfl rfl ?_
                    refine wi_gr (w := 1) hc rfl rfl (by decide) (Nat.le_of_ble_eq_true rfl) rfl ?_
                    refine wi_gfv (kz := 12) rfl hc rfl rfl (by decide) (Nat.le_of_ble_eq_true rfl) rfl (v := A 8) (lb_dc hJ.1) ?_
                    refine wi_ri hc rfl (by rw [cm_124]; rfl) ?_
                    have hR : aboutP A N x = A 8 := by
                      unfold aboutP
                      rw [if_neg (by omega), if_pos (by omega), show x = 8 by omega]
                    rw [hR]
                  · skip
                    refine wp_if (fun h10_ => ?_) (fun h10_ => ?_)
                    · refine wi_a1 hc rfl rfl ?_
                      refine wp_cv (b := 0) (As := []) (r := []) hc rfl (by rw [cm_135]; rfl) rfl (Nat.le_of_ble_eq_true rfl) (show 0 < 621 by decide) (by rw [cm_135]; rfl) (ev_mono (sp_135 (d := 0) hJ hK) (by omega)) ?_
                      show mm_wp _ _ (153, [some (.ref 0), some (.int (iI x))], [.int (iI (flB A (A 0).toNat))], MX L t s l) _
                      refine wi_ri hc rfl (by rw [cm_124]; rfl) ?_
                      have hR : aboutP A N x = flB A (A 0).toNat := by
                        unfold aboutP
                        rw [if_pos (by omega)]
                      rw [hR]
                    · skip
                      refine wp_if (fun h11_ => ?_) (fun h11_ => ?_)
                      · refine wi_a1 hc rfl rfl ?_
                        refine wi_gfv (kz := 7) rfl hc rfl rfl (by decide) (Nat.le_of_ble_eq_true rfl) rfl (v := N) (hN) ?_
                        refine wi_ri hc rfl (by rw [cm_124]; rfl) ?_
                        have hR : aboutP A N x = N := by
                          unfold aboutP
                          rw [if_neg (by omega), if_neg (by omega), if_pos (by omega)]
                        rw [hR]
                      · skip
                        show mm_wp _ _ (159, [some (.ref 0), some (.int (iI x))], [], MX L t s l) _
                        refine wi_bi hc rfl rfl ?_
                        refine wi_ri hc rfl (by rw [cm_124]; rfl) ?_
                        have hR : aboutP A N x = (-2) := by
                          unfold aboutP
                          rw [if_neg (by omega), if_neg (by omega), if_neg (by omega)]
                        rw [hR]
theorem sp_287 {d L t : Nat} {s l : Nat → Int → Int} {A T : Int → Int} (hJ : JM s A T) (hK : KA A T) {N x : Int} (hN : s 598 4 = N) (hx : rI x) : mm_Ev mm_ct mm_CM (d + 2) 287 [.ref 598, .int (iI x)] (MX L t s l) (some (.int (iI (aboutP A N x))), MX L t s l) := by
  have hc : (mm_CM 287).2.2.2.2.2.2.2 = mm_cf cd_287 := by rw [cm_287]; rfl
  refine ev_of (mx := 4) (by rw [cm_287]; decide) (by rw [cm_287]; rfl) (by show 2 ≤ _; decide) ?_
  show mm_wp _ _ (0, [some (.ref 598), some (.int (iI x)), none, none], [], MX L t s l) (fun r => r = (some (.int (iI (aboutP A N x))), MX L t s l))
  have hB := hK.2.1
  have g0 := hB.1
  have g2v := hK.1.2.1
  refine wi_i1 hc rfl rfl ?_
  refine wi_bi hc rfl rfl ?_
  refine wi_cne hc rfl hx ⟨by decide, by decide⟩ (fun h1_ => ?_) (fun h1_ => ?_)
  · refine wi_i1 hc rfl rfl ?_
    refine wi_ic hc rfl ?_
    refine wi_bi hc rfl rfl ?_
    refine wp_cs (As := [.int (iI x), .int (iI 0), .int (iI 8)]) (r := []) hc rfl (by rw [cm_148]; rfl) rfl (Nat.le_of_ble_eq_true rfl) (ev_mono (sp_148 (d := 0) hx ⟨by decide, by decide⟩ ⟨by decide, by decide⟩) (by omega)) ?_
    show mm_wp _ _ (55, [some (.ref 598), some (.int (iI x)), none, none], [.int (iI (bI (0 ≤ x ∧ x ≤ 8)))], MX L t s l) _
    refine wi_beq hc rfl (fun h2_ => ?_) (fun h2_ => ?_)
    · refine wi_i1 hc rfl rfl ?_
      refine wi_bi hc rfl rfl ?_
      refine wi_cne hc rfl hx ⟨by decide, by decide⟩ (fun h3_ => ?_) (fun h3_ => ?_)
      · refine wi_bi hc rfl rfl ?_
        refine wi_ri hc rfl (by rw [cm_287]; rfl) ?_
        have hR : aboutP A N x = (-2) := by
          unfold aboutP
          rw [if_neg (by omega), if_neg (by omega), if_neg (by omega)]
        rw [hR]
      · refine wi_a1 hc rfl rfl ?_
        refine wi_gfv (kz := 4) rfl hc rfl rfl (by decide) (Nat.le_of_ble_eq_true rfl) rfl (v := N) (hN) ?_
        refine wi_go hc rfl ?_
        refine wi_ri hc rfl (by rw [cm_287]; rfl) ?_
        have hR : aboutP A N x = N := by
          unfold aboutP
          rw [if_neg (by omega), if_neg (by omega), if_pos (by omega)]
        rw [hR]
    · refine wi_a1 hc rfl rfl ?_
      refine wi_gr (w := 599) hc rfl rfl (by decide) (Nat.le_of_ble_eq_true rfl) rfl ?_
      refine wi_i1 hc rfl rfl ?_
      refine wi_ildv (N := 3642) hc rfl rfl (by decide) (by decide) (by omega) (by omega) (v := A x) (congrFun (hJ.1) _) ?_
      refine wi_go hc rfl ?_
      refine wi_ri hc rfl (by rw [cm_287]; rfl) ?_
      have hR : aboutP A N x = A x := by
        unfold aboutP
        rw [if_neg (by omega), if_pos (by omega)]
      rw [hR]
  · refine wi_ic hc rfl ?_
    refine wi_is1 (L' := [some (.ref 598), some (.int (iI x)), some (.int (iI 0)), none]) hc rfl (Nat.le_of_ble_eq_true rfl) rfl ?_
    refine wi_ic hc rfl ?_
    refine wi_is1 (L' := [some (.ref 598), some (.int (iI x)), some (.int (iI 0)), some (.int (iI 0))]) hc rfl (Nat.le_of_ble_eq_true rfl) rfl ?_
    have loop10_ : ∀ i : Int, i ≤ A 0 → 0 ≤ i → ∀ f : Int, f = flB A i.toNat → mm_wp (mm_Ev mm_ct mm_CM (d + 1)) 287 (10, [some (.ref 598), some (.int (iI x)), some (.int (iI f)), some (.int (iI i))], [], MX L t s l) (fun r => r = (some (.int (iI (aboutP A N x))), MX L t s l)) := by
      refine up_ind ?_
      intro i hi ih hi0 f hf
      have hfn := flB_nn A i.toNat
      rw [← hf] at hfn
      have hpw : (0 : Int) ≤ 2 ^ i.toNat := by rw [p2c]; exact Int.natCast_nonneg _
      have hfs : flB A (i + 1).toNat = if A (46 + 6 * i + 5) = 4 then orI f (1 * 2 ^ i.toNat) else f := by
        rw [show (i + 1).toNat = i.toNat + 1 by omega, flB, ← hf, show ((i.toNat : Nat) : Int) = i by omega]
      refine wi_i1 hc rfl rfl ?_
      refine wi_a1 hc rfl rfl ?_
      refine wi_gr (w := 599) hc rfl rfl (by decide) (Nat.le_of_ble_eq_true rfl) rfl ?_
      refine wi_ic hc rfl ?_
      refine wi_ildv (N := 3642) hc rfl rfl (by decide) (by decide) (by omega) (by omega) (v := A 0) (congrFun (hJ.1) _) ?_
      refine wi_cge hc rfl ⟨by omega, by omega⟩ ⟨by omega, by omega⟩ (fun h4_ => ?_) (fun h4_ => ?_)
      · refine wi_i1 hc rfl rfl ?_
        refine wi_ri hc rfl (by rw [cm_287]; rfl) ?_
        have hR : aboutP A N x = f := by unfold aboutP; rw [if_pos (by omega), show A 0 = i by omega, ← hf]
        rw [hR]
      · have gw := (hB.2.2.2.2 i (by omega) (by omega)).1
        refine wi_i1 hc rfl rfl ?_
        refine wi_a1 hc rfl rfl ?_
        refine wi_i1 hc rfl rfl ?_
        refine wi_ic hc rfl ?_
        refine wp_cv (b := 598) (As := [.int (iI i), .int (iI 5)]) (r := [.int (iI f)]) hc rfl (by rw [cm_153]; rfl) rfl (Nat.le_of_ble_eq_true rfl) (show 598 < 621 by decide) (by rw [cm_153]; rfl) (ev_mono (sg_153 (d := 0) hJ.1 (b := i) (w := 5) (by omega) (by omega) (by omega) (by omega)) (by omega)) ?_
        show mm_wp _ _ (27, [some (.ref 598), some (.int (iI x)), some (.int (iI f)), some (.int (iI i))], [.int (iI (A (46 + 6 * i + 5))), .int (iI f)], MX L t s l) _
        refine wi_ic hc rfl ?_
        refine wi_cne hc rfl ⟨by omega, by omega⟩ ⟨by decide, by decide⟩ (fun h5_ => ?_) (fun h5_ => ?_)
        · refine wi_ic hc rfl ?_
          refine wi_or hc rfl (by omega) (by omega) ?_
          refine wi_is1 (L' := [some (.ref 598), some (.int (iI x)), some (.int (iI (orI f 0))), some (.int (iI i))]) hc rfl (Nat.le_of_ble_eq_true rfl) rfl ?_
          refine wi_inc (L' := [some (.ref 598), some (.int (iI x)), some (.int (iI (orI f 0))), some (.int (iI (i + 1)))]) hc rfl rfl rfl ?_
          refine wi_go hc rfl ?_
          exact ih (by omega) (by omega) _ (by rw [hfs, if_neg (by omega), orI_zero hfn])
        · refine wi_ic hc rfl ?_
          refine wi_i1 hc rfl rfl ?_
          refine wi_shl (2 ^ i.toNat) rfl hc rfl (by omega) (by omega) ?_
          refine wi_go hc rfl ?_
          refine wi_or hc rfl (by omega) (by omega) ?_
          refine wi_is1 (L' := [some (.ref 598), some (.int (iI x)), some (.int (iI (orI f (1 * (2 ^ i.toNat))))), some (.int (iI i))]) hc rfl (Nat.le_of_ble_eq_true rfl) rfl ?_
          refine wi_inc (L' := [some (.ref 598), some (.int (iI x)), some (.int (iI (orI f (1 * (2 ^ i.toNat))))), some (.int (iI (i + 1)))]) hc rfl rfl rfl ?_
          refine wi_go hc rfl ?_
          exact ih (by omega) (by omega) _ (by rw [hfs, if_pos (by omega)])
    exact loop10_ 0 (by omega) (by omega) 0 rfl
