/-! A book's parts. -/
def ofP (A T : Int → Int) (b w : Int) : Int := if (0 ≤ b ∧ b < A 0) ∧ 0 ≤ w ∧ w ≤ 7 then (if w = 0 then A (46 + 6 * b + 5) else if w = 1 then (if A (46 + 6 * b + 5) ≤ 2 then placeP A b else -1) else if w = 7 then thickP A T b else A (46 + 6 * b + (w - 2))) else -2

theorem sp_102 {d L t : Nat} {s l : Nat → Int → Int} {A T : Int → Int} (hJ : JC s A T) (hK : KA A T) {b w : Int} (hb : rI b) (hw : rI w) : ∃ s1, mm_Ev mm_ct mm_CM (d + 4) 102 [.ref 0, .int (iI b), .int (iI w)] (MX L t s l) (some (.int (iI (ofP A T b w))), MX L t s1 l) ∧ (∀ c, c ≠ 578 ∧ c ≠ 579 → s1 c = s c) ∧ JC s1 A T := by
  have hc : (mm_CM 102).2.2.2.2.2.2.2 = mm_cf cd_102 := by rw [cm_102]; rfl
  refine ev_xs ?_
  refine ev_to (mx := 3) (by rw [cm_102]; decide) (by rw [cm_102]; rfl) (by show 3 ≤ _; decide) ?_
  show mm_wp _ _ (0, [some (.ref 0), some (.int (iI b)), some (.int (iI w))], [], MX L t s l) (fun res => ∃ s1, res = (some (.int (iI (ofP A T b w))), MX L t s1 l) ∧ (∀ c, c ≠ 578 ∧ c ≠ 579 → s1 c = s c) ∧ JC s1 A T)
  have hB := hK.2.1
  have g0 := hB.1
  refine wi_a1 hc rfl rfl ?_
  refine wi_i1 hc rfl rfl ?_
  refine wp_cv (b := 0) (As := [.int (iI b)]) (r := []) hc rfl (by rw [cm_129]; rfl) rfl (Nat.le_of_ble_eq_true rfl) (show 0 < 621 by decide) (by rw [cm_129]; rfl) (ev_mono (sg_129 (d := 0) hJ.1 hb hK.2.1.1) (by omega)) ?_
  show mm_wp _ _ (5, [some (.ref 0), some (.int (iI b)), some (.int (iI w))], [.int (iI (bI (0 ≤ b ∧ b < A 0)))], MX L t s l) _
  refine wi_bne hc rfl (fun h1_ => ?_) (fun h1_ => ?_)
  · have gw := (hB.2.2.2.2 b (by omega) (by omega)).1
    refine wi_i1 hc rfl rfl ?_
    refine wi_sw hc rfl hw ?_
    refine wp_if (fun h2_ => ?_) (fun h2_ => ?_)
    · refine wi_a1 hc rfl rfl ?_
      refine wi_gr (w := 1) hc rfl rfl (by decide) (Nat.le_of_ble_eq_true rfl) rfl ?_
      refine wi_gr (w := 2) hc rfl rfl (by decide) (Nat.le_of_ble_eq_true rfl) rfl ?_
      refine wi_gr (w := 8) hc rfl rfl (by decide) (Nat.le_of_ble_eq_true rfl) rfl ?_
      refine wi_i1 hc rfl rfl ?_
      refine wi_ildv (N := 10) hc rfl rfl (by decide) (by decide) (by omega) (by omega) (v := A (46 + 6 * b + 5)) (lb_where hJ.1 (by omega) (by omega) (by omega)) ?_
      refine wi_ri hc rfl (by rw [cm_102]; rfl) ?_
      have hR : ofP A T b w = A (46 + 6 * b + 5) := by
        unfold ofP
        rw [if_pos (by omega), if_pos (by omega)]
      rw [hR]
      exact ⟨s, rfl, fun c _ => rfl, hJ⟩
    · skip
      refine wp_if (fun h3_ => ?_) (fun h3_ => ?_)
      · refine wi_a1 hc rfl rfl ?_
        refine wi_gr (w := 1) hc rfl rfl (by decide) (Nat.le_of_ble_eq_true rfl) rfl ?_
        refine wi_gr (w := 2) hc rfl rfl (by decide) (Nat.le_of_ble_eq_true rfl) rfl ?_
        refine wi_i1 hc rfl rfl ?_
        by_cases hws : A (46 + 6 * b + 5) ≤ 2
        · obtain ⟨p0, p1, p2⟩ := placeP_ok hB (b := b) (by omega) (by omega) hws
          refine wp_cv (b := 2) (As := [.int (iI b)]) (r := []) hc rfl (by rw [cm_70]; rfl) rfl (Nat.le_of_ble_eq_true rfl) (show 2 < 621 by decide) (by rw [cm_70]; rfl) (ev_mono (sp_70 (d := 0) hJ.1 hK (b := b) (x := A (46 + 6 * b + 5)) (p := placeP A b) (by omega) (by omega) rfl (by omega) (by omega) p0 p1 p2) (by omega)) ?_
          show mm_wp _ _ (84, [some (.ref 0), some (.int (iI b)), some (.int (iI w))], [.int (iI (placeP A b))], MX L t s l) _
          refine wi_ri hc rfl (by rw [cm_102]; rfl) ?_
          have hR : ofP A T b w = placeP A b := by
            unfold ofP
            rw [if_pos (by omega), if_neg (by omega), if_pos (by omega), if_pos (by omega)]
          rw [hR]
          exact ⟨s, rfl, fun c _ => rfl, hJ⟩
        · skip
          refine wp_cv (b := 2) (As := [.int (iI b)]) (r := []) hc rfl (by rw [cm_70]; rfl) rfl (Nat.le_of_ble_eq_true rfl) (show 2 < 621 by decide) (by rw [cm_70]; rfl) (ev_mono (sp_70o (d := 0) hJ.1 hK (b := b) (by omega) (by omega) (by omega)) (by omega)) ?_
          show mm_wp _ _ (84, [some (.ref 0), some (.int (iI b)), some (.int (iI w))], [.int (iI (-1))], MX L t s l) _
          refine wi_ri hc rfl (by rw [cm_102]; rfl) ?_
          have hR : ofP A T b w = (-1) := by
            unfold ofP
            rw [if_pos (by omega), if_neg (by omega), if_pos (by omega), if_neg (by omega)]
          rw [hR]
          exact ⟨s, rfl, fun c _ => rfl, hJ⟩
      · skip
        refine wp_if (fun h4_ => ?_) (fun h4_ => ?_)
        · refine wi_a1 hc rfl rfl ?_
          refine wi_gr (w := 1) hc rfl rfl (by decide) (Nat.le_of_ble_eq_true rfl) rfl ?_
          refine wi_gr (w := 12) hc rfl rfl (by decide) (Nat.le_of_ble_eq_true rfl) rfl ?_
          refine wi_i1 hc rfl rfl ?_
          refine wi_ald (w := 13 + b.toNat) (N := 10) hc rfl (Nat.le_of_ble_eq_true rfl) (Nat.le_of_ble_eq_true rfl) (by decide) rfl (by decide) (by omega) (by omega) (sh_trait12 (by omega) (by omega)) ?_
          refine wi_ic hc rfl ?_
          refine wi_ildv (N := 5) hc rfl (sh_traits (by omega) (by omega)) (by omega) (by decide) (by omega) (by omega) (v := A (46 + 6 * b + 0)) (lb_tr hJ.1 (by omega) (by omega) (by omega) (by omega)) ?_
          refine wi_ri hc rfl (by rw [cm_102]; rfl) ?_
          have hR : ofP A T b w = A (46 + 6 * b + 0) := by
            unfold ofP
            rw [if_pos (by omega), if_neg (by omega), if_neg (by omega), if_neg (by omega)]
            congr 1
            omega
          rw [hR]
          exact ⟨s, rfl, fun c _ => rfl, hJ⟩
        · skip
          refine wp_if (fun h5_ => ?_) (fun h5_ => ?_)
          · refine wi_a1 hc rfl rfl ?_
            refine wi_gr (w := 1) hc rfl rfl (by decide) (Nat.le_of_ble_eq_true rfl) rfl ?_
            refine wi_gr (w := 12) hc rfl rfl (by decide) (Nat.le_of_ble_eq_true rfl) rfl ?_
            refine wi_i1 hc rfl rfl ?_
            refine wi_ald (w := 13 + b.toNat) (N := 10) hc rfl (Nat.le_of_ble_eq_true rfl) (Nat.le_of_ble_eq_true rfl) (by decide) rfl (by decide) (by omega) (by omega) (sh_trait12 (by omega) (by omega)) ?_
            refine wi_ic hc rfl ?_
            refine wi_ildv (N := 5) hc rfl (sh_traits (by omega) (by omega)) (by omega) (by decide) (by omega) (by omega) (v := A (46 + 6 * b + 1)) (lb_tr hJ.1 (by omega) (by omega) (by omega) (by omega)) ?_
            refine wi_ri hc rfl (by rw [cm_102]; rfl) ?_
            have hR : ofP A T b w = A (46 + 6 * b + 1) := by
              unfold ofP
              rw [if_pos (by omega), if_neg (by omega), if_neg (by omega), if_neg (by omega)]
              congr 1
              omega
            rw [hR]
            exact ⟨s, rfl, fun c _ => rfl, hJ⟩
          · skip
            refine wp_if (fun h6_ => ?_) (fun h6_ => ?_)
            · refine wi_a1 hc rfl rfl ?_
              refine wi_gr (w := 1) hc rfl rfl (by decide) (Nat.le_of_ble_eq_true rfl) rfl ?_
              refine wi_gr (w := 12) hc rfl rfl (by decide) (Nat.le_of_ble_eq_true rfl) rfl ?_
              refine wi_i1 hc rfl rfl ?_
              refine wi_ald (w := 13 + b.toNat) (N := 10) hc rfl (Nat.le_of_ble_eq_true rfl) (Nat.le_of_ble_eq_true rfl) (by decide) rfl (by decide) (by omega) (by omega) (sh_trait12 (by omega) (by omega)) ?_
              refine wi_ic hc rfl ?_
              refine wi_ildv (N := 5) hc rfl (sh_traits (by omega) (by omega)) (by omega) (by decide) (by omega) (by omega) (v := A (46 + 6 * b + 2)) (lb_tr hJ.1 (by omega) (by omega) (by omega) (by omega)) ?_
              refine wi_ri hc rfl (by rw [cm_102]; rfl) ?_
              have hR : ofP A T b w = A (46 + 6 * b + 2) := by
                unfold ofP
                rw [if_pos (by omega), if_neg (by omega), if_neg (by omega), if_neg (by omega)]
                congr 1
                omega
              rw [hR]
              exact ⟨s, rfl, fun c _ => rfl, hJ⟩
            · skip
              refine wp_if (fun h7_ => ?_) (fun h7_ => ?_)
              · refine wi_a1 hc rfl rfl ?_
                refine wi_gr (w := 1) hc rfl rfl (by decide) (Nat.le_of_ble_eq_true rfl) rfl ?_
                refine wi_gr (w := 12) hc rfl rfl (by decide) (Nat.le_of_ble_eq_true rfl) rfl ?_
                refine wi_i1 hc rfl rfl ?_
                refine wi_ald (w := 13 + b.toNat) (N := 10) hc rfl (Nat.le_of_ble_eq_true rfl) (Nat.le_of_ble_eq_true rfl) (by decide) rfl (by decide) (by omega) (by omega) (sh_trait12 (by omega) (by omega)) ?_
                refine wi_ic hc rfl ?_
                refine wi_ildv (N := 5) hc rfl (sh_traits (by omega) (by omega)) (by omega) (by decide) (by omega) (by omega) (v := A (46 + 6 * b + 3)) (lb_tr hJ.1 (by omega) (by omega) (by omega) (by omega)) ?_
                refine wi_ri hc rfl (by rw [cm_102]; rfl) ?_
                have hR : ofP A T b w = A (46 + 6 * b + 3) := by
                  unfold ofP
                  rw [if_pos (by omega), if_neg (by omega), if_neg (by omega), if_neg (by omega)]
                  congr 1
                  omega
                rw [hR]
                exact ⟨s, rfl, fun c _ => rfl, hJ⟩
              · skip
                refine wp_if (fun h8_ => ?_) (fun h8_ => ?_)
                · refine wi_a1 hc rfl rfl ?_
                  refine wi_gr (w := 1) hc rfl rfl (by decide) (Nat.le_of_ble_eq_true rfl) rfl ?_
                  refine wi_gr (w := 12) hc rfl rfl (by decide) (Nat.le_of_ble_eq_true rfl) rfl ?_
                  refine wi_i1 hc rfl rfl ?_
                  refine wi_ald (w := 13 + b.toNat) (N := 10) hc rfl (Nat.le_of_ble_eq_true rfl) (Nat.le_of_ble_eq_true rfl) (by decide) rfl (by decide) (by omega) (by omega) (sh_trait12 (by omega) (by omega)) ?_
                  refine wi_ic hc rfl ?_
                  refine wi_ildv (N := 5) hc rfl (sh_traits (by omega) (by omega)) (by omega) (by decide) (by omega) (by omega) (v := A (46 + 6 * b + 4)) (lb_tr hJ.1 (by omega) (by omega) (by omega) (by omega)) ?_
                  refine wi_ri hc rfl (by rw [cm_102]; rfl) ?_
                  have hR : ofP A T b w = A (46 + 6 * b + 4) := by
                    unfold ofP
                    rw [if_pos (by omega), if_neg (by omega), if_neg (by omega), if_neg (by omega)]
                    congr 1
                    omega
                  rw [hR]
                  exact ⟨s, rfl, fun c _ => rfl, hJ⟩
                · skip
                  refine wp_if (fun h9_ => ?_) (fun h9_ => ?_)
                  · refine wi_a1 hc rfl rfl ?_
                    refine wi_gr (w := 577) hc rfl rfl (by decide) (Nat.le_of_ble_eq_true rfl) rfl ?_
                    refine wi_a1 hc rfl rfl ?_
                    refine wi_gr (w := 1) hc rfl rfl (by decide) (Nat.le_of_ble_eq_true rfl) rfl ?_
                    refine wi_i1 hc rfl rfl ?_
                    obtain ⟨s1_, hE1_, hF1_, hJ1_⟩ := sp_3 (d := 0) (L := L) (t := t) (l := l) hJ hK.1 (b := b) (by omega) (by omega)
                    refine wp_cv (b := 577) (As := [.ref 1, .int (iI b)]) (r := []) hc rfl (by rw [cm_3]; rfl) rfl (Nat.le_of_ble_eq_true rfl) (show 577 < 621 by decide) (by rw [cm_3]; rfl) (ev_mono hE1_ (by omega)) ?_
                    show mm_wp _ _ (157, [some (.ref 0), some (.int (iI b)), some (.int (iI w))], [.int (iI (thickP A T b))], MX L t s1_ l) _
                    refine wi_ri hc rfl (by rw [cm_102]; rfl) ?_
                    have hR : ofP A T b w = thickP A T b := by
                      unfold ofP
                      rw [if_pos (by omega), if_neg (by omega), if_neg (by omega), if_pos (by omega)]
                    rw [hR]
                    exact ⟨s1_, rfl, fun c hc9_ => hF1_ c (by omega), hJ1_⟩
                  · skip
                    show mm_wp _ _ (158, [some (.ref 0), some (.int (iI b)), some (.int (iI w))], [], MX L t s l) _
                    refine wi_bi hc rfl rfl ?_
                    refine wi_ri hc rfl (by rw [cm_102]; rfl) ?_
                    have hR : ofP A T b w = (-2) := by
                      unfold ofP
                      rw [if_neg (by omega)]
                    rw [hR]
                    exact ⟨s, rfl, fun c _ => rfl, hJ⟩
  · refine wi_bi hc rfl rfl ?_
    refine wi_ri hc rfl (by rw [cm_102]; rfl) ?_
    have hR : ofP A T b w = (-2) := by
      unfold ofP
      rw [if_neg (by omega)]
    rw [hR]
    exact ⟨s, rfl, fun c _ => rfl, hJ⟩
theorem sp_236 {d L t : Nat} {s l : Nat → Int → Int} {A T : Int → Int} (hJ : JM s A T) (hK : KA A T) {b w : Int} (hb : rI b) (hw : rI w) : ∃ s1 l1, mm_Ev mm_ct mm_CM (d + 5) 236 [.ref 598, .int (iI b), .int (iI w)] (MX L t s l) (some (.int (iI (ofP A T b w))), MX L t s1 l1) ∧ (∀ c, c ≠ 604 ∧ c ≠ 606 → s1 c = s c) ∧ (∀ c, c ≠ 605 → l1 c = l c) ∧ JM s1 A T := by
  have hc : (mm_CM 236).2.2.2.2.2.2.2 = mm_cf cd_236 := by rw [cm_236]; rfl
  refine ev_xsl ?_
  refine ev_to (mx := 3) (by rw [cm_236]; decide) (by rw [cm_236]; rfl) (by show 3 ≤ _; decide) ?_
  show mm_wp _ _ (0, [some (.ref 598), some (.int (iI b)), some (.int (iI w))], [], MX L t s l) (fun res => ∃ s1 l1, res = (some (.int (iI (ofP A T b w))), MX L t s1 l1) ∧ (∀ c, c ≠ 604 ∧ c ≠ 606 → s1 c = s c) ∧ (∀ c, c ≠ 605 → l1 c = l c) ∧ JM s1 A T)
  have hB := hK.2.1
  have g0 := hB.1
  refine wi_a1 hc rfl rfl ?_
  refine wi_i1 hc rfl rfl ?_
  refine wp_cv (b := 598) (As := [.int (iI b)]) (r := []) hc rfl (by rw [cm_151]; rfl) rfl (Nat.le_of_ble_eq_true rfl) (show 598 < 621 by decide) (by rw [cm_151]; rfl) (ev_mono (sg_151 (d := 0) (hJ.1) hb (by omega) (by omega)) (by omega)) ?_
  show mm_wp _ _ (5, [some (.ref 598), some (.int (iI b)), some (.int (iI w))], [.int (iI (bI (0 ≤ b ∧ b < A 0)))], MX L t s l) _
  refine wi_beq hc rfl (fun h1_ => ?_) (fun h1_ => ?_)
  · refine wi_bi hc rfl rfl ?_
    refine wi_ri hc rfl (by rw [cm_236]; rfl) ?_
    have hR : ofP A T b w = (-2) := by
      unfold ofP
      rw [if_neg (by omega)]
    rw [hR]
    exact ⟨s, l, rfl, fun c _ => rfl, fun c _ => rfl, hJ⟩
  · refine wi_i1 hc rfl rfl ?_
    refine wi_ic hc rfl ?_
    refine wi_bi hc rfl rfl ?_
    refine wp_cs (As := [.int (iI w), .int (iI 0), .int (iI 7)]) (r := []) hc rfl (by rw [cm_148]; rfl) rfl (Nat.le_of_ble_eq_true rfl) (ev_mono (sp_148 (d := 0) hw ⟨by decide, by decide⟩ ⟨by decide, by decide⟩) (by omega)) ?_
    show mm_wp _ _ (15, [some (.ref 598), some (.int (iI b)), some (.int (iI w))], [.int (iI (bI (0 ≤ w ∧ w ≤ 7)))], MX L t s l) _
    refine wi_bne hc rfl (fun h2_ => ?_) (fun h2_ => ?_)
    · have gw := (hB.2.2.2.2 b (by omega) (by omega)).1
      refine wi_i1 hc rfl rfl ?_
      refine wi_zne hc rfl hw (fun h3_ => ?_) (fun h3_ => ?_)
      · refine wi_i1 hc rfl rfl ?_
        refine wi_ic hc rfl ?_
        refine wi_cne hc rfl hw ⟨by decide, by decide⟩ (fun h4_ => ?_) (fun h4_ => ?_)
        · refine wi_i1 hc rfl rfl ?_
          refine wi_bi hc rfl rfl ?_
          refine wi_cne hc rfl hw ⟨by decide, by decide⟩ (fun h5_ => ?_) (fun h5_ => ?_)
          · refine wi_a1 hc rfl rfl ?_
            refine wi_i1 hc rfl rfl ?_
            refine wi_i1 hc rfl rfl ?_
            refine wi_ic hc rfl ?_
            refine wi_sub hc rfl ?_
            refine wp_cv (b := 598) (As := [.int (iI b), .int (iI (w - 2))]) (r := []) hc rfl (by rw [cm_153]; rfl) rfl (Nat.le_of_ble_eq_true rfl) (show 598 < 621 by decide) (by rw [cm_153]; rfl) (ev_mono (sg_153 (d := 0) hJ.1 (b := b) (w := w - 2) (by omega) (by omega) (by omega) (by omega)) (by omega)) ?_
            show mm_wp _ _ (77, [some (.ref 598), some (.int (iI b)), some (.int (iI w))], [.int (iI (A (46 + 6 * b + (w - 2))))], MX L t s l) _
            refine wi_ri hc rfl (by rw [cm_236]; rfl) ?_
            have hR : ofP A T b w = A (46 + 6 * b + (w - 2)) := by
              unfold ofP
              rw [if_pos (by omega), if_neg (by omega), if_neg (by omega), if_neg (by omega)]
            rw [hR]
            exact ⟨s, l, rfl, fun c _ => rfl, fun c _ => rfl, hJ⟩
          · refine wi_a1 hc rfl rfl ?_
            refine wi_i1 hc rfl rfl ?_
            obtain ⟨s1_, l1_, hE1_, hF1_, hG1_, hJ1_⟩ := sp_207 (d := 0) (L := L) (t := t) (l := l) hJ hK.1 (b := b) (by omega) (by omega)
            refine wp_cv (b := 598) (As := [.int (iI b)]) (r := []) hc rfl (by rw [cm_207]; rfl) rfl (Nat.le_of_ble_eq_true rfl) (show 598 < 621 by decide) (by rw [cm_207]; rfl) (ev_mono hE1_ (by omega)) ?_
            show mm_wp _ _ (66, [some (.ref 598), some (.int (iI b)), some (.int (iI w))], [.int (iI (thickP A T b))], MX L t s1_ l1_) _
            refine wi_go hc rfl ?_
            refine wi_ri hc rfl (by rw [cm_236]; rfl) ?_
            have hR : ofP A T b w = thickP A T b := by
              unfold ofP
              rw [if_pos (by omega), if_neg (by omega), if_neg (by omega), if_pos (by omega)]
            rw [hR]
            exact ⟨s1_, l1_, rfl, fun c hc9_ => hF1_ c (by omega), fun c hc9_ => hG1_ c (by omega), hJ1_⟩
        · refine wi_a1 hc rfl rfl ?_
          refine wi_i1 hc rfl rfl ?_
          refine wp_cv (b := 598) (As := [.int (iI b)]) (r := []) hc rfl (by rw [cm_156]; rfl) rfl (Nat.le_of_ble_eq_true rfl) (show 598 < 621 by decide) (by rw [cm_156]; rfl) (ev_mono (sp_156 (d := 0) hJ hK.2.1 hb) (by omega)) ?_
          show mm_wp _ _ (42, [some (.ref 598), some (.int (iI b)), some (.int (iI w))], [.int (iI (bI ((0 ≤ b ∧ b < A 0) ∧ A (46 + 6 * b + 5) < 3)))], MX L t s l) _
          refine wi_beq hc rfl (fun h6_ => ?_) (fun h6_ => ?_)
          · refine wi_ic hc rfl ?_
            refine wi_ri hc rfl (by rw [cm_236]; rfl) ?_
            have hR : ofP A T b w = (-1) := by
              unfold ofP
              rw [if_pos (by omega), if_neg (by omega), if_pos (by omega), if_neg (by omega)]
            rw [hR]
            exact ⟨s, l, rfl, fun c _ => rfl, fun c _ => rfl, hJ⟩
          · refine wi_a1 hc rfl rfl ?_
            refine wi_i1 hc rfl rfl ?_
            refine wp_cv (b := 598) (As := [.int (iI b)]) (r := []) hc rfl (by rw [cm_157]; rfl) rfl (Nat.le_of_ble_eq_true rfl) (show 598 < 621 by decide) (by rw [cm_157]; rfl) (ev_mono (sh_157 (d := 0) hJ.1 hK (b := b) (by omega) (by omega) (by omega)) (by omega)) ?_
            show mm_wp _ _ (50, [some (.ref 598), some (.int (iI b)), some (.int (iI w))], [.int (iI (placeP A b))], MX L t s l) _
            refine wi_go hc rfl ?_
            refine wi_ri hc rfl (by rw [cm_236]; rfl) ?_
            have hR : ofP A T b w = placeP A b := by
              unfold ofP
              rw [if_pos (by omega), if_neg (by omega), if_pos (by omega), if_pos (by omega)]
            rw [hR]
            exact ⟨s, l, rfl, fun c _ => rfl, fun c _ => rfl, hJ⟩
      · refine wi_a1 hc rfl rfl ?_
        refine wi_i1 hc rfl rfl ?_
        refine wi_ic hc rfl ?_
        refine wp_cv (b := 598) (As := [.int (iI b), .int (iI 5)]) (r := []) hc rfl (by rw [cm_153]; rfl) rfl (Nat.le_of_ble_eq_true rfl) (show 598 < 621 by decide) (by rw [cm_153]; rfl) (ev_mono (sg_153 (d := 0) hJ.1 (b := b) (w := 5) (by omega) (by omega) (by omega) (by omega)) (by omega)) ?_
        show mm_wp _ _ (31, [some (.ref 598), some (.int (iI b)), some (.int (iI w))], [.int (iI (A (46 + 6 * b + 5)))], MX L t s l) _
        refine wi_ri hc rfl (by rw [cm_236]; rfl) ?_
        have hR : ofP A T b w = A (46 + 6 * b + 5) := by
          unfold ofP
          rw [if_pos (by omega), if_pos (by omega)]
        rw [hR]
        exact ⟨s, l, rfl, fun c _ => rfl, fun c _ => rfl, hJ⟩
    · refine wi_bi hc rfl rfl ?_
      refine wi_ri hc rfl (by rw [cm_236]; rfl) ?_
      have hR : ofP A T b w = (-2) := by
        unfold ofP
        rw [if_neg (by omega)]
      rw [hR]
      exact ⟨s, l, rfl, fun c _ => rfl, fun c _ => rfl, hJ⟩
