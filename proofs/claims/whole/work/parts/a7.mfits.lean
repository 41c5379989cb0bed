/-! The model's FITS. -/
theorem sp_284 {d L t : Nat} {s l : Nat → Int → Int} {A T : Int → Int} (hJ : JM s A T) (hK : KA A T) {x : Int} (hx : rI x) : ∃ s1 l1, mm_Ev mm_ct mm_CM (d + 6) 284 [.ref 598, .int (iI x)] (MX L t s l) (some (.int (iI (fitsP A T x))), MX L t s1 l1) ∧ (∀ c, c ≠ 604 ∧ c ≠ 606 → s1 c = s c) ∧ (∀ c, c ≠ 605 → l1 c = l c) ∧ JM s1 A T := by
  have hc : (mm_CM 284).2.2.2.2.2.2.2 = mm_cf cd_284 := by rw [cm_284]; rfl
  refine ev_xsl ?_
  refine ev_to (mx := 8) (by rw [cm_284]; decide) (by rw [cm_284]; rfl) (by show 2 ≤ _; decide) ?_
  show mm_wp _ _ (0, [some (.ref 598), some (.int (iI x)), none, none, none, none, none, none], [], MX L t s l) (fun res => ∃ s1 l1, res = (some (.int (iI (fitsP A T x))), MX L t s1 l1) ∧ (∀ c, c ≠ 604 ∧ c ≠ 606 → s1 c = s c) ∧ (∀ c, c ≠ 605 → l1 c = l c) ∧ JM s1 A T)
  have hV := hK.1
  have hB := hK.2.1
  have g0 := hB.1
  have hpw := pw_10 g0.1 g0.2
  have hpz := pw_pos (A 0)
  refine wi_i1 hc rfl rfl ?_
  refine wp_cs (As := [.int (iI x)]) (r := []) hc rfl (by rw [cm_152]; rfl) rfl (Nat.le_of_ble_eq_true rfl) (ev_mono (sp_152 (d := 0) hx) (by omega)) ?_
  show mm_wp _ _ (4, [some (.ref 598), some (.int (iI x)), none, none, none, none, none, none], [.int (iI (bI (0 ≤ x ∧ x ≤ 2)))], MX L t s l) _
  refine wi_bne hc rfl (fun h1_ => ?_) (fun h1_ => ?_)
  · have hw9 := hK.2.2.1.2.2.2.2.1 x (by omega) (by omega)
    have gm := hB.2.1 x (by omega) (by omega)
    have hfr0 := fullN_r hV hB (x := x) (by omega) (by omega) (A (13 + x)).toNat (by omega)
    have hfd : fullP A T x = fullN A T x (A (13 + x)).toNat := rfl
    refine wi_a1 hc rfl rfl ?_
    refine wi_gr (w := 599) hc rfl rfl (by decide) (Nat.le_of_ble_eq_true rfl) rfl ?_
    refine wi_bi hc rfl rfl ?_
    refine wi_i1 hc rfl rfl ?_
    refine wi_add hc rfl ?_
    refine wi_ildv (N := 3642) hc rfl rfl (by decide) (by decide) (by omega) (by omega) (v := A (10 + x)) (congrFun (hJ.1) _) ?_
    refine wi_a1 hc rfl rfl ?_
    refine wi_i1 hc rfl rfl ?_
    obtain ⟨s1_, l1_, hE1_, hF1_, hG1_, hJ1_⟩ := sp_208 (d := 0) (L := L) (t := t) (l := l) hJ hK.1 (x := x) (by omega) (by omega) (hK.2.1.2.1 _ (by omega) (by omega)).1 (hK.2.1.2.1 _ (by omega) (by omega)).2 (fun p p0 p1 => ⟨(hK.2.1.2.2.1 _ p (by omega) (by omega) p0 p1).1, (hK.2.1.2.2.1 _ p (by omega) (by omega) p0 p1).2.1⟩)
    refine wp_cv (b := 598) (As := [.int (iI x)]) (r := [.int (iI (A (10 + x)))]) hc rfl (by rw [cm_208]; rfl) rfl (Nat.le_of_ble_eq_true rfl) (show 598 < 621 by decide) (by rw [cm_208]; rfl) (ev_mono hE1_ (by omega)) ?_
    show mm_wp _ _ (23, [some (.ref 598), some (.int (iI x)), none, none, none, none, none, none], [.int (iI (fullP A T x)), .int (iI (A (10 + x)))], MX L t s1_ l1_) _
    refine wi_sub hc rfl ?_
    obtain ⟨fr, hfr⟩ : ∃ z9, z9 = (A (10 + x) - fullP A T x) := ⟨_, rfl⟩
    rw [← hfr]
    have hfx : -1000 ≤ fr ∧ fr ≤ 99 := by omega
    refine wi_is1 (L' := [some (.ref 598), some (.int (iI x)), some (.int (iI fr)), none, none, none, none, none]) hc rfl (Nat.le_of_ble_eq_true rfl) rfl ?_
    refine wi_ic hc rfl ?_
    refine wi_is1 (L' := [some (.ref 598), some (.int (iI x)), some (.int (iI fr)), some (.int (iI 0)), none, none, none, none]) hc rfl (Nat.le_of_ble_eq_true rfl) rfl ?_
    refine wi_ic hc rfl ?_
    refine wi_is2 (L' := [some (.ref 598), some (.int (iI x)), some (.int (iI fr)), some (.int (iI 0)), some (.int (iI 0)), none, none, none]) hc rfl (Nat.le_of_ble_eq_true rfl) rfl ?_
    refine wi_ic hc rfl ?_
    refine wi_is2 (L' := [some (.ref 598), some (.int (iI x)), some (.int (iI fr)), some (.int (iI 0)), some (.int (iI 0)), some (.int (iI 1)), none, none]) hc rfl (Nat.le_of_ble_eq_true rfl) rfl ?_
    have loop33_ : ∀ X : Int, X ≤ 2 ^ (A 0).toNat → 1 ≤ X → ∀ (v sm : Int) (o6 o7 : Option Value) (s3 : Nat → Int → Int) (l3 : Nat → Int → Int), (∀ c, c ≠ 604 ∧ c ≠ 606 → s3 c = s c) → (∀ c, c ≠ 605 → l3 c = l c) → JM s3 A T → MFt (wF A T) (A 0).toNat fr X v sm → mm_wp (mm_Ev mm_ct mm_CM (d + 5)) 284 (33, [some (.ref 598), some (.int (iI x)), some (.int (iI fr)), some (.int (iI v)), some (.int (iI sm)), some (.int (iI X)), o6, o7], [], MX L t s3 l3) (fun res => ∃ s1 l1, res = (some (.int (iI (fitsP A T x))), MX L t s1 l1) ∧ (∀ c, c ≠ 604 ∧ c ≠ 606 → s1 c = s c) ∧ (∀ c, c ≠ 605 → l1 c = l c) ∧ JM s1 A T) := by
      refine up_ind ?_
      intro X hX9 ih X1 v sm o6 o7 s3 l3 hF3 hG3 hJ3 hmf
      have hvr : 0 ≤ v ∧ v < 1024 := by rcases hmf.2.1 with q | q <;> omega
      have hsr := wF_r (T := T) (X := v) hV (A 0).toNat (by omega)
      rw [← hmf.1] at hsr
      have hp1 := popI_r v
      have hp2 := popI_r X
      refine wi_i2 hc rfl rfl ?_
      refine wi_ic hc rfl ?_
      refine wi_a1 hc rfl rfl ?_
      refine wi_gr (w := 599) hc rfl rfl (by decide) (Nat.le_of_ble_eq_true rfl) rfl ?_
      refine wi_ic hc rfl ?_
      refine wi_ildv (N := 3642) hc rfl rfl (by decide) (by decide) (by omega) (by omega) (v := A 0) (congrFun (hJ3.1) _) ?_
      refine wi_shl (2 ^ (A 0).toNat) rfl hc rfl (by omega) (by omega) ?_
      refine wi_cge hc rfl ⟨by omega, by omega⟩ ⟨by omega, by omega⟩ (fun h2_ => ?_) (fun h2_ => ?_)
      · refine wi_i1 hc rfl rfl ?_
        refine wi_ri hc rfl (by rw [cm_284]; rfl) ?_
        have eX : X = 2 ^ (A 0).toNat := by omega
        rw [eX] at hmf
        have hR : fitsP A T x = v := by
          unfold fitsP
          rw [if_pos (by omega), ← hfr]
          exact ftA_of (by omega) (MFt_end hmf)
        rw [hR]
        exact ⟨s3, l3, rfl, fun c hc9_ => hF3 c (by omega), fun c hc9_ => hG3 c (by omega), hJ3⟩
      · refine wi_ic hc rfl ?_
        refine wi_is2 (L' := [some (.ref 598), some (.int (iI x)), some (.int (iI fr)), some (.int (iI v)), some (.int (iI sm)), some (.int (iI X)), some (.int (iI 0)), o7]) hc rfl (Nat.le_of_ble_eq_true rfl) rfl ?_
        refine wi_ic hc rfl ?_
        refine wi_is2 (L' := [some (.ref 598), some (.int (iI x)), some (.int (iI fr)), some (.int (iI v)), some (.int (iI sm)), some (.int (iI X)), some (.int (iI 0)), some (.int (iI 0))]) hc rfl (Nat.le_of_ble_eq_true rfl) rfl ?_
        have loop52_ : ∀ b : Int, b ≤ A 0 → 0 ≤ b → ∀ (s4 : Nat → Int → Int) (l4 : Nat → Int → Int), (∀ c, c ≠ 604 ∧ c ≠ 606 → s4 c = s c) → (∀ c, c ≠ 605 → l4 c = l c) → JM s4 A T → mm_wp (mm_Ev mm_ct mm_CM (d + 5)) 284 (52, [some (.ref 598), some (.int (iI x)), some (.int (iI fr)), some (.int (iI v)), some (.int (iI sm)), some (.int (iI X)), some (.int (iI (bS (wF A T) (btB X) b.toNat))), some (.int (iI b))], [], MX L t s4 l4) (fun res => ∃ s1 l1, res = (some (.int (iI (fitsP A T x))), MX L t s1 l1) ∧ (∀ c, c ≠ 604 ∧ c ≠ 606 → s1 c = s c) ∧ (∀ c, c ≠ 605 → l1 c = l c) ∧ JM s1 A T) := by
          refine up_ind ?_
          intro b hb9 ihb b0 s4 l4 hF4 hG4 hJ4
          have hbr := wF_r (T := T) (X := X) hV b.toNat (by omega)
          refine wi_i2 hc rfl rfl ?_
          refine wi_a1 hc rfl rfl ?_
          refine wi_gr (w := 599) hc rfl rfl (by decide) (Nat.le_of_ble_eq_true rfl) rfl ?_
          refine wi_ic hc rfl ?_
          refine wi_ildv (N := 3642) hc rfl rfl (by decide) (by decide) (by omega) (by omega) (v := A 0) (congrFun (hJ4.1) _) ?_
          refine wi_cge hc rfl ⟨by omega, by omega⟩ ⟨by omega, by omega⟩ (fun h3_ => ?_) (fun h3_ => ?_)
          · have e9 : bS (wF A T) (btB X) b.toNat = bS (wF A T) (btB X) (A 0).toNat := by rw [show A 0 = b by omega]
            refine wi_i2 hc rfl rfl ?_
            refine wi_i1 hc rfl rfl ?_
            refine wi_cgt hc rfl ⟨by omega, by omega⟩ ⟨by omega, by omega⟩ (fun h4_ => ?_) (fun h4_ => ?_)
            · refine wi_inc (L' := [some (.ref 598), some (.int (iI x)), some (.int (iI fr)), some (.int (iI v)), some (.int (iI sm)), some (.int (iI (X + 1))), some (.int (iI (bS (wF A T) (btB X) b.toNat))), some (.int (iI b))]) hc rfl rfl rfl ?_
              refine wi_go hc rfl ?_
              exact ih (by omega) (by omega) _ _ _ _ s4 l4 (fun c hc9_ => hF4 c (by omega)) (fun c hc9_ => hG4 c (by omega)) hJ4 (MFt_no hmf X1 (by omega))
            · refine wi_i2 hc rfl rfl ?_
              refine wp_cs (As := [.int (iI X)]) (r := []) hc rfl (by rw [cm_150]; rfl) rfl (Nat.le_of_ble_eq_true rfl) (ev_mono (sp_150 (d := 0) ⟨by omega, by omega⟩) (by omega)) ?_
              show mm_wp _ _ (122, [some (.ref 598), some (.int (iI x)), some (.int (iI fr)), some (.int (iI v)), some (.int (iI sm)), some (.int (iI X)), some (.int (iI (bS (wF A T) (btB X) b.toNat))), some (.int (iI b))], [.int (iI (popI X))], MX L t s4 l4) _
              refine wi_i1 hc rfl rfl ?_
              refine wp_cs (As := [.int (iI v)]) (r := [.int (iI (popI X))]) hc rfl (by rw [cm_150]; rfl) rfl (Nat.le_of_ble_eq_true rfl) (ev_mono (sp_150 (d := 0) ⟨by omega, by omega⟩) (by omega)) ?_
              show mm_wp _ _ (126, [some (.ref 598), some (.int (iI x)), some (.int (iI fr)), some (.int (iI v)), some (.int (iI sm)), some (.int (iI X)), some (.int (iI (bS (wF A T) (btB X) b.toNat))), some (.int (iI b))], [.int (iI (popI v)), .int (iI (popI X))], MX L t s4 l4) _
              refine wi_clt hc rfl ⟨by omega, by omega⟩ ⟨by omega, by omega⟩ (fun h5_ => ?_) (fun h5_ => ?_)
              · refine wi_inc (L' := [some (.ref 598), some (.int (iI x)), some (.int (iI fr)), some (.int (iI v)), some (.int (iI sm)), some (.int (iI (X + 1))), some (.int (iI (bS (wF A T) (btB X) b.toNat))), some (.int (iI b))]) hc rfl rfl rfl ?_
                refine wi_go hc rfl ?_
                exact ih (by omega) (by omega) _ _ _ _ s4 l4 (fun c hc9_ => hF4 c (by omega)) (fun c hc9_ => hG4 c (by omega)) hJ4 (MFt_no hmf X1 (by omega))
              · refine wi_i2 hc rfl rfl ?_
                refine wp_cs (As := [.int (iI X)]) (r := []) hc rfl (by rw [cm_150]; rfl) rfl (Nat.le_of_ble_eq_true rfl) (ev_mono (sp_150 (d := 0) ⟨by omega, by omega⟩) (by omega)) ?_
                show mm_wp _ _ (134, [some (.ref 598), some (.int (iI x)), some (.int (iI fr)), some (.int (iI v)), some (.int (iI sm)), some (.int (iI X)), some (.int (iI (bS (wF A T) (btB X) b.toNat))), some (.int (iI b))], [.int (iI (popI X))], MX L t s4 l4) _
                refine wi_i1 hc rfl rfl ?_
                refine wp_cs (As := [.int (iI v)]) (r := [.int (iI (popI X))]) hc rfl (by rw [cm_150]; rfl) rfl (Nat.le_of_ble_eq_true rfl) (ev_mono (sp_150 (d := 0) ⟨by omega, by omega⟩) (by omega)) ?_
                show mm_wp _ _ (138, [some (.ref 598), some (.int (iI x)), some (.int (iI fr)), some (.int (iI v)), some (.int (iI sm)), some (.int (iI X)), some (.int (iI (bS (wF A T) (btB X) b.toNat))), some (.int (iI b))], [.int (iI (popI v)), .int (iI (popI X))], MX L t s4 l4) _
                refine wi_cne hc rfl ⟨by omega, by omega⟩ ⟨by omega, by omega⟩ (fun h6_ => ?_) (fun h6_ => ?_)
                · refine wi_i2 hc rfl rfl ?_
                  refine wi_is1 (L' := [some (.ref 598), some (.int (iI x)), some (.int (iI fr)), some (.int (iI X)), some (.int (iI sm)), some (.int (iI X)), some (.int (iI (bS (wF A T) (btB X) b.toNat))), some (.int (iI b))]) hc rfl (Nat.le_of_ble_eq_true rfl) rfl ?_
                  refine wi_i2 hc rfl rfl ?_
                  refine wi_is2 (L' := [some (.ref 598), some (.int (iI x)), some (.int (iI fr)), some (.int (iI X)), some (.int (iI (bS (wF A T) (btB X) b.toNat))), some (.int (iI X)), some (.int (iI (bS (wF A T) (btB X) b.toNat))), some (.int (iI b))]) hc rfl (Nat.le_of_ble_eq_true rfl) rfl ?_
                  refine wi_inc (L' := [some (.ref 598), some (.int (iI x)), some (.int (iI fr)), some (.int (iI X)), some (.int (iI (bS (wF A T) (btB X) b.toNat))), some (.int (iI (X + 1))), some (.int (iI (bS (wF A T) (btB X) b.toNat))), some (.int (iI b))]) hc rfl rfl rfl ?_
                  refine wi_go hc rfl ?_
                  have hy := MFt_yes hmf X1 (by omega) (by omega)
                  rw [← e9] at hy
                  exact ih (by omega) (by omega) _ _ _ _ s4 l4 (fun c hc9_ => hF4 c (by omega)) (fun c hc9_ => hG4 c (by omega)) hJ4 hy
                · refine wi_i2 hc rfl rfl ?_
                  refine wi_i2 hc rfl rfl ?_
                  refine wi_clt hc rfl ⟨by omega, by omega⟩ ⟨by omega, by omega⟩ (fun h7_ => ?_) (fun h7_ => ?_)
                  · refine wi_i2 hc rfl rfl ?_
                    refine wi_is1 (L' := [some (.ref 598), some (.int (iI x)), some (.int (iI fr)), some (.int (iI X)), some (.int (iI sm)), some (.int (iI X)), some (.int (iI (bS (wF A T) (btB X) b.toNat))), some (.int (iI b))]) hc rfl (Nat.le_of_ble_eq_true rfl) rfl ?_
                    refine wi_i2 hc rfl rfl ?_
                    refine wi_is2 (L' := [some (.ref 598), some (.int (iI x)), some (.int (iI fr)), some (.int (iI X)), some (.int (iI (bS (wF A T) (btB X) b.toNat))), some (.int (iI X)), some (.int (iI (bS (wF A T) (btB X) b.toNat))), some (.int (iI b))]) hc rfl (Nat.le_of_ble_eq_true rfl) rfl ?_
                    refine wi_inc (L' := [some (.ref 598), some (.int (iI x)), some (.int (iI fr)), some (.int (iI X)), some (.int (iI (bS (wF A T) (btB X) b.toNat))), some (.int (iI (X + 1))), some (.int (iI (bS (wF A T) (btB X) b.toNat))), some (.int (iI b))]) hc rfl rfl rfl ?_
                    refine wi_go hc rfl ?_
                    have hy := MFt_yes hmf X1 (by omega) (by omega)
                    rw [← e9] at hy
                    exact ih (by omega) (by omega) _ _ _ _ s4 l4 (fun c hc9_ => hF4 c (by omega)) (fun c hc9_ => hG4 c (by omega)) hJ4 hy
                  · refine wi_go hc rfl ?_
                    refine wi_inc (L' := [some (.ref 598), some (.int (iI x)), some (.int (iI fr)), some (.int (iI v)), some (.int (iI sm)), some (.int (iI (X + 1))), some (.int (iI (bS (wF A T) (btB X) b.toNat))), some (.int (iI b))]) hc rfl rfl rfl ?_
                    refine wi_go hc rfl ?_
                    exact ih (by omega) (by omega) _ _ _ _ s4 l4 (fun c hc9_ => hF4 c (by omega)) (fun c hc9_ => hG4 c (by omega)) hJ4 (MFt_no hmf X1 (by omega))
          · refine wi_i2 hc rfl rfl ?_
            refine wi_i2 hc rfl rfl ?_
            refine wi_i2 hc rfl rfl ?_
            refine wp_cs (As := [.int (iI X), .int (iI b)]) (r := [.int (iI (bS (wF A T) (btB X) b.toNat))]) hc rfl (by rw [cm_149]; rfl) rfl (Nat.le_of_ble_eq_true rfl) (ev_mono (sp_149 (d := 0) (i := b) ⟨by omega, by omega⟩ (by omega) (by omega)) (by omega)) ?_
            show mm_wp _ _ (72, [some (.ref 598), some (.int (iI x)), some (.int (iI fr)), some (.int (iI v)), some (.int (iI sm)), some (.int (iI X)), some (.int (iI (bS (wF A T) (btB X) b.toNat))), some (.int (iI b))], [.int (iI (bI (X / 2 ^ b.toNat % 2 = 1))), .int (iI (bS (wF A T) (btB X) b.toNat))], MX L t s4 l4) _
            refine wi_bne hc rfl (fun h8_ => ?_) (fun h8_ => ?_)
            · have hbw := (hB.2.2.2.2 b (by omega) (by omega)).1
              refine wi_a1 hc rfl rfl ?_
              refine wi_i2 hc rfl rfl ?_
              refine wi_ic hc rfl ?_
              refine wp_cv (b := 598) (As := [.int (iI b), .int (iI 5)]) (r := [.int (iI (bS (wF A T) (btB X) b.toNat))]) hc rfl (by rw [cm_153]; rfl) rfl (Nat.le_of_ble_eq_true rfl) (show 598 < 621 by decide) (by rw [cm_153]; rfl) (ev_mono (sg_153 (d := 0) (hJ4.1) (by omega) (by omega) (by omega) (by omega)) (by omega)) ?_
              show mm_wp _ _ (86, [some (.ref 598), some (.int (iI x)), some (.int (iI fr)), some (.int (iI v)), some (.int (iI sm)), some (.int (iI X)), some (.int (iI (bS (wF A T) (btB X) b.toNat))), some (.int (iI b))], [.int (iI (A (46 + 6 * b + 5))), .int (iI (bS (wF A T) (btB X) b.toNat))], MX L t s4 l4) _
              refine wi_ic hc rfl ?_
              refine wi_cne hc rfl ⟨by omega, by omega⟩ ⟨by decide, by decide⟩ (fun h9_ => ?_) (fun h9_ => ?_)
              · refine wi_ldw (z := 1000000) hc rfl rfl ?_
                refine wi_add hc rfl ?_
                refine wi_is2 (L' := [some (.ref 598), some (.int (iI x)), some (.int (iI fr)), some (.int (iI v)), some (.int (iI sm)), some (.int (iI X)), some (.int (iI ((bS (wF A T) (btB X) b.toNat) + 1000000))), some (.int (iI b))]) hc rfl (Nat.le_of_ble_eq_true rfl) rfl ?_
                refine wi_inc (L' := [some (.ref 598), some (.int (iI x)), some (.int (iI fr)), some (.int (iI v)), some (.int (iI sm)), some (.int (iI X)), some (.int (iI ((bS (wF A T) (btB X) b.toNat) + 1000000))), some (.int (iI (b + 1)))]) hc rfl rfl rfl ?_
                refine wi_go hc rfl ?_
                have e9 : (bS (wF A T) (btB X) b.toNat) + 1000000 = bS (wF A T) (btB X) (b + 1).toNat := by rw [wF_s b0, if_pos (show X / 2 ^ b.toNat % 2 = 1 by omega), if_neg (show ¬ A (46 + 6 * b + 5) = 3 by omega)]
                rw [e9]
                exact ihb (by omega) (by omega) s4 l4 (fun c hc9_ => hF4 c (by omega)) (fun c hc9_ => hG4 c (by omega)) hJ4
              · refine wi_a1 hc rfl rfl ?_
                refine wi_i2 hc rfl rfl ?_
                obtain ⟨s2_, l2_, hE2_, hF2_, hG2_, hJ2_⟩ := sp_207 (d := 0) (L := L) (t := t) (l := l4) hJ4 hK.1 (b := b) (by omega) (by omega)
                refine wp_cv (b := 598) (As := [.int (iI b)]) (r := [.int (iI (bS (wF A T) (btB X) b.toNat))]) hc rfl (by rw [cm_207]; rfl) rfl (Nat.le_of_ble_eq_true rfl) (show 598 < 621 by decide) (by rw [cm_207]; rfl) (ev_mono hE2_ (by omega)) ?_
                show mm_wp _ _ (96, [some (.ref 598), some (.int (iI x)), some (.int (iI fr)), some (.int (iI v)), some (.int (iI sm)), some (.int (iI X)), some (.int (iI (bS (wF A T) (btB X) b.toNat))), some (.int (iI b))], [.int (iI (thickP A T b)), .int (iI (bS (wF A T) (btB X) b.toNat))], MX L t s2_ l2_) _
                refine wi_go hc rfl ?_
                refine wi_add hc rfl ?_
                refine wi_is2 (L' := [some (.ref 598), some (.int (iI x)), some (.int (iI fr)), some (.int (iI v)), some (.int (iI sm)), some (.int (iI X)), some (.int (iI ((bS (wF A T) (btB X) b.toNat) + (thickP A T b)))), some (.int (iI b))]) hc rfl (Nat.le_of_ble_eq_true rfl) rfl ?_
                refine wi_inc (L' := [some (.ref 598), some (.int (iI x)), some (.int (iI fr)), some (.int (iI v)), some (.int (iI sm)), some (.int (iI X)), some (.int (iI ((bS (wF A T) (btB X) b.toNat) + (thickP A T b)))), some (.int (iI (b + 1)))]) hc rfl rfl rfl ?_
                refine wi_go hc rfl ?_
                have e9 : (bS (wF A T) (btB X) b.toNat) + (thickP A T b) = bS (wF A T) (btB X) (b + 1).toNat := by rw [wF_s b0, if_pos (show X / 2 ^ b.toNat % 2 = 1 by omega), if_pos (show A (46 + 6 * b + 5) = 3 by omega)]
                rw [e9]
                exact ihb (by omega) (by omega) s2_ l2_ (fun c hc9_ => (hF2_ c (by omega)).trans (hF4 c (by omega))) (fun c hc9_ => (hG2_ c (by omega)).trans (hG4 c (by omega))) hJ2_
            · refine wi_ic hc rfl ?_
              refine wi_go hc rfl ?_
              refine wi_add hc rfl ?_
              refine wi_is2 (L' := [some (.ref 598), some (.int (iI x)), some (.int (iI fr)), some (.int (iI v)), some (.int (iI sm)), some (.int (iI X)), some (.int (iI ((bS (wF A T) (btB X) b.toNat) + 0))), some (.int (iI b))]) hc rfl (Nat.le_of_ble_eq_true rfl) rfl ?_
              refine wi_inc (L' := [some (.ref 598), some (.int (iI x)), some (.int (iI fr)), some (.int (iI v)), some (.int (iI sm)), some (.int (iI X)), some (.int (iI ((bS (wF A T) (btB X) b.toNat) + 0))), some (.int (iI (b + 1)))]) hc rfl rfl rfl ?_
              refine wi_go hc rfl ?_
              have e9 : (bS (wF A T) (btB X) b.toNat) + 0 = bS (wF A T) (btB X) (b + 1).toNat := by rw [wF_s b0, if_neg (show ¬ X / 2 ^ b.toNat % 2 = 1 by omega)]
              rw [e9]
              exact ihb (by omega) (by omega) s4 l4 (fun c hc9_ => hF4 c (by omega)) (fun c hc9_ => hG4 c (by omega)) hJ4
        exact loop52_ 0 (by omega) (by omega) s3 l3 hF3 hG3 hJ3
    exact loop33_ 1 (by omega) (by omega) _ _ _ _ s1_ l1_ (fun c hc9_ => hF1_ c (by omega)) (fun c hc9_ => hG1_ c (by omega)) hJ1_ (MFt_0 _ _ _)
  · refine wi_ic hc rfl ?_
    refine wi_ri hc rfl (by rw [cm_284]; rfl) ?_
    have hR : fitsP A T x = -1 := by unfold fitsP; rw [if_neg (by omega)]
    rw [hR]
    exact ⟨s, l, rfl, fun c _ => rfl, fun c _ => rfl, hJ⟩
