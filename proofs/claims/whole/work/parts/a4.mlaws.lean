/-! The model's LAWS and TELLS. -/
theorem sp_280 {d L t : Nat} {s l : Nat → Int → Int} {A T : Int → Int} (hJ : JM s A T) (hK : KA A T) {la b : Int} (hla : 0 ≤ la ∧ la < 6) (hb : 0 ≤ b ∧ b < A 0) : ∃ s1 l1, mm_Ev mm_ct mm_CM (d + 5) 280 [.ref 598, .int (iI la), .int (iI b)] (MX L t s l) (some (.int (iI (ftN A T b la (A 8).toNat))), MX L t s1 l1) ∧ (∀ c, c ≠ 604 ∧ c ≠ 606 → s1 c = s c) ∧ (∀ c, c ≠ 605 → l1 c = l c) ∧ JM s1 A T := by
  have hc : (mm_CM 280).2.2.2.2.2.2.2 = mm_cf cd_280 := by rw [cm_280]; rfl
  refine ev_xsl ?_
  refine ev_to (mx := 5) (by rw [cm_280]; decide) (by rw [cm_280]; rfl) (by show 3 ≤ _; decide) ?_
  show mm_wp _ _ (0, [some (.ref 598), some (.int (iI la)), some (.int (iI b)), none, none], [], MX L t s l) (fun res => ∃ s1 l1, res = (some (.int (iI (ftN A T b la (A 8).toNat))), MX L t s1 l1) ∧ (∀ c, c ≠ 604 ∧ c ≠ 606 → s1 c = s c) ∧ (∀ c, c ≠ 605 → l1 c = l c) ∧ JM s1 A T)
  have hV := hK.1
  have hB := hK.2.1
  have g0 := hB.1
  have h8 := hK.2.2.1.2.2.2.1
  refine wi_ic hc rfl ?_
  refine wi_is1 (L' := [some (.ref 598), some (.int (iI la)), some (.int (iI b)), some (.int (iI 0)), none]) hc rfl (Nat.le_of_ble_eq_true rfl) rfl ?_
  have loop2_ : ∀ i : Int, i ≤ A 8 → 0 ≤ i → ∀ (o4 : Option Value) (s3 : Nat → Int → Int) (l3 : Nat → Int → Int), (∀ c, c ≠ 604 ∧ c ≠ 606 → s3 c = s c) → (∀ c, c ≠ 605 → l3 c = l c) → JM s3 A T → ftN A T b la i.toNat = 1 → mm_wp (mm_Ev mm_ct mm_CM (d + 4)) 280 (2, [some (.ref 598), some (.int (iI la)), some (.int (iI b)), some (.int (iI i)), o4], [], MX L t s3 l3) (fun res => ∃ s1 l1, res = (some (.int (iI (ftN A T b la (A 8).toNat))), MX L t s1 l1) ∧ (∀ c, c ≠ 604 ∧ c ≠ 606 → s1 c = s c) ∧ (∀ c, c ≠ 605 → l1 c = l c) ∧ JM s1 A T) := by
    refine up_ind ?_
    intro i hi9 ih i0 o4 s3 l3 hF3 hG3 hJ3 hft
    refine wi_i1 hc rfl rfl ?_
    refine wi_a1 hc rfl rfl ?_
    refine wi_gr (w := 599) hc rfl rfl (by decide) (Nat.le_of_ble_eq_true rfl) rfl ?_
    refine wi_bi hc rfl rfl ?_
    refine wi_ildv (N := 3642) hc rfl rfl (by decide) (by decide) (by omega) (by omega) (v := A 8) (congrFun (hJ3.1) _) ?_
    refine wi_cge hc rfl ⟨by omega, by omega⟩ ⟨by omega, by omega⟩ (fun h1_ => ?_) (fun h1_ => ?_)
    · refine wi_ic hc rfl ?_
      refine wi_r1 hc rfl (by rw [cm_280]; rfl) ?_
      have hR : ftN A T b la (A 8).toNat = 1 := by rw [show A 8 = i by omega]; exact hft
      rw [hR]
      exact ⟨s3, l3, rfl, fun c hc9_ => hF3 c (by omega), fun c hc9_ => hG3 c (by omega), hJ3⟩
    · refine wi_bi hc rfl rfl ?_
      refine wi_ic hc rfl ?_
      refine wi_i1 hc rfl rfl ?_
      refine wi_mul hc rfl ?_
      refine wi_add hc rfl ?_
      refine wi_is2 (L' := [some (.ref 598), some (.int (iI la)), some (.int (iI b)), some (.int (iI i)), some (.int (iI (106 + (4 * i))))]) hc rfl (Nat.le_of_ble_eq_true rfl) rfl ?_
      have hdu := hK.2.2.1.2.2.2.2.2 i i0 (by omega)
      refine wi_a1 hc rfl rfl ?_
      refine wi_gr (w := 599) hc rfl rfl (by decide) (Nat.le_of_ble_eq_true rfl) rfl ?_
      refine wi_i2 hc rfl rfl ?_
      refine wi_ildv (N := 3642) hc rfl rfl (by decide) (by decide) (by omega) (by omega) (v := A (106 + (4 * i))) (congrFun (hJ3.1) _) ?_
      refine wi_i1 hc rfl rfl ?_
      refine wi_cne hc rfl ⟨by omega, by omega⟩ ⟨by omega, by omega⟩ (fun h2_ => ?_) (fun h2_ => ?_)
      · refine wi_inc (L' := [some (.ref 598), some (.int (iI la)), some (.int (iI b)), some (.int (iI (i + 1))), some (.int (iI (106 + (4 * i))))]) hc rfl rfl rfl ?_
        refine wi_go hc rfl ?_
        have e9 : ftN A T b la (i + 1).toNat = 1 := by rw [ftN_s i0, if_neg (by omega)]; exact hft
        exact ih (by omega) (by omega) _ s3 l3 (hF3) (hG3) hJ3 e9
      · refine wi_a1 hc rfl rfl ?_
        refine wi_i1 hc rfl rfl ?_
        refine wi_i1 hc rfl rfl ?_
        refine wi_a1 hc rfl rfl ?_
        refine wi_gr (w := 599) hc rfl rfl (by decide) (Nat.le_of_ble_eq_true rfl) rfl ?_
        refine wi_i2 hc rfl rfl ?_
        refine wi_ic hc rfl ?_
        refine wi_add hc rfl ?_
        refine wi_ildv (N := 3642) hc rfl rfl (by decide) (by decide) (by omega) (by omega) (v := A ((106 + (4 * i)) + 1)) (congrFun (hJ3.1) _) ?_
        rw [show 106 + 4 * i + 1 = 107 + 4 * i by omega]
        refine wi_a1 hc rfl rfl ?_
        refine wi_gr (w := 599) hc rfl rfl (by decide) (Nat.le_of_ble_eq_true rfl) rfl ?_
        refine wi_i2 hc rfl rfl ?_
        refine wi_ic hc rfl ?_
        refine wi_add hc rfl ?_
        refine wi_ildv (N := 3642) hc rfl rfl (by decide) (by decide) (by omega) (by omega) (v := A ((106 + (4 * i)) + 2)) (congrFun (hJ3.1) _) ?_
        rw [show 106 + 4 * i + 2 = 108 + 4 * i by omega]
        have join62_ : ∀ v9 : Int, v9 = A (108 + 4 * i) → mm_wp (mm_Ev mm_ct mm_CM (d + 4)) 280 (62, [some (.ref 598), some (.int (iI la)), some (.int (iI b)), some (.int (iI i)), some (.int (iI (106 + (4 * i))))], [.int (iI v9), .int (iI (A (107 + 4 * i))), .int (iI b), .int (iI la), .ref 598], MX L t s3 l3) (fun res => ∃ s1 l1, res = (some (.int (iI (ftN A T b la (A 8).toNat))), MX L t s1 l1) ∧ (∀ c, c ≠ 604 ∧ c ≠ 606 → s1 c = s c) ∧ (∀ c, c ≠ 605 → l1 c = l c) ∧ JM s1 A T) := by
          intro v9 hv9
          rw [hv9]
          obtain ⟨s1_, l1_, hE1_, hF1_, hG1_, hJ1_⟩ := sp_209 (d := 0) (L := L) (t := t) (l := l3) hJ3 hK.1 (la := la) (b := b) (o := A (107 + 4 * i)) (right := A (108 + 4 * i)) ⟨by omega, by omega⟩ (by omega) (by omega) (by omega) (by omega) (by omega)
          refine wp_cv (b := 598) (As := [.int (iI la), .int (iI b), .int (iI (A (107 + 4 * i))), .int (iI (A (108 + 4 * i)))]) (r := []) hc rfl (by rw [cm_209]; rfl) rfl (Nat.le_of_ble_eq_true rfl) (show 598 < 621 by decide) (by rw [cm_209]; rfl) (ev_mono hE1_ (by omega)) ?_
          show mm_wp _ _ (65, [some (.ref 598), some (.int (iI la)), some (.int (iI b)), some (.int (iI i)), some (.int (iI (106 + (4 * i))))], [.int (iI (pushP A T la b (A (107 + 4 * i)) (A (108 + 4 * i))))], MX L t s1_ l1_) _
          have hp9 := pushP_01 hV (la := la) (b := b) (o := A (107 + 4 * i)) (right := A (108 + 4 * i)) (by omega) (by omega) (by omega) (by omega) hdu.2.2.2.1
          refine wi_a1 hc rfl rfl ?_
          refine wi_gr (w := 599) hc rfl rfl (by decide) (Nat.le_of_ble_eq_true rfl) rfl ?_
          refine wi_i2 hc rfl rfl ?_
          refine wi_ic hc rfl ?_
          refine wi_add hc rfl ?_
          refine wi_ildv (N := 3642) hc rfl rfl (by decide) (by decide) (by omega) (by omega) (v := A ((106 + (4 * i)) + 3)) (congrFun (hJ1_.1) _) ?_
          rw [show 106 + 4 * i + 3 = 109 + 4 * i by omega]
          have join83_ : ∀ v8 : Int, v8 = A (109 + 4 * i) → mm_wp (mm_Ev mm_ct mm_CM (d + 4)) 280 (83, [some (.ref 598), some (.int (iI la)), some (.int (iI b)), some (.int (iI i)), some (.int (iI (106 + (4 * i))))], [.int (iI v8), .int (iI (pushP A T la b (A (107 + 4 * i)) (A (108 + 4 * i))))], MX L t s1_ l1_) (fun res => ∃ s1 l1, res = (some (.int (iI (ftN A T b la (A 8).toNat))), MX L t s1 l1) ∧ (∀ c, c ≠ 604 ∧ c ≠ 606 → s1 c = s c) ∧ (∀ c, c ≠ 605 → l1 c = l c) ∧ JM s1 A T) := by
            intro v8 hv8
            refine wi_ceq hc rfl ⟨by omega, by omega⟩ ⟨by omega, by omega⟩ (fun h3_ => ?_) (fun h3_ => ?_)
            · refine wi_inc (L' := [some (.ref 598), some (.int (iI la)), some (.int (iI b)), some (.int (iI (i + 1))), some (.int (iI (106 + (4 * i))))]) hc rfl rfl rfl ?_
              refine wi_go hc rfl ?_
              have e9 : ftN A T b la (i + 1).toNat = 1 := by rw [ftN_s i0, if_neg (by omega)]; exact hft
              exact ih (by omega) (by omega) _ s1_ l1_ (fun c hc9_ => (hF1_ c (by omega)).trans (hF3 c (by omega))) (fun c hc9_ => (hG1_ c (by omega)).trans (hG3 c (by omega))) hJ1_ e9
            · refine wi_ic hc rfl ?_
              refine wi_r0 hc rfl (by rw [cm_280]; rfl) ?_
              have hR : ftN A T b la (A 8).toNat = 0 := ftN_0 i0 (by omega) _ (by omega)
              rw [hR]
              exact ⟨s1_, l1_, rfl, fun c hc9_ => (hF1_ c (by omega)).trans (hF3 c (by omega)), fun c hc9_ => (hG1_ c (by omega)).trans (hG3 c (by omega)), hJ1_⟩
          refine wi_ic hc rfl ?_
          refine wi_cne hc rfl ⟨by omega, by omega⟩ ⟨by decide, by decide⟩ (fun h4_ => ?_) (fun h4_ => ?_)
          · refine wi_ic hc rfl ?_
            exact join83_ _ (by omega)
          · refine wi_ic hc rfl ?_
            refine wi_go hc rfl ?_
            exact join83_ _ (by omega)
        refine wi_ic hc rfl ?_
        refine wi_cne hc rfl ⟨by omega, by omega⟩ ⟨by decide, by decide⟩ (fun h5_ => ?_) (fun h5_ => ?_)
        · refine wi_ic hc rfl ?_
          exact join62_ _ (by omega)
        · refine wi_ic hc rfl ?_
          refine wi_go hc rfl ?_
          exact join62_ _ (by omega)
  exact loop2_ 0 (by omega) (by omega) _ s l (fun c _ => rfl) (fun c _ => rfl) hJ rfl
theorem sp_281 {d L t : Nat} {s l : Nat → Int → Int} {A T : Int → Int} (hJ : JM s A T) (hK : KA A T) {b : Int} (hb : 0 ≤ b ∧ b < A 0) : ∃ s1 l1, mm_Ev mm_ct mm_CM (d + 7) 281 [.ref 598, .int (iI b)] (MX L t s l) (some (.int (iI (lawS A T b (A 8).toNat))), MX L t s1 l1) ∧ (∀ c, c ≠ 604 ∧ c ≠ 606 → s1 c = s c) ∧ (∀ c, c ≠ 605 → l1 c = l c) ∧ JM s1 A T := by
  have hc : (mm_CM 281).2.2.2.2.2.2.2 = mm_cf cd_281 := by rw [cm_281]; rfl
  refine ev_xsl ?_
  refine ev_to (mx := 4) (by rw [cm_281]; decide) (by rw [cm_281]; rfl) (by show 2 ≤ _; decide) ?_
  show mm_wp _ _ (0, [some (.ref 598), some (.int (iI b)), none, none], [], MX L t s l) (fun res => ∃ s1 l1, res = (some (.int (iI (lawS A T b (A 8).toNat))), MX L t s1 l1) ∧ (∀ c, c ≠ 604 ∧ c ≠ 606 → s1 c = s c) ∧ (∀ c, c ≠ 605 → l1 c = l c) ∧ JM s1 A T)
  have hV := hK.1
  have hB := hK.2.1
  have g0 := hB.1
  have h8 := hK.2.2.1.2.2.2.1
  refine wi_ic hc rfl ?_
  refine wi_is1 (L' := [some (.ref 598), some (.int (iI b)), some (.int (iI 0)), none]) hc rfl (Nat.le_of_ble_eq_true rfl) rfl ?_
  refine wi_ic hc rfl ?_
  refine wi_is1 (L' := [some (.ref 598), some (.int (iI b)), some (.int (iI 0)), some (.int (iI 0))]) hc rfl (Nat.le_of_ble_eq_true rfl) rfl ?_
  have loop4_ : ∀ la : Int, la ≤ 6 → 0 ≤ la → ∀ (s3 : Nat → Int → Int) (l3 : Nat → Int → Int), (∀ c, c ≠ 604 ∧ c ≠ 606 → s3 c = s c) → (∀ c, c ≠ 605 → l3 c = l c) → JM s3 A T → mm_wp (mm_Ev mm_ct mm_CM (d + 6)) 281 (4, [some (.ref 598), some (.int (iI b)), some (.int (iI (lwB (fun la => ftN A T b la (A 8).toNat) la.toNat))), some (.int (iI la))], [], MX L t s3 l3) (fun res => ∃ s1 l1, res = (some (.int (iI (lawS A T b (A 8).toNat))), MX L t s1 l1) ∧ (∀ c, c ≠ 604 ∧ c ≠ 606 → s1 c = s c) ∧ (∀ c, c ≠ 605 → l1 c = l c) ∧ JM s1 A T) := by
    refine up_ind ?_
    intro la hla9 ih la0 s3 l3 hF3 hG3 hJ3
    have hnn := lwB_nn (fun la => ftN A T b la (A 8).toNat) la.toNat
    have hpp := pw_pos la
    refine wi_i1 hc rfl rfl ?_
    refine wi_bi hc rfl rfl ?_
    refine wi_cge hc rfl ⟨by omega, by omega⟩ ⟨by decide, by decide⟩ (fun h1_ => ?_) (fun h1_ => ?_)
    · refine wi_i1 hc rfl rfl ?_
      refine wi_ri hc rfl (by rw [cm_281]; rfl) ?_
      have hR : lawS A T b (A 8).toNat = lwB (fun la => ftN A T b la (A 8).toNat) la.toNat := by rw [show la = 6 by omega]; rfl
      rw [hR]
      exact ⟨s3, l3, rfl, fun c hc9_ => hF3 c (by omega), fun c hc9_ => hG3 c (by omega), hJ3⟩
    · refine wi_i1 hc rfl rfl ?_
      refine wi_a1 hc rfl rfl ?_
      refine wi_i1 hc rfl rfl ?_
      refine wi_i1 hc rfl rfl ?_
      obtain ⟨s1_, l1_, hE1_, hF1_, hG1_, hJ1_⟩ := sp_280 (d := 0) (L := L) (t := t) (l := l3) hJ3 hK (la := la) (b := b) (by omega) hb
      refine wp_cv (b := 598) (As := [.int (iI la), .int (iI b)]) (r := [.int (iI (lwB (fun la => ftN A T b la (A 8).toNat) la.toNat))]) hc rfl (by rw [cm_280]; rfl) rfl (Nat.le_of_ble_eq_true rfl) (show 598 < 621 by decide) (by rw [cm_280]; rfl) (ev_mono hE1_ (by omega)) ?_
      have hfr := ftN_01 A T b la (A 8).toNat
      show mm_wp _ _ (17, [some (.ref 598), some (.int (iI b)), some (.int (iI (lwB (fun la => ftN A T b la (A 8).toNat) la.toNat))), some (.int (iI la))], [.int (iI (ftN A T b la (A 8).toNat)), .int (iI (lwB (fun la => ftN A T b la (A 8).toNat) la.toNat))], MX L t s1_ l1_) _
      refine wi_zeq hc rfl ⟨by omega, by omega⟩ (fun h2_ => ?_) (fun h2_ => ?_)
      · refine wi_ic hc rfl ?_
        refine wi_or hc rfl (by omega) (by omega) ?_
        rw [or_0 (x := lwB (fun la => ftN A T b la (A 8).toNat) la.toNat) (by omega)]
        refine wi_is1 (L' := [some (.ref 598), some (.int (iI b)), some (.int (iI (lwB (fun la => ftN A T b la (A 8).toNat) la.toNat))), some (.int (iI la))]) hc rfl (Nat.le_of_ble_eq_true rfl) rfl ?_
        refine wi_inc (L' := [some (.ref 598), some (.int (iI b)), some (.int (iI (lwB (fun la => ftN A T b la (A 8).toNat) la.toNat))), some (.int (iI (la + 1)))]) hc rfl rfl rfl ?_
        refine wi_go hc rfl ?_
        have e9 : lwB (fun la => ftN A T b la (A 8).toNat) la.toNat = lwB (fun la => ftN A T b la (A 8).toNat) (la + 1).toNat := by rw [lwB_s la0]; exact (if_neg (show ¬ ftN A T b la (A 8).toNat = 1 by omega)).symm
        rw [e9]
        exact ih (by omega) (by omega) s1_ l1_ (fun c hc9_ => (hF1_ c (by omega)).trans (hF3 c (by omega))) (fun c hc9_ => (hG1_ c (by omega)).trans (hG3 c (by omega))) hJ1_
      · refine wi_ic hc rfl ?_
        refine wi_i1 hc rfl rfl ?_
        refine wi_shl (2 ^ la.toNat) rfl hc rfl (by omega) (by omega) ?_
        refine wi_go hc rfl ?_
        refine wi_or hc rfl (by omega) (by omega) ?_
        refine wi_is1 (L' := [some (.ref 598), some (.int (iI b)), some (.int (iI (orI (lwB (fun la => ftN A T b la (A 8).toNat) la.toNat) (1 * (2 ^ la.toNat))))), some (.int (iI la))]) hc rfl (Nat.le_of_ble_eq_true rfl) rfl ?_
        refine wi_inc (L' := [some (.ref 598), some (.int (iI b)), some (.int (iI (orI (lwB (fun la => ftN A T b la (A 8).toNat) la.toNat) (1 * (2 ^ la.toNat))))), some (.int (iI (la + 1)))]) hc rfl rfl rfl ?_
        refine wi_go hc rfl ?_
        have e9 : orI (lwB (fun la => ftN A T b la (A 8).toNat) la.toNat) (1 * (2 ^ la.toNat)) = lwB (fun la => ftN A T b la (A 8).toNat) (la + 1).toNat := by rw [lwB_s la0]; exact (if_pos (show  ftN A T b la (A 8).toNat = 1 by omega)).symm
        rw [e9]
        exact ih (by omega) (by omega) s1_ l1_ (fun c hc9_ => (hF1_ c (by omega)).trans (hF3 c (by omega))) (fun c hc9_ => (hG1_ c (by omega)).trans (hG3 c (by omega))) hJ1_
  exact loop4_ 0 (by omega) (by omega) s l (fun c _ => rfl) (fun c _ => rfl) hJ
theorem sp_282 {d L t : Nat} {s l : Nat → Int → Int} {A T : Int → Int} (hJ : JM s A T) (hK : KA A T) {b : Int} (hb : rI b) : ∃ s1 l1, mm_Ev mm_ct mm_CM (d + 8) 282 [.ref 598, .int (iI b)] (MX L t s l) (some (.int (iI (lawsP A T b))), MX L t s1 l1) ∧ (∀ c, c ≠ 604 ∧ c ≠ 606 → s1 c = s c) ∧ (∀ c, c ≠ 605 → l1 c = l c) ∧ JM s1 A T := by
  have hc : (mm_CM 282).2.2.2.2.2.2.2 = mm_cf cd_282 := by rw [cm_282]; rfl
  refine ev_xsl ?_
  refine ev_to (mx := 2) (by rw [cm_282]; decide) (by rw [cm_282]; rfl) (by show 2 ≤ _; decide) ?_
  show mm_wp _ _ (0, [some (.ref 598), some (.int (iI b))], [], MX L t s l) (fun res => ∃ s1 l1, res = (some (.int (iI (lawsP A T b))), MX L t s1 l1) ∧ (∀ c, c ≠ 604 ∧ c ≠ 606 → s1 c = s c) ∧ (∀ c, c ≠ 605 → l1 c = l c) ∧ JM s1 A T)
  have hV := hK.1
  have hB := hK.2.1
  have g0 := hB.1
  have h8 := hK.2.2.1.2.2.2.1
  refine wi_a1 hc rfl rfl ?_
  refine wi_i1 hc rfl rfl ?_
  refine wp_cv (b := 598) (As := [.int (iI b)]) (r := []) hc rfl (by rw [cm_151]; rfl) rfl (Nat.le_of_ble_eq_true rfl) (show 598 < 621 by decide) (by rw [cm_151]; rfl) (ev_mono (sg_151 (d := 0) (hJ.1) hb (by omega) (by omega)) (by omega)) ?_
  show mm_wp _ _ (5, [some (.ref 598), some (.int (iI b))], [.int (iI (bI (0 ≤ b ∧ b < A 0)))], MX L t s l) _
  refine wi_beq hc rfl (fun h1_ => ?_) (fun h1_ => ?_)
  · refine wi_ic hc rfl ?_
    refine wi_ri hc rfl (by rw [cm_282]; rfl) ?_
    have hR : lawsP A T b = (-1) := by unfold lawsP; exact if_neg (by omega)
    rw [hR]
    exact ⟨s, l, rfl, fun c _ => rfl, fun c _ => rfl, hJ⟩
  · refine wi_a1 hc rfl rfl ?_
    refine wi_i1 hc rfl rfl ?_
    obtain ⟨s1_, l1_, hE1_, hF1_, hG1_, hJ1_⟩ := sp_281 (d := 0) (L := L) (t := t) (l := l) hJ hK (b := b) (by omega)
    refine wp_cv (b := 598) (As := [.int (iI b)]) (r := []) hc rfl (by rw [cm_281]; rfl) rfl (Nat.le_of_ble_eq_true rfl) (show 598 < 621 by decide) (by rw [cm_281]; rfl) (ev_mono hE1_ (by omega)) ?_
    have hls := lawS_64 A T b (A 8).toNat
    show mm_wp _ _ (13, [some (.ref 598), some (.int (iI b))], [.int (iI (lawS A T b (A 8).toNat))], MX L t s1_ l1_) _
    refine wi_go hc rfl ?_
    refine wi_ri hc rfl (by rw [cm_282]; rfl) ?_
    have hR : lawsP A T b = lawS A T b (A 8).toNat := by unfold lawsP; exact if_pos (by omega)
    rw [hR]
    exact ⟨s1_, l1_, rfl, fun c hc9_ => hF1_ c (by omega), fun c hc9_ => hG1_ c (by omega), hJ1_⟩
def TLm (p : Int × Int) (v : Int) : Prop := (p.1 = -1 ∧ v = 1000000) ∨ (0 ≤ p.1 ∧ v = p.2)
theorem TLm_lt {A T : Int → Int} {b f : Int} (h0 : 0 ≤ f) (h1 : f < 64) {k : Nat} {v x : Int} (h : TLm (tlN A T b f k) v) (x6 : x ≤ 6) : (x < (tlN A T b f k).2 ↔ x < v) ∧ rI v := by
  have r := tlN_r (A := A) (T := T) (b := b) h0 h1 k
  unfold TLm at h
  refine ⟨?_, rI_of ?_ ?_⟩ <;> omega
