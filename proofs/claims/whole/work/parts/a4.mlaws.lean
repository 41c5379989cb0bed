/-! The model's LAWS and TELLS. -/
theorem sp_280 {d L t : Nat} {s l : Nat → Int → Int} {A T : Int → Int} (hJ : JM s A T) (hK : KA A T) {la b : Int} (hla : 0 ≤ la ∧ la < 6) (hb : 0 ≤ b ∧ b < A 0) : ∃ s1 l1, mm_Ev mm_ct mm_CM (d + 5) 280 [.ref 598, .int (iI la), .int (iI b)] (MX L t s l) (some (.int (iI (ftN A T b la (A 8).toNat))), MX L t s1 l1) ∧ (∀ c, c ≠ 604 ∧ c ≠ 606 → s1 c = s c) ∧ (∀ c, c ≠ 605 → l1 c = l c) ∧ JM s1 A T := by
  have hc : (mm_CM 280).2.2.2.2.2.2.2 = mm_cf cd_280 := by rw [cm_280]; rfl
  refine ev_xsl ?_
  refine ev_to (mx := 5) (by rw [cm_280]; decide) (by rw [cm_280]; rfl) (by show 3 ≤ _; decide) ?_
  show mm_wp _ _ (0, [some (.ref 598), some (.int (iI la)), some (.int (iI b)), none, none], [], MX L t s l) (fun res => ∃ s1 l1, res = (some (.int (iI (ftN A T b la (A 8).toNat))), MX L t s1 l1) ∧ (∀ c, c ≠ 604 ∧ c ≠ 606 → s1 c = s c) ∧ (∀ c, c ≠ 605 → l1 c = l c) ∧ JM s1 A T)
  have hV := hK.1
  have hB := hK.2.1
  have g0 := hB.1
  have h8 := hK.2.2.1.2.2.2.1
  refine wi_ic hc rfl ?_
  refine wi_is1 (L' := [some (.ref 598), some (.int (iI la)), some (.int (iI b)), some (.int (iI 0)), none]) hc rfl (Nat.le_of_ble_eq_true rfl) rfl ?_
  have loop2_ : ∀ i : Int, i ≤ A 8 → 0 ≤ i → ∀ (o4 : Option Value) (s3 : Nat → Int → Int) (l3 : Nat → Int → Int), (∀ c, c ≠ 604 ∧ c ≠ 606 → s3 c = s c) → (∀ c, c ≠ 605 → l3 c = l c) → JM s3 A T → ftN A T b la i.toNat = 1 → mm_wp (mm_Ev mm_ct mm_CM (d + 4)) 280 (2, [some (.ref 598), some (.int (iI la)), some (.int (iI b)), some (.int (iI i)), o4], [], MX L t s3 l3) (fun res => ∃ s1 l1, res = (some (.int (iI (ftN A T b la (A 8).toNat))), MX L t s1 l1) ∧ (∀ c, c ≠ 604 ∧ c ≠ 606 → s1 c = s c) ∧ (∀ c, c ≠ 605 → l1 c = l c) ∧ JM s1 A T) := by
    refine up_ind ?_
    intro i hi9 ih i0 o4 s3 l3 hF3 hG3 hJ3 hft
    refine wi_i1 hc rfl rfl ?_
    refine wi_a1 hc rfl rfl ?_
    refine wi_gr (w := 599) hc rfl rfl (by decide) (Nat.le_of_ble_eq_true rfl) rfl ?_
    refine wi_bi hc rfl rfl ?_
    refine wi_ildv (N := 3642) hc rfl rfl (by decide) (by decide) (by omega) (by omega) (v := A 8) (congrFun (hJ3.1) _) ?_
    refine wi_cge hc rfl ⟨by omega, by omega⟩ ⟨by omega, by omega⟩ (fun h1_ => ?_) (fun h1_ => ?_)
    · refine wi_ic hc rfl ?_
      refine wi_r1 hc rfl (by rw [cm_280]; rfl) ?_
      have hR : ftN A T b la (A 8).toNat = 1 := by rw [show A 8 = i by omega]; exact hft
      rw [hR]
      exact ⟨s3, l3, rfl, fun c hc9_ => hF3 c (by omega), fun c hc9_ => hG3 c (by omega), hJ3⟩
    · refine wi_bi hc rfl rfl ?_
      refine wi_ic hc rfl ?_
      refine wi_i1 hc rfl rfl ?_
      refine wi_mul hc rfl ?_
      refine wi_add hc rfl ?_
      refine wi_is2 (L' := [some (.ref 598), some (.int (iI la)), some (.int (iI b)), some (.int (iI i)), some (.int (iI (106 + (4 * i))))]) hc rfl (Nat.le_of_ble_eq_true rfl) rfl ?_
      have hdu := hK.2.2.1.2.2.2.2.2 i i0 (by omega)
      refine wi_a1 hc rfl rfl ?_
      refine wi_gr (w := 599) hc rfl rfl (by decide) (Nat.le_of_ble_eq_true rfl) rfl ?_
      refine wi_i2 hc rfl rfl ?_
      refine wi_ildv (N := 3642) hc rfl rfl (by decide) (by decide) (by omega) (by omega) (v := A (106 + (4 * i))) (congrFun (hJ3.1) _) ?_
      refine wi_i1 hc rfl rfl ?_
      refine wi_cne hc rfl ⟨by omega, by omega⟩ ⟨by omega, by omega⟩ (fun h2_ => ?_) (fun h2_ => ?_)
      · refine wi_inc (L' := [some (.ref 598), some (.int (iI la)), some (.int (iI b)), some (.int (iI (i + 1))), some (.int (iI (106 + (4 * i))))]) hc rfl rfl rfl ?_
        refine wi_go hc rfl ?_
        have e9 : ftN A T b la (i + 1).toNat = 1 := by rw [ftN_s i0, if_neg (by omega)]; exact hft
        exact ih (by omega) (by omega) _ s3 l3 (hF3) (hG3) hJ3 e9
      · refine wi_a1 hc rfl rfl ?_
        refine wi_i1 hc rfl rfl ?_
        refine wi_i1 hc rfl rfl ?_
        refine wi_a1 hc rfl rfl ?_
        refine wi_gr (w := 599) hc rfl rfl (by decide) (Nat.le_of_ble_eq_true rfl) rfl ?_
        refine wi_i2 hc rfl rfl ?_
        refine wi_ic hc rfl ?_
        refine wi_add hc rfl ?_
        refine wi_ildv (N := 3642) hc rfl rfl (by decide) (by decide) (by omega) (by omega) (v := A ((106 + (4 * i)) + 1)) (congrFun (hJ3.1) _) ?_
        rw [show 106 + 4 * i + 1 = 107 + 4 * i by omega]
        refine wi_a1 hc rfl rfl ?_
        refine wi_gr (w := 599) hc rfl rfl (by decide) (Nat.le_of_ble_eq_true rfl) rfl ?_
        refine wi_i2 hc rfl rfl ?_
        refine wi_ic hc rfl ?_
        refine wi_add hc rfl ?_
        refine wi_ildv (N := 3642) hc rfl rfl (by decide) (by decide) (by omega) (by omega) (v := A ((106 + (4 * i)) + 2)) (congrFun (hJ3.1) _) ?_
        rw [show 106 + 4 * i + 2 = 108 + 4 * i by omega]
        have join62_ : ∀ v9 : Int, v9 = A (108 + 4 * i) → mm_wp (mm_Ev mm_ct mm_CM (d + 4)) 280 (62, [some (.ref 598), some (.int (iI la)), some (.int (iI b)), some (.int (iI i)), some (.int (iI (106 + (4 * i))))], [.int (iI v9), .int (iI (A (107 + 4 * i))), .int (iI b), .int (iI la), .ref 598], MX L t s3 l3) (fun res => ∃ s1 l1, res = (some (.int (iI (ftN A T b la (A 8).toNat))), MX L t s1 l1) ∧ (∀ c, c ≠ 604 ∧ c ≠ 606 → s1 c = s c) ∧ (∀ c, c ≠ 605 → l1 c = l c) ∧ JM s1 A T) := by
          intro v9 hv9
          rw [hv9]
          obtain ⟨s1_, l1_, hE1_, hF1_, hG1_, hJ1_⟩ := sp_209 (d := 0) (L := L) (t := t) (l := l3) hJ3 hK.1 (la := la) (b := b) (o := A (107 + 4 * i)) (right := A (108 + 4 * i)) ⟨by omega, by omega⟩ (by omega) (by omega) (by omega) (by omega) (by omega)
          refine wp_cv (b := 598) (As := [.int (iI la), .int (iI b), .int (iI (A (107 + 4 * i))), .int (iI (A (108 + 4 * i)))]) (r := []) hc rfl (by rw [cm_209]; rfl) rfl (Nat.le_of_ble_eq_true rfl) (show 598 < 621 by decide) (by rw [cm_209]; rfl) (ev_mono hE1_ (by omega)) ?_
          show mm_wp _ _ (65, [some (.ref 598), some (.int (iI la)), some (.int (iI b)), some (.int (iI i)), some (.int (iI (106 + (4 * i))))], [.int (iI (pushP A T la b (A (107 + 4 * i)) (A (108 + 4 * i))))], MX L t s1_ l1_) _
          have hp9 := pushP_01 hV (la := la) (b := b) (o := A (107 + 4 * i)) (right := A (108 + 4 * i)) (by omega) (by omega) (by omega) (by omega) hdu.2.2.2.1
          refine wi_a1 hc rfl rfl ?_
          refine wi_gr (w := 599) hc rfl rfl (by decide) (Nat.le_of_ble_eq_true rfl) rfl ?_
          refine wi_i2 hc rfl rfl ?_
          refine wi_ic hc rfl ?_
          refine wi_add hc rfl ?_
          refine wi_ildv (N := 3642) hc rfl rfl (by decide) (by decide) (by omega) (by omega) (v := A ((106 + (4 * i)) + 3)) (congrFun (hJ1_.1) _) ?_
          rw [show 106 + 4 * i + 3 = 109 + 4 * i by omega]
          have join83_ : ∀ v8 : Int, v8 = A (109 + 4 * i) → mm_wp (mm_Ev mm_ct mm_CM (d + 4)) 280 (83, [some (.ref 598), some (.int (iI la)), some (.int (iI b)), some (.int (iI i)), some (.int (iI (106 + (4 * i))))], [.int (iI v8), .int (iI (pushP A T la b (A (107 + 4 * i)) (A (108 + 4 * i))))], MX L t s1_ l1_) (fun res => ∃ s1 l1, res = (some (.int (iI (ftN A T b la (A 8).toNat))), MX L t s1 l1) ∧ (∀ c, c ≠ 604 ∧ c ≠ 606 → s1 c = s c) ∧ (∀ c, c ≠ 605 → l1 c = l c) ∧ JM s1 A T) := by
            intro v8 hv8
            refine wi_ceq hc rfl ⟨by omega, by omega⟩ ⟨by omega, by omega⟩ (fun h3_ => ?_) (fun h3_ => ?_)
            · refine wi_inc (L' := [some (.ref 598), some (.int (iI la)), some (.int (iI b)), some (.int (iI (i + 1))), some (.int (iI (106 + (4 * i))))]) hc rfl rfl rfl ?_
              refine wi_go hc rfl ?_
              have e9 : ftN A T b la (i + 1).toNat = 1 := by rw [ftN_s i0, if_neg (by omega)]; exact hft
              exact ih (by omega) (by omega) _ s1_ l1_ (fun c hc9_ => (hF1_ c (by omega)).trans (hF3 c (by omega))) (fun c hc9_ => (hG1_ c (by omega)).trans (hG3 c (by omega))) hJ1_ e9
            · refine wi_ic hc rfl ?_
              refine wi_r0 hc rfl (by rw [cm_280]; rfl) ?_
              have hR : ftN A T b la (A 8).toNat = 0 := ftN_0 i0 (by omega) _ (by omega)
              rw [hR]
              exact ⟨s1_, l1_, rfl, fun c hc9_ => (hF1_ c (by omega)).trans (hF3 c (by omega)), fun c hc9_ => (hG1_ c (by omega)).trans (hG3 c (by omega)), hJ1_⟩
          refine wi_ic hc rfl ?_
          refine wi_cne hc rfl ⟨by omega, by omega⟩ ⟨by decide, by decide⟩ (fun h4_ => ?_) (fun h4_ => ?_)
          · refine wi_ic hc rfl ?_
            exact join83_ _ (by omega)
          · refine wi_ic hc rfl ?_
            refine wi_go hc rfl ?_
            exact join83_ _ (by omega)
        refine wi_ic hc rfl ?_
        refine wi_cne hc rfl ⟨by omega, by omega⟩ ⟨by decide, by decide⟩ (fun h5_ => ?_) (fun h5_ => ?_)
        · refine wi_ic hc rfl ?_
          exact join62_ _ (by omega)
        · refine wi_ic hc rfl ?_
          refine wi_go hc rfl ?_
          exact join62_ _ (by omega)
  exact loop2_ 0 (by omega) (by omega) _ s l (fun c _ => rfl) (fun c _ => rfl) hJ rfl
theorem sp_281 {d L t : Nat} {s l : Nat → Int → Int} {A T : Int → Int} (hJ : JM s A T) (hK : KA A T) {b : Int} (hb : 0 ≤ b ∧ b < A 0) : ∃ s1 l1, mm_Ev mm_ct mm_CM (d + 7) 281 [.ref 598, .int (iI b)] (MX L t s l) (some (.int (iI (lawS A T b (A 8).toNat))), MX L t s1 l1) ∧ (∀ c, c ≠ 604 ∧ c ≠ 606 → s1 c = s c) ∧ (∀ c, c ≠ 605 → l1 c = l c) ∧ JM s1 A T := by
  have hc : (mm_CM 281).2.2.2.2.2.2.2 = mm_cf cd_281 := by rw [cm_281]; rfl
  refine ev_xsl ?_
  refine ev_to (mx := 4) (by rw [cm_281]; decide) (by rw [cm_281]; rfl) (by show 2 ≤ _; decide) ?_
  show mm_wp _ _ (0, [some (.ref 598), some (.int (iI b)), none, none], [], MX L t s l) (fun res => ∃ s1 l1, res = (some (.int (iI (lawS A T b (A 8).toNat))), MX L t s1 l1) ∧ (∀ c, c ≠ 604 ∧ c ≠ 606 → s1 c = s c) ∧ (∀ c, c ≠ 605 → l1 c = l c) ∧ JM s1 A T)
  have hV := hK.1
  have hB := hK.2.1
  have g0 := hB.1
  have h8 := hK.2.2.1.2.2.2.1
  refine wi_ic hc rfl ?_
  refine wi_is1 (L' := [some (.ref 598), some (.int (iI b)), some (.int (iI 0)), none]) hc rfl (Nat.le_of_ble_eq_true rfl) rfl ?_
  refine wi_ic hc rfl ?_
  refine wi_is1 (L' := [some (.ref 598), some (.int (iI b)), some (.int (iI 0)), some (.int (iI 0))]) hc rfl (Nat.le_of_ble_eq_true rfl) rfl ?_
  have loop4_ : ∀ la : Int, la ≤ 6 → 0 ≤ la → ∀ (s3 : Nat → Int → Int) (l3 : Nat → Int → Int), (∀ c, c ≠ 604 ∧ c ≠ 606 → s3 c = s c) → (∀ c, c ≠ 605 → l3 c = l c) → JM s3 A T → mm_wp (mm_Ev mm_ct mm_CM (d + 6)) 281 (4, [some (.ref 598), some (.int (iI b)), some (.int (iI (lwB (fun la => ftN A T b la (A 8).toNat) la.toNat))), some (.int (iI la))], [], MX L t s3 l3) (fun res => ∃ s1 l1, res = (some (.int (iI (lawS A T b (A 8).toNat))), MX L t s1 l1) ∧ (∀ c, c ≠ 604 ∧ c ≠ 606 → s1 c = s c) ∧ (∀ c, c ≠ 605 → l1 c = l c) ∧ JM s1 A T) := by
    refine up_ind ?_
    intro la hla9 ih la0 s3 l3 hF3 hG3 hJ3
    have hnn := lwB_nn (fun la => ftN A T b la (A 8).toNat) la.toNat
    have hpp := pw_pos la
    refine wi_i1 hc rfl rfl ?_
    refine wi_bi hc rfl rfl ?_
    refine wi_cge hc rfl ⟨by omega, by omega⟩ ⟨by decide, by decide⟩ (fun h1_ => ?_) (fun h1_ => ?_)
    · refine wi_i1 hc rfl rfl ?_
      refine wi_ri hc rfl (by rw [cm_281]; rfl) ?_
      have hR : lawS A T b (A 8).toNat = lwB (fun la => ftN A T b la (A 8).toNat) la.toNat := by rw [show la = 6 by omega]; rfl
      rw [hR]
      exact ⟨s3, l3, rfl, fun c hc9_ => hF3 c (by omega), fun c hc9_ => hG3 c (by omega), hJ3⟩
    · refine wi_i1 hc rfl rfl ?_
      refine wi_a1 hc rfl rfl ?_
      refine wi_i1 hc rfl rfl ?_
      refine wi_i1 hc rfl rfl ?_
      obtain ⟨s1_, l1_, hE1_, hF1_, hG1_, hJ1_⟩ := sp_280 (d := 0) (L := L) (t := t) (l := l3) hJ3 hK (la := la) (b := b) (by omega) hb
      refine wp_cv (b := 598) (As := [.int (iI la), .int (iI b)]) (r := [.int (iI (lwB (fun la => ftN A T b la (A 8).toNat) la.toNat))]) hc rfl (by rw [cm_280]; rfl) rfl (Nat.le_of_ble_eq_true rfl) (show 598 < 621 by decide) (by rw [cm_280]; rfl) (ev_mono hE1_ (by omega)) ?_
      have hfr := ftN_01 A T b la (A 8).toNat
      show mm_wp _ _ (17, [some (.ref 598), some (.int (iI b)), some (.int (iI (lwB (fun la => ftN A T b la (A 8).toNat) la.toNat))), some (.int (iI la))], [.int (iI (ftN A T b la (A 8).toNat)), .int (iI (lwB (fun la => ftN A T b la (A 8).toNat) la.toNat))], MX L t s1_ l1_) _
      refine wi_zeq hc rfl ⟨by omega, by omega⟩ (fun h2_ => ?_) (fun h2_ => ?_)
      · refine wi_ic hc rfl ?_
        refine wi_or hc rfl (by omega) (by omega) ?_
        rw [or_0 (x := lwB (fun la => ftN A T b la (A 8).toNat) la.toNat) (by omega)]
        refine wi_is1 (L' := [some (.ref 598), some (.int (iI b)), some (.int (iI (lwB (fun la => ftN A T b la (A 8).toNat) la.toNat))), some (.int (iI la))]) hc rfl (Nat.le_of_ble_eq_true rfl) rfl ?_
        refine wi_inc (L' := [some (.ref 598), some (.int (iI b)), some (.int (iI (lwB (fun la => ftN A T b la (A 8).toNat) la.toNat))), some (.int (iI (la + 1)))]) hc rfl rfl rfl ?_
        refine wi_go hc rfl ?_
        have e9 : lwB (fun la => ftN A T b la (A 8).toNat) la.toNat = lwB (fun la => ftN A T b la (A 8).toNat) (la + 1).toNat := by rw [lwB_s la0]; exact (if_neg (show ¬ ftN A T b la (A 8).toNat = 1 by omega)).symm
        rw [e9]
        exact ih (by omega) (by omega) s1_ l1_ (fun c hc9_ => (hF1_ c (by omega)).trans (hF3 c (by omega))) (fun c hc9_ => (hG1_ c (by omega)).trans (hG3 c (by omega))) hJ1_
      · refine wi_ic hc rfl ?_
        refine wi_i1 hc rfl rfl ?_
        refine wi_shl (2 ^ la.toNat) rfl hc rfl (by omega) (by omega) ?_
        refine wi_go hc rfl ?_
        refine wi_or hc rfl (by omega) (by omega) ?_
        refine wi_is1 (L' := [some (.ref 598), some (.int (iI b)), some (.int (iI (orI (lwB (fun la => ftN A T b la (A 8).toNat) la.toNat) (1 * (2 ^ la.toNat))))), some (.int (iI la))]) hc rfl (Nat.le_of_ble_eq_true rfl) rfl ?_
        refine wi_inc (L' := [some (.ref 598), some (.int (iI b)), some (.int (iI (orI (lwB (fun la => ftN A T b la (A 8).toNat) la.toNat) (1 * (2 ^ la.toNat))))), some (.int (iI (la + 1)))]) hc rfl rfl rfl ?_
        refine wi_go hc rfl ?_
        have e9 : orI (lwB (fun la => ftN A T b la (A 8).toNat) la.toNat) (1 * (2 ^ la.toNat)) = lwB (fun la => ftN A T b la (A 8).toNat) (la + 1).toNat := by rw [lwB_s la0]; exact (if_pos (show  ftN A T b la (A 8).toNat = 1 by omega)).symm
        rw [e9]
        exact ih (by omega) (by omega) s1_ l1_ (fun c hc9_ => (hF1_ c (by omega)).trans (hF3 c (by omega))) (fun c hc9_ => (hG1_ c (by omega)).trans (hG3 c (by omega))) hJ1_
  exact loop4_ 0 (by omega) (by omega) s l (fun c _ => rfl) (fun c _ => rfl) hJ
theorem sp_282 {d L t : Nat} {s l : Nat → Int → Int} {A T : Int → Int} (hJ : JM s A T) (hK : KA A T) {b : Int} (hb : rI b) : ∃ s1 l1, mm_Ev mm_ct mm_CM (d + 8) 282 [.ref 598, .int (iI b)] (MX L t s l) (some (.int (iI (lawsP A T b))), MX L t s1 l1) ∧ (∀ c, c ≠ 604 ∧ c ≠ 606 → s1 c = s c) ∧ (∀ c, c ≠ 605 → l1 c = l c) ∧ JM s1 A T := by
  have hc : (mm_CM 282).2.2.2.2.2.2.2 = mm_cf cd_282 := by rw [cm_282]; rfl
  refine ev_xsl ?_
  refine ev_to (mx := 2) (by rw [cm_282]; decide) (by rw [cm_282]; rfl) (by show 2 ≤ _; decide) ?_
  show mm_wp _ _ (0, [some (.ref 598), some (.int (iI b))], [], MX L t s l) (fun res => ∃ s1 l1, res = (some (.int (iI (lawsP A T b))), MX L t s1 l1) ∧ (∀ c, c ≠ 604 ∧ c ≠ 606 → s1 c = s c) ∧ (∀ c, c ≠ 605 → l1 c = l c) ∧ JM s1 A T)
  have hV := hK.1
  have hB := hK.2.1
  have g0 := hB.1
  have h8 := hK.2.2.1.2.2.2.1
  refine wi_a1 hc rfl rfl ?_
  refine wi_i1 hc rfl rfl ?_
  refine wp_cv (b := 598) (As := [.int (iI b)]) (r := []) hc rfl (by rw [cm_151]; rfl) rfl (Nat.le_of_ble_eq_true rfl) (show 598 < 621 by decide) (by rw [cm_151]; rfl) (ev_mono (sg_151 (d := 0) (hJ.1) hb (by omega) (by omega)) (by omega)) ?_
  show mm_wp _ _ (5, [some (.ref 598), some (.int (iI b))], [.int (iI (bI (0 ≤ b ∧ b < A 0)))], MX L t s l) _
  refine wi_beq hc rfl (fun h1_ => ?_) (fun h1_ => ?_)
  · refine wi_ic hc rfl ?_
    refine wi_ri hc rfl (by rw [cm_282]; rfl) ?_
    have hR : lawsP A T b = (-1) := by unfold lawsP; exact if_neg (by omega)
    rw [hR]
    exact ⟨s, l, rfl, fun c _ => rfl, fun c _ => rfl, hJ⟩
  · refine wi_a1 hc rfl rfl ?_
    refine wi_i1 hc rfl rfl ?_
    obtain ⟨s1_, l1_, hE1_, hF1_, hG1_, hJ1_⟩ := sp_281 (d := 0) (L := L) (t := t) (l := l) hJ hK (b := b) (by omega)
    refine wp_cv (b := 598) (As := [.int (iI b)]) (r := []) hc rfl (by rw [cm_281]; rfl) rfl (Nat.le_of_ble_eq_true rfl) (show 598 < 621 by decide) (by rw [cm_281]; rfl) (ev_mono hE1_ (by omega)) ?_
    have hls := lawS_64 A T b (A 8).toNat
    show mm_wp _ _ (13, [some (.ref 598), some (.int (iI b))], [.int (iI (lawS A T b (A 8).toNat))], MX L t s1_ l1_) _
    refine wi_go hc rfl ?_
    refine wi_ri hc rfl (by rw [cm_282]; rfl) ?_
    have hR : lawsP A T b = lawS A T b (A 8).toNat := by unfold lawsP; exact if_pos (by omega)
    rw [hR]
    exact ⟨s1_, l1_, rfl, fun c hc9_ => hF1_ c (by omega), fun c hc9_ => hG1_ c (by omega), hJ1_⟩
def TLm (p : Int × Int) (v : Int) : Prop := (p.1 = -1 ∧ v = 1000000) ∨ (0 ≤ p.1 ∧ v = p.2)
theorem TLm_lt {A T : Int → Int} {b f : Int} (h0 : 0 ≤ f) (h1 : f < 64) {k : Nat} {v x : Int} (h : TLm (tlN A T b f k) v) (x6 : x ≤ 6) : (x < (tlN A T b f k).2 ↔ x < v) ∧ -1 ≤ v ∧ v ≤ 1000000 := by
  have r := tlN_r (A := A) (T := T) (b := b) h0 h1 k
  unfold TLm at h
  refine ⟨?_, ?_, ?_⟩ <;> omega
theorem sp_283 {d L t : Nat} {s l : Nat → Int → Int} {A T : Int → Int} (hJ : JM s A T) (hK : KA A T) {b : Int} (hb : rI b) : ∃ s1 l1, mm_Ev mm_ct mm_CM (d + 8) 283 [.ref 598, .int (iI b)] (MX L t s l) (some (.int (iI (tellsP A T b))), MX L t s1 l1) ∧ (∀ c, c ≠ 604 ∧ c ≠ 606 → s1 c = s c) ∧ (∀ c, c ≠ 605 → l1 c = l c) ∧ JM s1 A T := by
  have hc : (mm_CM 283).2.2.2.2.2.2.2 = mm_cf cd_283 := by rw [cm_283]; rfl
  refine ev_xsl ?_
  refine ev_to (mx := 8) (by rw [cm_283]; decide) (by rw [cm_283]; rfl) (by show 2 ≤ _; decide) ?_
  show mm_wp _ _ (0, [some (.ref 598), some (.int (iI b)), none, none, none, none, none, none], [], MX L t s l) (fun res => ∃ s1 l1, res = (some (.int (iI (tellsP A T b))), MX L t s1 l1) ∧ (∀ c, c ≠ 604 ∧ c ≠ 606 → s1 c = s c) ∧ (∀ c, c ≠ 605 → l1 c = l c) ∧ JM s1 A T)
  have hV := hK.1
  have hB := hK.2.1
  have g0 := hB.1
  have h8 := hK.2.2.1.2.2.2.1
  refine wi_a1 hc rfl rfl ?_
  refine wi_i1 hc rfl rfl ?_
  refine wp_cv (b := 598) (As := [.int (iI b)]) (r := []) hc rfl (by rw [cm_151]; rfl) rfl (Nat.le_of_ble_eq_true rfl) (show 598 < 621 by decide) (by rw [cm_151]; rfl) (ev_mono (sg_151 (d := 0) (hJ.1) hb (by omega) (by omega)) (by omega)) ?_
  show mm_wp _ _ (5, [some (.ref 598), some (.int (iI b)), none, none, none, none, none, none], [.int (iI (bI (0 ≤ b ∧ b < A 0)))], MX L t s l) _
  refine wi_bne hc rfl (fun h1_ => ?_) (fun h1_ => ?_)
  · refine wi_a1 hc rfl rfl ?_
    refine wi_i1 hc rfl rfl ?_
    obtain ⟨s1_, l1_, hE1_, hF1_, hG1_, hJ1_⟩ := sp_281 (d := 0) (L := L) (t := t) (l := l) hJ hK (b := b) (by omega)
    refine wp_cv (b := 598) (As := [.int (iI b)]) (r := []) hc rfl (by rw [cm_281]; rfl) rfl (Nat.le_of_ble_eq_true rfl) (show 598 < 621 by decide) (by rw [cm_281]; rfl) (ev_mono hE1_ (by omega)) ?_
    have hls := lawS_64 A T b (A 8).toNat
    show mm_wp _ _ (15, [some (.ref 598), some (.int (iI b)), none, none, none, none, none, none], [.int (iI (lawS A T b (A 8).toNat))], MX L t s1_ l1_) _
    obtain ⟨f, hf⟩ : ∃ z9, z9 = lawS A T b (A 8).toNat := ⟨_, rfl⟩
    rw [← hf] at hls
    rw [← hf]
    refine wi_is1 (L' := [some (.ref 598), some (.int (iI b)), some (.int (iI f)), none, none, none, none, none]) hc rfl (Nat.le_of_ble_eq_true rfl) rfl ?_
    refine wi_ic hc rfl ?_
    refine wi_is1 (L' := [some (.ref 598), some (.int (iI b)), some (.int (iI f)), some (.int (iI (-1))), none, none, none, none]) hc rfl (Nat.le_of_ble_eq_true rfl) rfl ?_
    refine wi_ldw (z := 1000000) hc rfl rfl ?_
    refine wi_is2 (L' := [some (.ref 598), some (.int (iI b)), some (.int (iI f)), some (.int (iI (-1))), some (.int (iI 1000000)), none, none, none]) hc rfl (Nat.le_of_ble_eq_true rfl) rfl ?_
    refine wi_ic hc rfl ?_
    refine wi_is2 (L' := [some (.ref 598), some (.int (iI b)), some (.int (iI f)), some (.int (iI (-1))), some (.int (iI 1000000)), some (.int (iI 0)), none, none]) hc rfl (Nat.le_of_ble_eq_true rfl) rfl ?_
    have loop26_ : ∀ k : Int, k ≤ 2 * A 0 → 0 ≤ k → ∀ (m4 : Int) (o6 o7 : Option Value) (s3 : Nat → Int → Int) (l3 : Nat → Int → Int), (∀ c, c ≠ 604 ∧ c ≠ 606 → s3 c = s c) → (∀ c, c ≠ 605 → l3 c = l c) → JM s3 A T → TLm (tlN A T b f k.toNat) m4 → (f = 0 → k = 0) → mm_wp (mm_Ev mm_ct mm_CM (d + 7)) 283 (26, [some (.ref 598), some (.int (iI b)), some (.int (iI f)), some (.int (iI ((tlN A T b f k.toNat).1))), some (.int (iI m4)), some (.int (iI k)), o6, o7], [], MX L t s3 l3) (fun res => ∃ s1 l1, res = (some (.int (iI (tellsP A T b))), MX L t s1 l1) ∧ (∀ c, c ≠ 604 ∧ c ≠ 606 → s1 c = s c) ∧ (∀ c, c ≠ 605 → l1 c = l c) ∧ JM s1 A T) := by
      refine up_ind ?_
      intro k hk9 ih k0 m4 o6 o7 s3 l3 hF3 hG3 hJ3 hm4 hfk
      have htr := tlN_r (A := A) (T := T) (b := b) hls.1 hls.2 k.toNat
      have har := alV_r (A := A) (T := T) (b := b) hls.1 hls.2 (k / 2) (k % 2)
      have htm := TLm_lt hls.1 hls.2 hm4 har.2
      refine wi_i2 hc rfl rfl ?_
      refine wi_ic hc rfl ?_
      refine wi_a1 hc rfl rfl ?_
      refine wi_gr (w := 599) hc rfl rfl (by decide) (Nat.le_of_ble_eq_true rfl) rfl ?_
      refine wi_ic hc rfl ?_
      refine wi_ildv (N := 3642) hc rfl rfl (by decide) (by decide) (by omega) (by omega) (v := A 0) (congrFun (hJ3.1) _) ?_
      refine wi_mul hc rfl ?_
      refine wi_cge hc rfl ⟨by omega, by omega⟩ ⟨by omega, by omega⟩ (fun h2_ => ?_) (fun h2_ => ?_)
      · refine wi_i1 hc rfl rfl ?_
        refine wi_ri hc rfl (by rw [cm_283]; rfl) ?_
        have hR : tellsP A T b = (tlN A T b f k.toNat).1 := by
          unfold tellsP
          rw [← hf]
          by_cases z8 : f = 0
          · rw [if_neg (fun q => q.2 z8)]
            rw [hfk z8]
            rfl
          · rw [if_pos ⟨by omega, z8⟩, show 2 * A 0 = k by omega]
        rw [hR]
        exact ⟨s3, l3, rfl, fun c hc9_ => hF3 c (by omega), fun c hc9_ => hG3 c (by omega), hJ3⟩
      · refine wi_i1 hc rfl rfl ?_
        refine wi_zeq hc rfl ⟨by omega, by omega⟩ (fun h3_ => ?_) (fun h3_ => ?_)
        · refine wi_i1 hc rfl rfl ?_
          refine wi_ri hc rfl (by rw [cm_283]; rfl) ?_
          have hR : tellsP A T b = (tlN A T b f k.toNat).1 := by
            unfold tellsP
            rw [← hf]
            by_cases z8 : f = 0
            · rw [if_neg (fun q => q.2 z8)]
              rw [hfk z8]
              rfl
            · rw [if_pos ⟨by omega, z8⟩, show 2 * A 0 = k by omega]
          rw [hR]
          exact ⟨s3, l3, rfl, fun c hc9_ => hF3 c (by omega), fun c hc9_ => hG3 c (by omega), hJ3⟩
        · refine wi_i2 hc rfl rfl ?_
          refine wi_ic hc rfl ?_
          refine wi_divp hc rfl ⟨by omega, by omega⟩ ⟨by decide, by decide⟩ (by omega) (by omega) ?_
          refine wi_i1 hc rfl rfl ?_
          refine wi_cne hc rfl ⟨by omega, by omega⟩ hb (fun h4_ => ?_) (fun h4_ => ?_)
          · refine wi_ic hc rfl ?_
            refine wi_is2 (L' := [some (.ref 598), some (.int (iI b)), some (.int (iI f)), some (.int (iI ((tlN A T b f k.toNat).1))), some (.int (iI m4)), some (.int (iI k)), some (.int (iI 0)), o7]) hc rfl (Nat.le_of_ble_eq_true rfl) rfl ?_
            refine wi_ic hc rfl ?_
            refine wi_is2 (L' := [some (.ref 598), some (.int (iI b)), some (.int (iI f)), some (.int (iI ((tlN A T b f k.toNat).1))), some (.int (iI m4)), some (.int (iI k)), some (.int (iI 0)), some (.int (iI 0))]) hc rfl (Nat.le_of_ble_eq_true rfl) rfl ?_
            have loop60_ : ∀ la : Int, la ≤ 6 → 0 ≤ la → ∀ (s4 : Nat → Int → Int) (l4 : Nat → Int → Int), (∀ c, c ≠ 604 ∧ c ≠ 606 → s4 c = s c) → (∀ c, c ≠ 605 → l4 c = l c) → JM s4 A T → mm_wp (mm_Ev mm_ct mm_CM (d + 7)) 283 (60, [some (.ref 598), some (.int (iI b)), some (.int (iI f)), some (.int (iI ((tlN A T b f k.toNat).1))), some (.int (iI m4)), some (.int (iI k)), some (.int (iI (ctB f (fun la => pushP A T la b (k / 2) (k % 2)) la.toNat))), some (.int (iI la))], [], MX L t s4 l4) (fun res => ∃ s1 l1, res = (some (.int (iI (tellsP A T b))), MX L t s1 l1) ∧ (∀ c, c ≠ 604 ∧ c ≠ 606 → s1 c = s c) ∧ (∀ c, c ≠ 605 → l1 c = l c) ∧ JM s1 A T) := by
              refine up_ind ?_
              intro la hla9 ihl la0 s4 l4 hF4 hG4 hJ4
              have hcr := ctB_r f (fun la => pushP A T la b (k / 2) (k % 2)) la.toNat
              have hp9 := pushP_01 hV (la := la) (b := b) (o := k / 2) (right := k % 2) (by omega) (by omega) (by omega) (by omega) (by omega)
              refine wi_i2 hc rfl rfl ?_
              refine wi_bi hc rfl rfl ?_
              refine wi_cge hc rfl ⟨by omega, by omega⟩ ⟨by decide, by decide⟩ (fun h5_ => ?_) (fun h5_ => ?_)
              · have hpo := pop6 hls.1 hls.2
                have hae := alV_eq (A := A) (T := T) (b := b) (x := k / 2) (r := k % 2) hls.1 hls.2
                rw [show (6 : Nat) = la.toNat by omega] at hae
                have hmx := maxI_spec (ctB f (fun la => pushP A T la b (k / 2) (k % 2)) la.toNat) (popI f - ctB f (fun la => pushP A T la b (k / 2) (k % 2)) la.toNat)
                rw [← hae] at hmx
                have hpr := popI_r f
                refine wi_i1 hc rfl rfl ?_
                refine wp_cs (As := [.int (iI f)]) (r := []) hc rfl (by rw [cm_150]; rfl) rfl (Nat.le_of_ble_eq_true rfl) (ev_mono (sp_150 (d := 0) ⟨by omega, by omega⟩) (by omega)) ?_
                show mm_wp _ _ (123, [some (.ref 598), some (.int (iI b)), some (.int (iI f)), some (.int (iI ((tlN A T b f k.toNat).1))), some (.int (iI m4)), some (.int (iI k)), some (.int (iI (ctB f (fun la => pushP A T la b (k / 2) (k % 2)) la.toNat))), some (.int (iI la))], [.int (iI (popI f))], MX L t s4 l4) _
                refine wi_i2 hc rfl rfl ?_
                refine wi_sub hc rfl ?_
                refine wi_i2 hc rfl rfl ?_
                refine wi_cle hc rfl ⟨by omega, by omega⟩ ⟨by omega, by omega⟩ (fun h6_ => ?_) (fun h6_ => ?_)
                · refine wi_i2 hc rfl rfl ?_
                  refine wi_is2 (L' := [some (.ref 598), some (.int (iI b)), some (.int (iI f)), some (.int (iI ((tlN A T b f k.toNat).1))), some (.int (iI m4)), some (.int (iI k)), some (.int (iI (ctB f (fun la => pushP A T la b (k / 2) (k % 2)) la.toNat))), some (.int (iI (ctB f (fun la => pushP A T la b (k / 2) (k % 2)) la.toNat)))]) hc rfl (Nat.le_of_ble_eq_true rfl) rfl ?_
                  refine wi_i2 hc rfl rfl ?_
                  refine wi_i2 hc rfl rfl ?_
                  refine wi_clt hc rfl ⟨by omega, by omega⟩ ⟨by omega, by omega⟩ (fun h7_ => ?_) (fun h7_ => ?_)
                  · refine wi_i2 hc rfl rfl ?_
                    refine wi_is2 (L' := [some (.ref 598), some (.int (iI b)), some (.int (iI f)), some (.int (iI ((tlN A T b f k.toNat).1))), some (.int (iI (ctB f (fun la => pushP A T la b (k / 2) (k % 2)) la.toNat))), some (.int (iI k)), some (.int (iI (ctB f (fun la => pushP A T la b (k / 2) (k % 2)) la.toNat))), some (.int (iI (ctB f (fun la => pushP A T la b (k / 2) (k % 2)) la.toNat)))]) hc rfl (Nat.le_of_ble_eq_true rfl) rfl ?_
                    refine wi_i2 hc rfl rfl ?_
                    refine wi_is1 (L' := [some (.ref 598), some (.int (iI b)), some (.int (iI f)), some (.int (iI k)), some (.int (iI (ctB f (fun la => pushP A T la b (k / 2) (k % 2)) la.toNat))), some (.int (iI k)), some (.int (iI (ctB f (fun la => pushP A T la b (k / 2) (k % 2)) la.toNat))), some (.int (iI (ctB f (fun la => pushP A T la b (k / 2) (k % 2)) la.toNat)))]) hc rfl (Nat.le_of_ble_eq_true rfl) rfl ?_
                    refine wi_inc (L' := [some (.ref 598), some (.int (iI b)), some (.int (iI f)), some (.int (iI k)), some (.int (iI (ctB f (fun la => pushP A T la b (k / 2) (k % 2)) la.toNat))), some (.int (iI (k + 1))), some (.int (iI (ctB f (fun la => pushP A T la b (k / 2) (k % 2)) la.toNat))), some (.int (iI (ctB f (fun la => pushP A T la b (k / 2) (k % 2)) la.toNat)))]) hc rfl rfl rfl ?_
                    refine wi_go hc rfl ?_
                    have e8 := tlN_s (A := A) (T := T) (b := b) (f := f) k0
                    rw [if_pos ⟨by omega, by omega⟩] at e8
                    have e1 : k = (tlN A T b f (k + 1).toNat).1 := by rw [e8]
                    have hm5 : TLm (tlN A T b f (k + 1).toNat) (ctB f (fun la => pushP A T la b (k / 2) (k % 2)) la.toNat) := by rw [e8]; exact Or.inr ⟨k0, by show _ = alV A T b f (k / 2) (k % 2); omega⟩
                    rw [show (Value.int (iI k)) = Value.int (iI (tlN A T b f (k + 1).toNat).1) by rw [← e1]]
                    exact ih (by omega) (by omega) _ _ _ s4 l4 (fun c hc9_ => hF4 c (by omega)) (fun c hc9_ => hG4 c (by omega)) hJ4 hm5 (fun q9 => absurd q9 (by omega))
                  · refine wi_go hc rfl ?_
                    refine wi_inc (L' := [some (.ref 598), some (.int (iI b)), some (.int (iI f)), some (.int (iI ((tlN A T b f k.toNat).1))), some (.int (iI m4)), some (.int (iI (k + 1))), some (.int (iI (ctB f (fun la => pushP A T la b (k / 2) (k % 2)) la.toNat))), some (.int (iI (ctB f (fun la => pushP A T la b (k / 2) (k % 2)) la.toNat)))]) hc rfl rfl rfl ?_
                    refine wi_go hc rfl ?_
                    have e8 := tlN_s (A := A) (T := T) (b := b) (f := f) k0
                    rw [if_neg (by omega)] at e8
                    have hm5 : TLm (tlN A T b f (k + 1).toNat) m4 := by rw [e8]; exact hm4
                    rw [← e8]
                    exact ih (by omega) (by omega) _ _ _ s4 l4 (fun c hc9_ => hF4 c (by omega)) (fun c hc9_ => hG4 c (by omega)) hJ4 hm5 (fun q9 => absurd q9 (by omega))
                · refine wi_i1 hc rfl rfl ?_
                  refine wp_cs (As := [.int (iI f)]) (r := []) hc rfl (by rw [cm_150]; rfl) rfl (Nat.le_of_ble_eq_true rfl) (ev_mono (sp_150 (d := 0) ⟨by omega, by omega⟩) (by omega)) ?_
                  show mm_wp _ _ (135, [some (.ref 598), some (.int (iI b)), some (.int (iI f)), some (.int (iI ((tlN A T b f k.toNat).1))), some (.int (iI m4)), some (.int (iI k)), some (.int (iI (ctB f (fun la => pushP A T la b (k / 2) (k % 2)) la.toNat))), some (.int (iI la))], [.int (iI (popI f))], MX L t s4 l4) _
                  refine wi_i2 hc rfl rfl ?_
                  refine wi_sub hc rfl ?_
                  refine wi_go hc rfl ?_
                  refine wi_is2 (L' := [some (.ref 598), some (.int (iI b)), some (.int (iI f)), some (.int (iI ((tlN A T b f k.toNat).1))), some (.int (iI m4)), some (.int (iI k)), some (.int (iI (ctB f (fun la => pushP A T la b (k / 2) (k % 2)) la.toNat))), some (.int (iI ((popI f) - (ctB f (fun la => pushP A T la b (k / 2) (k % 2)) la.toNat))))]) hc rfl (Nat.le_of_ble_eq_true rfl) rfl ?_
                  refine wi_i2 hc rfl rfl ?_
                  refine wi_i2 hc rfl rfl ?_
                  refine wi_clt hc rfl ⟨by omega, by omega⟩ ⟨by omega, by omega⟩ (fun h8_ => ?_) (fun h8_ => ?_)
                  · refine wi_i2 hc rfl rfl ?_
                    refine wi_is2 (L' := [some (.ref 598), some (.int (iI b)), some (.int (iI f)), some (.int (iI ((tlN A T b f k.toNat).1))), some (.int (iI ((popI f) - (ctB f (fun la => pushP A T la b (k / 2) (k % 2)) la.toNat)))), some (.int (iI k)), some (.int (iI (ctB f (fun la => pushP A T la b (k / 2) (k % 2)) la.toNat))), some (.int (iI ((popI f) - (ctB f (fun la => pushP A T la b (k / 2) (k % 2)) la.toNat))))]) hc rfl (Nat.le_of_ble_eq_true rfl) rfl ?_
                    refine wi_i2 hc rfl rfl ?_
                    refine wi_is1 (L' := [some (.ref 598), some (.int (iI b)), some (.int (iI f)), some (.int (iI k)), some (.int (iI ((popI f) - (ctB f (fun la => pushP A T la b (k / 2) (k % 2)) la.toNat)))), some (.int (iI k)), some (.int (iI (ctB f (fun la => pushP A T la b (k / 2) (k % 2)) la.toNat))), some (.int (iI ((popI f) - (ctB f (fun la => pushP A T la b (k / 2) (k % 2)) la.toNat))))]) hc rfl (Nat.le_of_ble_eq_true rfl) rfl ?_
                    refine wi_inc (L' := [some (.ref 598), some (.int (iI b)), some (.int (iI f)), some (.int (iI k)), some (.int (iI ((popI f) - (ctB f (fun la => pushP A T la b (k / 2) (k % 2)) la.toNat)))), some (.int (iI (k + 1))), some (.int (iI (ctB f (fun la => pushP A T la b (k / 2) (k % 2)) la.toNat))), some (.int (iI ((popI f) - (ctB f (fun la => pushP A T la b (k / 2) (k % 2)) la.toNat))))]) hc rfl rfl rfl ?_
                    refine wi_go hc rfl ?_
                    have e8 := tlN_s (A := A) (T := T) (b := b) (f := f) k0
                    rw [if_pos ⟨by omega, by omega⟩] at e8
                    have e1 : k = (tlN A T b f (k + 1).toNat).1 := by rw [e8]
                    have hm5 : TLm (tlN A T b f (k + 1).toNat) ((popI f) - (ctB f (fun la => pushP A T la b (k / 2) (k % 2)) la.toNat)) := by rw [e8]; exact Or.inr ⟨k0, by show _ = alV A T b f (k / 2) (k % 2); omega⟩
                    rw [show (Value.int (iI k)) = Value.int (iI (tlN A T b f (k + 1).toNat).1) by rw [← e1]]
                    exact ih (by omega) (by omega) _ _ _ s4 l4 (fun c hc9_ => hF4 c (by omega)) (fun c hc9_ => hG4 c (by omega)) hJ4 hm5 (fun q9 => absurd q9 (by omega))
                  · refine wi_go hc rfl ?_
                    refine wi_inc (L' := [some (.ref 598), some (.int (iI b)), some (.int (iI f)), some (.int (iI ((tlN A T b f k.toNat).1))), some (.int (iI m4)), some (.int (iI (k + 1))), some (.int (iI (ctB f (fun la => pushP A T la b (k / 2) (k % 2)) la.toNat))), some (.int (iI ((popI f) - (ctB f (fun la => pushP A T la b (k / 2) (k % 2)) la.toNat))))]) hc rfl rfl rfl ?_
                    refine wi_go hc rfl ?_
                    have e8 := tlN_s (A := A) (T := T) (b := b) (f := f) k0
                    rw [if_neg (by omega)] at e8
                    have hm5 : TLm (tlN A T b f (k + 1).toNat) m4 := by rw [e8]; exact hm4
                    rw [← e8]
                    exact ih (by omega) (by omega) _ _ _ s4 l4 (fun c hc9_ => hF4 c (by omega)) (fun c hc9_ => hG4 c (by omega)) hJ4 hm5 (fun q9 => absurd q9 (by omega))
              · refine wi_i2 hc rfl rfl ?_
                refine wi_i1 hc rfl rfl ?_
                refine wi_i2 hc rfl rfl ?_
                refine wp_cs (As := [.int (iI f), .int (iI la)]) (r := [.int (iI (ctB f (fun la => pushP A T la b (k / 2) (k % 2)) la.toNat))]) hc rfl (by rw [cm_149]; rfl) rfl (Nat.le_of_ble_eq_true rfl) (ev_mono (sp_149 (d := 0) (i := la) ⟨by omega, by omega⟩ (by omega) (by omega)) (by omega)) ?_
                show mm_wp _ _ (75, [some (.ref 598), some (.int (iI b)), some (.int (iI f)), some (.int (iI ((tlN A T b f k.toNat).1))), some (.int (iI m4)), some (.int (iI k)), some (.int (iI (ctB f (fun la => pushP A T la b (k / 2) (k % 2)) la.toNat))), some (.int (iI la))], [.int (iI (bI (f / 2 ^ la.toNat % 2 = 1))), .int (iI (ctB f (fun la => pushP A T la b (k / 2) (k % 2)) la.toNat))], MX L t s4 l4) _
                refine wi_beq hc rfl (fun h9_ => ?_) (fun h9_ => ?_)
                · refine wi_ic hc rfl ?_
                  refine wi_add hc rfl ?_
                  refine wi_is2 (L' := [some (.ref 598), some (.int (iI b)), some (.int (iI f)), some (.int (iI ((tlN A T b f k.toNat).1))), some (.int (iI m4)), some (.int (iI k)), some (.int (iI ((ctB f (fun la => pushP A T la b (k / 2) (k % 2)) la.toNat) + 0))), some (.int (iI la))]) hc rfl (Nat.le_of_ble_eq_true rfl) rfl ?_
                  refine wi_inc (L' := [some (.ref 598), some (.int (iI b)), some (.int (iI f)), some (.int (iI ((tlN A T b f k.toNat).1))), some (.int (iI m4)), some (.int (iI k)), some (.int (iI ((ctB f (fun la => pushP A T la b (k / 2) (k % 2)) la.toNat) + 0))), some (.int (iI (la + 1)))]) hc rfl rfl rfl ?_
                  refine wi_go hc rfl ?_
                  have e9 : (ctB f (fun la => pushP A T la b (k / 2) (k % 2)) la.toNat) + 0 = ctB f (fun la => pushP A T la b (k / 2) (k % 2)) (la + 1).toNat := by rw [ctB_s la0, if_neg (fun w => by have w1 := w.1; omega)]
                  rw [e9]
                  exact ihl (by omega) (by omega) s4 l4 (fun c hc9_ => hF4 c (by omega)) (fun c hc9_ => hG4 c (by omega)) hJ4
                · refine wi_a1 hc rfl rfl ?_
                  refine wi_i2 hc rfl rfl ?_
                  refine wi_i1 hc rfl rfl ?_
                  refine wi_i2 hc rfl rfl ?_
                  refine wi_ic hc rfl ?_
                  refine wi_divp hc rfl ⟨by omega, by omega⟩ ⟨by decide, by decide⟩ (by omega) (by omega) ?_
                  have join99_ : ∀ v9 : Int, v9 = k % 2 → mm_wp (mm_Ev mm_ct mm_CM (d + 7)) 283 (99, [some (.ref 598), some (.int (iI b)), some (.int (iI f)), some (.int (iI ((tlN A T b f k.toNat).1))), some (.int (iI m4)), some (.int (iI k)), some (.int (iI (ctB f (fun la => pushP A T la b (k / 2) (k % 2)) la.toNat))), some (.int (iI la))], [.int (iI v9), .int (iI (k / 2)), .int (iI b), .int (iI la), .ref 598, .int (iI (ctB f (fun la => pushP A T la b (k / 2) (k % 2)) la.toNat))], MX L t s4 l4) (fun res => ∃ s1 l1, res = (some (.int (iI (tellsP A T b))), MX L t s1 l1) ∧ (∀ c, c ≠ 604 ∧ c ≠ 606 → s1 c = s c) ∧ (∀ c, c ≠ 605 → l1 c = l c) ∧ JM s1 A T) := by
                    intro v9 hv9
                    rw [hv9]
                    obtain ⟨s2_, l2_, hE2_, hF2_, hG2_, hJ2_⟩ := sp_209 (d := 0) (L := L) (t := t) (l := l4) hJ4 hK.1 (la := la) (b := b) (o := k / 2) (right := k % 2) ⟨by omega, by omega⟩ (by omega) (by omega) (by omega) (by omega) (by omega)
                    refine wp_cv (b := 598) (As := [.int (iI la), .int (iI b), .int (iI (k / 2)), .int (iI (k % 2))]) (r := [.int (iI (ctB f (fun la => pushP A T la b (k / 2) (k % 2)) la.toNat))]) hc rfl (by rw [cm_209]; rfl) rfl (Nat.le_of_ble_eq_true rfl) (show 598 < 621 by decide) (by rw [cm_209]; rfl) (ev_mono hE2_ (by omega)) ?_
                    show mm_wp _ _ (102, [some (.ref 598), some (.int (iI b)), some (.int (iI f)), some (.int (iI ((tlN A T b f k.toNat).1))), some (.int (iI m4)), some (.int (iI k)), some (.int (iI (ctB f (fun la => pushP A T la b (k / 2) (k % 2)) la.toNat))), some (.int (iI la))], [.int (iI (pushP A T la b (k / 2) (k % 2))), .int (iI (ctB f (fun la => pushP A T la b (k / 2) (k % 2)) la.toNat))], MX L t s2_ l2_) _
                    refine wi_b01 hc rfl rfl rfl rfl (by omega) ?_
                    refine wi_add hc rfl ?_
                    refine wi_is2 (L' := [some (.ref 598), some (.int (iI b)), some (.int (iI f)), some (.int (iI ((tlN A T b f k.toNat).1))), some (.int (iI m4)), some (.int (iI k)), some (.int (iI ((ctB f (fun la => pushP A T la b (k / 2) (k % 2)) la.toNat) + (pushP A T la b (k / 2) (k % 2))))), some (.int (iI la))]) hc rfl (Nat.le_of_ble_eq_true rfl) rfl ?_
                    refine wi_inc (L' := [some (.ref 598), some (.int (iI b)), some (.int (iI f)), some (.int (iI ((tlN A T b f k.toNat).1))), some (.int (iI m4)), some (.int (iI k)), some (.int (iI ((ctB f (fun la => pushP A T la b (k / 2) (k % 2)) la.toNat) + (pushP A T la b (k / 2) (k % 2))))), some (.int (iI (la + 1)))]) hc rfl rfl rfl ?_
                    refine wi_go hc rfl ?_
                    have e9 : (ctB f (fun la => pushP A T la b (k / 2) (k % 2)) la.toNat) + (pushP A T la b (k / 2) (k % 2)) = ctB f (fun la => pushP A T la b (k / 2) (k % 2)) (la + 1).toNat := by
                      rw [ctB_s la0]
                      rcases hp9 with q | q
                      · rw [if_neg (fun w => by have w2 : pushP A T la b (k / 2) (k % 2) = 1 := w.2; omega), q]
                      · rw [if_pos ⟨by omega, q⟩, q]
                    rw [e9]
                    exact ihl (by omega) (by omega) s2_ l2_ (fun c hc9_ => (hF2_ c (by omega)).trans (hF4 c (by omega))) (fun c hc9_ => (hG2_ c (by omega)).trans (hG4 c (by omega))) hJ2_
                  refine wi_i2 hc rfl rfl ?_
                  refine wi_ic hc rfl ?_
                  refine wi_remp hc rfl ⟨by omega, by omega⟩ ⟨by decide, by decide⟩ (by omega) (by omega) ?_
                  refine wi_ic hc rfl ?_
                  refine wi_cne hc rfl ⟨by omega, by omega⟩ ⟨by decide, by decide⟩ (fun h10_ => ?_) (fun h10_ => ?_)
                  · refine wi_ic hc rfl ?_
                    exact join99_ _ (by omega)
                  · refine wi_ic hc rfl ?_
                    refine wi_go hc rfl ?_
                    exact join99_ _ (by omega)
            exact loop60_ 0 (by omega) (by omega) s3 l3 hF3 hG3 hJ3
          · refine wi_go hc rfl ?_
            refine wi_inc (L' := [some (.ref 598), some (.int (iI b)), some (.int (iI f)), some (.int (iI ((tlN A T b f k.toNat).1))), some (.int (iI m4)), some (.int (iI (k + 1))), o6, o7]) hc rfl rfl rfl ?_
            refine wi_go hc rfl ?_
            have e8 := tlN_s (A := A) (T := T) (b := b) (f := f) k0
            rw [if_neg (by omega)] at e8
            have hm5 : TLm (tlN A T b f (k + 1).toNat) m4 := by rw [e8]; exact hm4
            rw [← e8]
            exact ih (by omega) (by omega) _ _ _ s3 l3 (fun c hc9_ => hF3 c (by omega)) (fun c hc9_ => hG3 c (by omega)) hJ3 hm5 (fun q9 => absurd q9 (by omega))
    exact loop26_ 0 (by omega) (by omega) _ _ _ s1_ l1_ (fun c hc9_ => hF1_ c (by omega)) (fun c hc9_ => hG1_ c (by omega)) hJ1_ (Or.inl ⟨rfl, rfl⟩) (fun _ => rfl)
  · refine wi_ic hc rfl ?_
    refine wi_ri hc rfl (by rw [cm_283]; rfl) ?_
    have hR : tellsP A T b = -1 := by unfold tellsP; rw [if_neg (by omega)]
    rw [hR]
    exact ⟨s, l, rfl, fun c _ => rfl, fun c _ => rfl, hJ⟩
