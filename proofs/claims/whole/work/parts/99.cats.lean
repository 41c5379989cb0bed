/-! CATALOGUE on both sides. -/
theorem sp_115 {d L t : Nat} {s l : Nat → Int → Int} {A T : Int → Int} (hJ : JC s A T) (hK : KA A T) {b n i look : Int} (hb : rI b) (hn : rI n) (hi : rI i) (hl : look = 0 ∨ look = 1) : ∃ s1, mm_Ev mm_ct mm_CM (d + 7) 115 [.ref 0, .int (iI b), .int (iI n), .int (iI i), .int (iI look)] (MX L t s l) (some (.int (iI (catP A T b n i look))), MX L t s1 l) ∧ (∀ c, c ≠ 578 ∧ c ≠ 579 ∧ c ≠ 591 ∧ c ≠ 592 → s1 c = s c) ∧ JC s1 A T := by
  have hc : (mm_CM 115).2.2.2.2.2.2.2 = mm_cf cd_115 := by rw [cm_115]; rfl
  refine ev_xs ?_
  refine ev_to (mx := 6) (by rw [cm_115]; decide) (by rw [cm_115]; rfl) (by show 5 ≤ _; decide) ?_
  show mm_wp _ _ (0, [some (.ref 0), some (.int (iI b)), some (.int (iI n)), some (.int (iI i)), some (.int (iI look)), none], [], MX L t s l) (fun res => ∃ s1, res = (some (.int (iI (catP A T b n i look))), MX L t s1 l) ∧ (∀ c, c ≠ 578 ∧ c ≠ 579 ∧ c ≠ 591 ∧ c ≠ 592 → s1 c = s c) ∧ JC s1 A T)
  have hV := hK.1
  have hB := hK.2.1
  have g0 := hB.1
  have h1 := hK.2.2.1.1
  refine wi_a1 hc rfl rfl ?_
  refine wi_i1 hc rfl rfl ?_
  refine wp_cv (b := 0) (As := [.int (iI b)]) (r := []) hc rfl (by rw [cm_129]; rfl) rfl (Nat.le_of_ble_eq_true rfl) (show 0 < 621 by decide) (by rw [cm_129]; rfl) (ev_mono (sg_129 (d := 0) hJ.1 hb hK.2.1.1) (by omega)) ?_
  show mm_wp _ _ (5, [some (.ref 0), some (.int (iI b)), some (.int (iI n)), some (.int (iI i)), some (.int (iI look)), none], [.int (iI (bI (0 ≤ b ∧ b < A 0)))], MX L t s l) _
  refine wi_beq hc rfl (fun h1_ => ?_) (fun h1_ => ?_)
  · refine wi_ic hc rfl ?_
    refine wi_ri hc rfl (by rw [cm_115]; rfl) ?_
    have hR : catP A T b n i look = -1 := by unfold catP; rw [if_neg (by omega)]
    rw [hR]
    exact ⟨s, rfl, fun c _ => rfl, hJ⟩
  · have gw0 := (hB.2.2.2.2 b (by omega) (by omega)).1
    refine wi_a1 hc rfl rfl ?_
    refine wi_gr (w := 1) hc rfl rfl (by decide) (Nat.le_of_ble_eq_true rfl) rfl ?_
    refine wi_gr (w := 2) hc rfl rfl (by decide) (Nat.le_of_ble_eq_true rfl) rfl ?_
    refine wi_gr (w := 8) hc rfl rfl (by decide) (Nat.le_of_ble_eq_true rfl) rfl ?_
    refine wi_i1 hc rfl rfl ?_
    refine wi_ildv (N := 10) hc rfl rfl (by decide) (by decide) (by omega) (by omega) (v := A (46 + 6 * b + 5)) (lb_where hJ.1 (by omega) (by omega) (by omega)) ?_
    refine wi_ic hc rfl ?_
    refine wi_cge hc rfl ⟨by omega, by omega⟩ ⟨by decide, by decide⟩ (fun h2_ => ?_) (fun h2_ => ?_)
    · refine wi_ic hc rfl ?_
      refine wi_ri hc rfl (by rw [cm_115]; rfl) ?_
      have hR : catP A T b n i look = -1 := by unfold catP; rw [if_neg (by omega)]
      rw [hR]
      exact ⟨s, rfl, fun c _ => rfl, hJ⟩
    · refine wi_i1 hc rfl rfl ?_
      refine wi_zlt hc rfl hn (fun h3_ => ?_) (fun h3_ => ?_)
      · refine wi_ic hc rfl ?_
        refine wi_ri hc rfl (by rw [cm_115]; rfl) ?_
        have hR : catP A T b n i look = -1 := by unfold catP; rw [if_neg (by omega)]
        rw [hR]
        exact ⟨s, rfl, fun c _ => rfl, hJ⟩
      · refine wi_i1 hc rfl rfl ?_
        refine wi_bi hc rfl rfl ?_
        refine wi_cle hc rfl hn ⟨by decide, by decide⟩ (fun h4_ => ?_) (fun h4_ => ?_)
        · refine wi_a1 hc rfl rfl ?_
          refine wi_gr (w := 1) hc rfl rfl (by decide) (Nat.le_of_ble_eq_true rfl) rfl ?_
          refine wi_gr (w := 2) hc rfl rfl (by decide) (Nat.le_of_ble_eq_true rfl) rfl ?_
          refine wi_gr (w := 8) hc rfl rfl (by decide) (Nat.le_of_ble_eq_true rfl) rfl ?_
          refine wi_i1 hc rfl rfl ?_
          refine wi_ildv (N := 10) hc rfl rfl (by decide) (by decide) (by omega) (by omega) (v := A (46 + 6 * b + 5)) (lb_where hJ.1 (by omega) (by omega) (by omega)) ?_
          obtain ⟨x, hx⟩ : ∃ x9, x9 = A (46 + 6 * b + 5) := ⟨_, rfl⟩
          rw [← hx]
          have gw := (hB.2.2.2.2 b (by omega) (by omega)).1
          have gm := hB.2.1 x (by omega) (by omega)
          refine wi_is2 (L' := [some (.ref 0), some (.int (iI b)), some (.int (iI n)), some (.int (iI i)), some (.int (iI look)), some (.int (iI x))]) hc rfl (Nat.le_of_ble_eq_true rfl) rfl ?_
          refine wi_a1 hc rfl rfl ?_
          refine wi_i2 hc rfl rfl ?_
          refine wi_i1 hc rfl rfl ?_
          refine wp_cv (b := 0) (As := [.int (iI x), .int (iI i)]) (r := []) hc rfl (by rw [cm_131]; rfl) rfl (Nat.le_of_ble_eq_true rfl) (show 0 < 621 by decide) (by rw [cm_131]; rfl) (ev_mono (sp_131 (d := 0) hJ hK (x := x) (p := i) (by omega) (by omega) hi) (by omega)) ?_
          show mm_wp _ _ (57, [some (.ref 0), some (.int (iI b)), some (.int (iI n)), some (.int (iI i)), some (.int (iI look)), some (.int (iI x))], [.int (iI (bI (0 ≤ i ∧ i < A (13 + x))))], MX L t s l) _
          refine wi_bne hc rfl (fun h5_ => ?_) (fun h5_ => ?_)
          · refine wi_a1 hc rfl rfl ?_
            refine wi_i2 hc rfl rfl ?_
            obtain ⟨s1_, hE1_, hF1_, hJ1_, hC1_⟩ := sp_141 (d := 0) (L := L) (t := t) (l := l) hJ hK (x := x) (by omega) (by omega)
            refine wp_cv (b := 0) (As := [.int (iI x)]) (r := []) hc rfl (by rw [cm_141]; rfl) rfl (Nat.le_of_ble_eq_true rfl) (show 0 < 621 by decide) (by rw [cm_141]; rfl) (ev_mono hE1_ (by omega)) ?_
            show mm_wp _ _ (68, [some (.ref 0), some (.int (iI b)), some (.int (iI n)), some (.int (iI i)), some (.int (iI look)), some (.int (iI x))], [], MX L t s1_ l) _
            refine wi_a1 hc rfl rfl ?_
            refine wi_gr (w := 590) hc rfl rfl (by decide) (Nat.le_of_ble_eq_true rfl) rfl ?_
            refine wi_a1 hc rfl rfl ?_
            refine wi_gr (w := 1) hc rfl rfl (by decide) (Nat.le_of_ble_eq_true rfl) rfl ?_
            refine wi_gr (w := 2) hc rfl rfl (by decide) (Nat.le_of_ble_eq_true rfl) rfl ?_
            refine wi_i2 hc rfl rfl ?_
            refine wp_cv (b := 2) (As := [.int (iI x)]) (r := [.ref 590]) hc rfl (by rw [cm_76]; rfl) rfl (Nat.le_of_ble_eq_true rfl) (show 2 < 621 by decide) (by rw [cm_76]; rfl) (ev_mono (sp_76 (d := 0) hJ1_ hK (x := x) (by omega) (by omega)) (by omega)) ?_
            show mm_wp _ _ (84, [some (.ref 0), some (.int (iI b)), some (.int (iI n)), some (.int (iI i)), some (.int (iI look)), some (.int (iI x))], [.long (lI (rwE (shF A x) (A (13 + x)))), .ref 590], MX L t s1_ l) _
            refine wi_a1 hc rfl rfl ?_
            refine wi_gr (w := 1) hc rfl rfl (by decide) (Nat.le_of_ble_eq_true rfl) rfl ?_
            refine wi_gr (w := 2) hc rfl rfl (by decide) (Nat.le_of_ble_eq_true rfl) rfl ?_
            refine wi_gr (w := 7) hc rfl rfl (by decide) (Nat.le_of_ble_eq_true rfl) rfl ?_
            refine wi_i2 hc rfl rfl ?_
            refine wi_ildv (N := 3) hc rfl rfl (by decide) (by decide) (by omega) (by omega) (v := A (13 + x)) (lb_many hJ1_.1 (by omega) (by omega)) ?_
            refine wi_a1 hc rfl rfl ?_
            refine wi_gr (w := 1) hc rfl rfl (by decide) (Nat.le_of_ble_eq_true rfl) rfl ?_
            refine wi_gr (w := 2) hc rfl rfl (by decide) (Nat.le_of_ble_eq_true rfl) rfl ?_
            refine wi_gfv (kz := 6) rfl hc rfl rfl (by decide) (Nat.le_of_ble_eq_true rfl) rfl (v := A 1) (lb_night hJ1_.1) ?_
            refine wi_i1 hc rfl rfl ?_
            refine wi_i1 hc rfl rfl ?_
            have hat := shF_at hB (b := b) (by omega) (by omega) (by omega)
            rw [← hx] at hat
            obtain ⟨s2_, hE2_, hF2_, hc2_⟩ := sp_25 (d := 0) (L := L) (t := t) (l := l) hC1_ (cF_01 A T) (inS_shelf hB (x := x) (by omega) (by omega) : inS _ (shF A x) _) (by omega) (by omega) (k := A 1) (b := b) (m := n) (shF_inj hB (by omega) (by omega)) hat hb (by omega) (by omega)
            refine wp_cv (b := 590) (As := [.long (lI (rwE (shF A x) (A (13 + x)))), .int (iI (A (13 + x))), .int (iI (A 1)), .int (iI b), .int (iI n)]) (r := []) hc rfl (by rw [cm_25]; rfl) rfl (Nat.le_of_ble_eq_true rfl) (show 590 < 621 by decide) (by rw [cm_25]; rfl) (ev_mono hE2_ (by omega)) ?_
            have hcr : ∀ p, 0 ≤ (if p < (A (13 + x)) then ctN (cF A T) (A (13 + x)) (A 1) (shF A x) b p (n + 1).toNat else 0) ∧ (if p < (A (13 + x)) then ctN (cF A T) (A (13 + x)) (A 1) (shF A x) b p (n + 1).toNat else 0) ≤ 1000 := fun p => by have := ctN_r (cF A T) (A (13 + x)) (A 1) (shF A x) b p (n + 1).toNat; split <;> omega
            have hJ2_ : JC s2_ A T := hJ1_.of hV (fun e h1_ h2_ => hF2_ e (by omega)) (hF2_ 578 (by decide))
            show mm_wp _ _ (112, [some (.ref 0), some (.int (iI b)), some (.int (iI n)), some (.int (iI i)), some (.int (iI look)), some (.int (iI x))], [], MX L t s2_ l) _
            refine wi_i2 hc rfl rfl ?_
            refine wi_zeq hc rfl ⟨by omega, by omega⟩ (fun h6_ => ?_) (fun h6_ => ?_)
            · refine wi_a1 hc rfl rfl ?_
              refine wi_gr (w := 590) hc rfl rfl (by decide) (Nat.le_of_ble_eq_true rfl) rfl ?_
              refine wi_gr (w := 591) hc rfl rfl (by decide) (Nat.le_of_ble_eq_true rfl) rfl ?_
              refine wi_i1 hc rfl rfl ?_
              refine wi_ildv (N := 10) hc rfl rfl (by decide) (by decide) (by omega) (by omega) (v := (if i < (A (13 + x)) then ctN (cF A T) (A (13 + x)) (A 1) (shF A x) b i (n + 1).toNat else 0)) (hc2_ _ (by omega) (by omega)) ?_
              refine wi_ri hc rfl (by rw [cm_115]; rfl) ?_
              have hR0 : catP A T b n i look = (if look = 1 then lkA (fun p => ctN (cF A T) (A (13 + x)) (A 1) (shF A x) b p (n + 1).toNat) (A (13 + x)) i else ctN (cF A T) (A (13 + x)) (A 1) (shF A x) b i (n + 1).toNat) := by
                unfold catP
                rw [← hx, if_pos ⟨⟨by omega, by omega⟩, by omega, by omega, by omega⟩]
              have hR : catP A T b n i look = (if i < (A (13 + x)) then ctN (cF A T) (A (13 + x)) (A 1) (shF A x) b i (n + 1).toNat else 0) := by
                rw [hR0, if_neg (by omega), if_pos (by omega)]
              rw [hR]
              exact ⟨s2_, rfl, fun c hc9_ => (hF2_ c (by omega)).trans (hF1_ c (by omega)), hJ2_⟩
            · refine wi_a1 hc rfl rfl ?_
              refine wi_gr (w := 590) hc rfl rfl (by decide) (Nat.le_of_ble_eq_true rfl) rfl ?_
              refine wi_a1 hc rfl rfl ?_
              refine wi_gr (w := 1) hc rfl rfl (by decide) (Nat.le_of_ble_eq_true rfl) rfl ?_
              refine wi_gr (w := 2) hc rfl rfl (by decide) (Nat.le_of_ble_eq_true rfl) rfl ?_
              refine wi_gr (w := 7) hc rfl rfl (by decide) (Nat.le_of_ble_eq_true rfl) rfl ?_
              refine wi_i2 hc rfl rfl ?_
              refine wi_ildv (N := 3) hc rfl rfl (by decide) (by decide) (by omega) (by omega) (v := A (13 + x)) (lb_many hJ2_.1 (by omega) (by omega)) ?_
              refine wi_i1 hc rfl rfl ?_
              refine wp_cv (b := 590) (As := [.int (iI (A (13 + x))), .int (iI i)]) (r := []) hc rfl (by rw [cm_26]; rfl) rfl (Nat.le_of_ble_eq_true rfl) (show 590 < 621 by decide) (by rw [cm_26]; rfl) (ev_mono (sp_26 (d := 0) (g := fun p => (if p < (A (13 + x)) then ctN (cF A T) (A (13 + x)) (A 1) (shF A x) b p (n + 1).toNat else 0)) (n := A (13 + x)) (i := i) hc2_ hcr (by omega) (by omega) hi) (by omega)) ?_
              show mm_wp _ _ (138, [some (.ref 0), some (.int (iI b)), some (.int (iI n)), some (.int (iI i)), some (.int (iI look)), some (.int (iI x))], [.int (iI (lkA (fun p => (if p < (A (13 + x)) then ctN (cF A T) (A (13 + x)) (A 1) (shF A x) b p (n + 1).toNat else 0)) (A (13 + x)) i))], MX L t s2_ l) _
              refine wi_go hc rfl ?_
              refine wi_ri hc rfl (by rw [cm_115]; rfl) ?_
              have hR0 : catP A T b n i look = (if look = 1 then lkA (fun p => ctN (cF A T) (A (13 + x)) (A 1) (shF A x) b p (n + 1).toNat) (A (13 + x)) i else ctN (cF A T) (A (13 + x)) (A 1) (shF A x) b i (n + 1).toNat) := by
                unfold catP
                rw [← hx, if_pos ⟨⟨by omega, by omega⟩, by omega, by omega, by omega⟩]
              have hR : catP A T b n i look = lkA (fun p => (if p < (A (13 + x)) then ctN (cF A T) (A (13 + x)) (A 1) (shF A x) b p (n + 1).toNat else 0)) (A (13 + x)) i := by
                rw [hR0, if_pos (by omega)]
                exact lkA_congr (fun p p0 p1 => (if_pos p1).symm)
              rw [hR]
              exact ⟨s2_, rfl, fun c hc9_ => (hF2_ c (by omega)).trans (hF1_ c (by omega)), hJ2_⟩
          · refine wi_ic hc rfl ?_
            refine wi_ri hc rfl (by rw [cm_115]; rfl) ?_
            have hR : catP A T b n i look = -1 := by unfold catP; rw [if_neg (by rw [← hx]; omega)]
            rw [hR]
            exact ⟨s, rfl, fun c _ => rfl, hJ⟩
        · refine wi_ic hc rfl ?_
          refine wi_ri hc rfl (by rw [cm_115]; rfl) ?_
          have hR : catP A T b n i look = -1 := by unfold catP; rw [if_neg (by omega)]
          rw [hR]
          exact ⟨s, rfl, fun c _ => rfl, hJ⟩
theorem sp_275 {d L t : Nat} {s l : Nat → Int → Int} {A T : Int → Int} (hJ : JM s A T) (hK : KA A T) {b n i look : Int} (hb : rI b) (hn : rI n) (hi : rI i) (hl : look = 0 ∨ look = 1) : ∃ s1 l1, mm_Ev mm_ct mm_CM (d + 9) 275 [.ref 598, .int (iI b), .int (iI n), .int (iI i), .int (iI look)] (MX L t s l) (some (.int (iI (catP A T b n i look))), MX L t s1 l1) ∧ (∀ c, c ≠ 598 ∧ c ≠ 604 ∧ c ≠ 606 ∧ c ≠ 607 ∧ c ≠ 608 ∧ c ≠ 619 → s1 c = s c) ∧ (∀ c, c ≠ 605 → l1 c = l c) ∧ (∀ k, k ≠ 28 → s1 598 k = s 598 k) ∧ JM s1 A T := by
  have hc : (mm_CM 275).2.2.2.2.2.2.2 = mm_cf cd_275 := by rw [cm_275]; rfl
  refine ev_xsl ?_
  refine ev_to (mx := 9) (by rw [cm_275]; decide) (by rw [cm_275]; rfl) (by show 5 ≤ _; decide) ?_
  show mm_wp _ _ (0, [some (.ref 598), some (.int (iI b)), some (.int (iI n)), some (.int (iI i)), some (.int (iI look)), none, none, none, none], [], MX L t s l) (fun res => ∃ s1 l1, res = (some (.int (iI (catP A T b n i look))), MX L t s1 l1) ∧ (∀ c, c ≠ 598 ∧ c ≠ 604 ∧ c ≠ 606 ∧ c ≠ 607 ∧ c ≠ 608 ∧ c ≠ 619 → s1 c = s c) ∧ (∀ c, c ≠ 605 → l1 c = l c) ∧ (∀ k, k ≠ 28 → s1 598 k = s 598 k) ∧ JM s1 A T)
  have hV := hK.1
  have hB := hK.2.1
  have g0 := hB.1
  have h1 := hK.2.2.1.1
  refine wi_a1 hc rfl rfl ?_
  refine wi_i1 hc rfl rfl ?_
  refine wp_cv (b := 598) (As := [.int (iI b)]) (r := []) hc rfl (by rw [cm_156]; rfl) rfl (Nat.le_of_ble_eq_true rfl) (show 598 < 621 by decide) (by rw [cm_156]; rfl) (ev_mono (sp_156 (d := 0) hJ hK.2.1 hb) (by omega)) ?_
  show mm_wp _ _ (5, [some (.ref 598), some (.int (iI b)), some (.int (iI n)), some (.int (iI i)), some (.int (iI look)), none, none, none, none], [.int (iI (bI ((0 ≤ b ∧ b < A 0) ∧ A (46 + 6 * b + 5) < 3)))], MX L t s l) _
  refine wi_beq hc rfl (fun h1_ => ?_) (fun h1_ => ?_)
  · refine wi_ic hc rfl ?_
    refine wi_ri hc rfl (by rw [cm_275]; rfl) ?_
    have hR : catP A T b n i look = -1 := by unfold catP; rw [if_neg (by omega)]
    rw [hR]
    exact ⟨s, l, rfl, fun c _ => rfl, fun c _ => rfl, fun k _ => rfl, hJ⟩
  · refine wi_i1 hc rfl rfl ?_
    refine wi_ic hc rfl ?_
    refine wi_bi hc rfl rfl ?_
    refine wp_cs (As := [.int (iI n), .int (iI 0), .int (iI 99)]) (r := []) hc rfl (by rw [cm_148]; rfl) rfl (Nat.le_of_ble_eq_true rfl) (ev_mono (sp_148 (d := 0) hn ⟨by decide, by decide⟩ ⟨by decide, by decide⟩) (by omega)) ?_
    show mm_wp _ _ (15, [some (.ref 598), some (.int (iI b)), some (.int (iI n)), some (.int (iI i)), some (.int (iI look)), none, none, none, none], [.int (iI (bI (0 ≤ n ∧ n ≤ 99)))], MX L t s l) _
    refine wi_bne hc rfl (fun h2_ => ?_) (fun h2_ => ?_)
    · have gw0 := (hB.2.2.2.2 b (by omega) (by omega)).1
      refine wi_a1 hc rfl rfl ?_
      refine wi_i1 hc rfl rfl ?_
      refine wi_ic hc rfl ?_
      refine wp_cv (b := 598) (As := [.int (iI b), .int (iI 5)]) (r := []) hc rfl (by rw [cm_153]; rfl) rfl (Nat.le_of_ble_eq_true rfl) (show 598 < 621 by decide) (by rw [cm_153]; rfl) (ev_mono (sg_153 (d := 0) (hJ.1) (by omega) (by omega) (by omega) (by omega)) (by omega)) ?_
      show mm_wp _ _ (26, [some (.ref 598), some (.int (iI b)), some (.int (iI n)), some (.int (iI i)), some (.int (iI look)), none, none, none, none], [.int (iI (A (46 + 6 * b + 5)))], MX L t s l) _
      obtain ⟨x, hx⟩ : ∃ x9, x9 = A (46 + 6 * b + 5) := ⟨_, rfl⟩
      rw [← hx]
      have gw := (hB.2.2.2.2 b (by omega) (by omega)).1
      have gm := hB.2.1 x (by omega) (by omega)
      refine wi_is2 (L' := [some (.ref 598), some (.int (iI b)), some (.int (iI n)), some (.int (iI i)), some (.int (iI look)), some (.int (iI x)), none, none, none]) hc rfl (Nat.le_of_ble_eq_true rfl) rfl ?_
      refine wi_i1 hc rfl rfl ?_
      refine wi_ic hc rfl ?_
      refine wi_a1 hc rfl rfl ?_
      refine wi_gr (w := 599) hc rfl rfl (by decide) (Nat.le_of_ble_eq_true rfl) rfl ?_
      refine wi_bi hc rfl rfl ?_
      refine wi_i2 hc rfl rfl ?_
      refine wi_add hc rfl ?_
      refine wi_ildv (N := 3642) hc rfl rfl (by decide) (by decide) (by omega) (by omega) (v := A (13 + x)) (congrFun (hJ.1) _) ?_
      refine wi_ic hc rfl ?_
      refine wi_sub hc rfl ?_
      refine wp_cs (As := [.int (iI i), .int (iI 0), .int (iI ((A (13 + x)) - 1))]) (r := []) hc rfl (by rw [cm_148]; rfl) rfl (Nat.le_of_ble_eq_true rfl) (ev_mono (sp_148 (d := 0) hi ⟨by decide, by decide⟩ ⟨by omega, by omega⟩) (by omega)) ?_
      show mm_wp _ _ (45, [some (.ref 598), some (.int (iI b)), some (.int (iI n)), some (.int (iI i)), some (.int (iI look)), some (.int (iI x)), none, none, none], [.int (iI (bI (0 ≤ i ∧ i ≤ (A (13 + x)) - 1)))], MX L t s l) _
      refine wi_bne hc rfl (fun h3_ => ?_) (fun h3_ => ?_)
      · refine wi_a1 hc rfl rfl ?_
        refine wi_i2 hc rfl rfl ?_
        refine wi_ic hc rfl ?_
        obtain ⟨s1_, l1_, hE1_, hF1_, hG1_, hf1_, hJ1_, hC1_, hn1_, hr1_⟩ := sp_240 (d := 0) (L := L) (t := t) (l := l) hJ hK (x := x) (w := (-1)) (jq := A (13 + x)) (by omega) (by omega) (rI_of (by omega) (by omega)) (by omega) (fun p p0 p1 => ⟨fun q => by have := (hB.2.2.1 x p (by omega) (by omega) p0 p1).1; omega, fun q => by omega⟩)
        refine wp_cv (b := 598) (As := [.int (iI x), .int (iI (-1))]) (r := []) hc rfl (by rw [cm_240]; rfl) rfl (Nat.le_of_ble_eq_true rfl) (show 598 < 621 by decide) (by rw [cm_240]; rfl) (ev_mono hE1_ (by omega)) ?_
        show mm_wp _ _ (57, [some (.ref 598), some (.int (iI b)), some (.int (iI n)), some (.int (iI i)), some (.int (iI look)), some (.int (iI x)), none, none, none], [], MX L t s1_ l1_) _
        obtain ⟨hn9_, hr9_⟩ := row_all (T := T) (by omega) (by omega) hn1_ hr1_
        have hfA : ∀ p, 0 ≤ p → p < A (13 + x) → 0 ≤ shF A x p ∧ shF A x p < A 0 := fun p p0 p1 => ⟨(hB.2.2.1 x p (by omega) (by omega) p0 p1).1, (hB.2.2.1 x p (by omega) (by omega) p0 p1).2.1⟩
        refine wi_ic hc rfl ?_
        refine wi_is2 (L' := [some (.ref 598), some (.int (iI b)), some (.int (iI n)), some (.int (iI i)), some (.int (iI look)), some (.int (iI x)), some (.int (iI 0)), none, none]) hc rfl (Nat.le_of_ble_eq_true rfl) rfl ?_
        have loop60_ : ∀ e : Int, e ≤ 10 → 0 ≤ e → ∀ s2 : Nat → Int → Int, (∀ c, c ≠ 619 → s2 c = s1_ c) → (∀ p, 0 ≤ p → p < e → s2 619 p = 0) → mm_wp (mm_Ev mm_ct mm_CM (d + 8)) 275 (60, [some (.ref 598), some (.int (iI b)), some (.int (iI n)), some (.int (iI i)), some (.int (iI look)), some (.int (iI x)), some (.int (iI e)), none, none], [], MX L t s2 l1_) (fun res => ∃ s1 l1, res = (some (.int (iI (catP A T b n i look))), MX L t s1 l1) ∧ (∀ c, c ≠ 598 ∧ c ≠ 604 ∧ c ≠ 606 ∧ c ≠ 607 ∧ c ≠ 608 ∧ c ≠ 619 → s1 c = s c) ∧ (∀ c, c ≠ 605 → l1 c = l c) ∧ (∀ k, k ≠ 28 → s1 598 k = s 598 k) ∧ JM s1 A T) := by
          refine up_ind ?_
          intro e he9 ihe e0 s2 hF2 hz2
          refine wi_i2 hc rfl rfl ?_
          refine wi_bi hc rfl rfl ?_
          refine wi_cge hc rfl ⟨by omega, by omega⟩ ⟨by decide, by decide⟩ (fun h4_ => ?_) (fun h4_ => ?_)
          · refine wi_ic hc rfl ?_
            refine wi_is2 (L' := [some (.ref 598), some (.int (iI b)), some (.int (iI n)), some (.int (iI i)), some (.int (iI look)), some (.int (iI x)), some (.int (iI 0)), none, none]) hc rfl (Nat.le_of_ble_eq_true rfl) rfl ?_
            have loop84_ : ∀ u : Int, u ≤ n + 1 → 0 ≤ u → ∀ (o7 : Option Value) (s3 : Nat → Int → Int), (∀ c, c ≠ 608 ∧ c ≠ 619 → s3 c = s1_ c) → (∀ p, 0 ≤ p → p < (A (13 + x)) → s3 608 p = stF (cF A T) (A (13 + x)) (A 1) (shF A x) u.toNat p) → (∀ p, 0 ≤ p → p < 10 → s3 619 p = (if p < (A (13 + x)) then ctN (cF A T) (A (13 + x)) (A 1) (shF A x) b p u.toNat else 0)) → mm_wp (mm_Ev mm_ct mm_CM (d + 8)) 275 (84, [some (.ref 598), some (.int (iI b)), some (.int (iI n)), some (.int (iI i)), some (.int (iI look)), some (.int (iI x)), some (.int (iI u)), o7, none], [], MX L t s3 l1_) (fun res => ∃ s1 l1, res = (some (.int (iI (catP A T b n i look))), MX L t s1 l1) ∧ (∀ c, c ≠ 598 ∧ c ≠ 604 ∧ c ≠ 606 ∧ c ≠ 607 ∧ c ≠ 608 ∧ c ≠ 619 → s1 c = s c) ∧ (∀ c, c ≠ 605 → l1 c = l c) ∧ (∀ k, k ≠ 28 → s1 598 k = s 598 k) ∧ JM s1 A T) := by
              refine up_ind ?_
              intro u hu9 ihu u0 o7 s3 hF3 hr3 hz3
              have hC3 : CHm s3 (cF A T) (A 0) := hC1_.of (hF3 607 (by decide))
              have hn3 : s3 598 28 = A (13 + x) := (congrFun (hF3 598 (by decide)) _).trans hn9_
              have hf3 : ∀ p, 0 ≤ p → p < A (13 + x) → 0 ≤ stF (cF A T) (A (13 + x)) (A 1) (shF A x) u.toNat p ∧ stF (cF A T) (A (13 + x)) (A 1) (shF A x) u.toNat p < A 0 := stF_all (P := fun v => 0 ≤ v ∧ v < A 0) hfA u.toNat
              refine wi_i2 hc rfl rfl ?_
              refine wi_i1 hc rfl rfl ?_
              refine wi_cgt hc rfl ⟨by omega, by omega⟩ hn (fun h5_ => ?_) (fun h5_ => ?_)
              · skip
                have eu : u = n + 1 := by omega
                have hg3 : ∀ p, 0 ≤ p → p < (A (13 + x)) → s3 619 p = ctN (cF A T) (A (13 + x)) (A 1) (shF A x) b p (n + 1).toNat := fun p p0 p1 => by rw [hz3 p p0 (by omega), if_pos p1, eu]
                have hgr : ∀ p, 0 ≤ ctN (cF A T) (A (13 + x)) (A 1) (shF A x) b p (n + 1).toNat ∧ ctN (cF A T) (A (13 + x)) (A 1) (shF A x) b p (n + 1).toNat ≤ 1000 := fun p => by have := ctN_r (cF A T) (A (13 + x)) (A 1) (shF A x) b p (n + 1).toNat; omega
                refine wi_i2 hc rfl rfl ?_
                refine wi_zne hc rfl ⟨by omega, by omega⟩ (fun h6_ => ?_) (fun h6_ => ?_)
                · refine wi_ic hc rfl ?_
                  refine wi_is2 (L' := [some (.ref 598), some (.int (iI b)), some (.int (iI n)), some (.int (iI i)), some (.int (iI look)), some (.int (iI x)), some (.int (iI (-1))), o7, none]) hc rfl (Nat.le_of_ble_eq_true rfl) rfl ?_
                  refine wi_ic hc rfl ?_
                  refine wi_is2 (L' := [some (.ref 598), some (.int (iI b)), some (.int (iI n)), some (.int (iI i)), some (.int (iI look)), some (.int (iI x)), some (.int (iI (-1))), some (.int (iI 0)), none]) hc rfl (Nat.le_of_ble_eq_true rfl) rfl ?_
                  have loop173_ : ∀ y : Int, y ≤ i + 1 → 0 ≤ y → ∀ (m : Int) (o8 : Option Value) (s5 : Nat → Int → Int), (∀ c, c ≠ 619 → s5 c = s3 c) → (∀ p, 0 ≤ p → p < (A (13 + x)) → s5 619 p = lfF (fun p => ctN (cF A T) (A (13 + x)) (A 1) (shF A x) b p (n + 1).toNat) (A (13 + x)) (if y = 0 then 0 else y - 1) p) → (0 < y → isMx (s5 619) (A (13 + x)) m) → mm_wp (mm_Ev mm_ct mm_CM (d + 8)) 275 (173, [some (.ref 598), some (.int (iI b)), some (.int (iI n)), some (.int (iI i)), some (.int (iI look)), some (.int (iI x)), some (.int (iI m)), some (.int (iI y)), o8], [], MX L t s5 l1_) (fun res => ∃ s1 l1, res = (some (.int (iI (catP A T b n i look))), MX L t s1 l1) ∧ (∀ c, c ≠ 598 ∧ c ≠ 604 ∧ c ≠ 606 ∧ c ≠ 607 ∧ c ≠ 608 ∧ c ≠ 619 → s1 c = s c) ∧ (∀ c, c ≠ 605 → l1 c = l c) ∧ (∀ k, k ≠ 28 → s1 598 k = s 598 k) ∧ JM s1 A T) := by
                    refine up_ind ?_
                    intro y hy9 ihy y0 m o8 s5 hF5 hz5 hm5
                    refine wi_i2 hc rfl rfl ?_
                    refine wi_i1 hc rfl rfl ?_
                    refine wi_cgt hc rfl ⟨by omega, by omega⟩ hi (fun h7_ => ?_) (fun h7_ => ?_)
                    · have mx5 := (hm5 (by omega)).1
                      have a4 : 0 ≤ s5 619 m ∧ s5 619 m ≤ 1000 := by
                        rw [hz5 m mx5.1 mx5.2]
                        have := hgr m
                        unfold lfF
                        dsimp only
                        split <;> omega
                      refine wi_a1 hc rfl rfl ?_
                      refine wi_gr (w := 619) hc rfl rfl (by decide) (Nat.le_of_ble_eq_true rfl) rfl ?_
                      refine wi_i2 hc rfl rfl ?_
                      refine wi_ild (N := 10) hc rfl rfl (by decide) (by decide) (by omega) (by omega) ?_
                      refine wi_zle hc rfl ⟨by omega, by omega⟩ (fun h8_ => ?_) (fun h8_ => ?_)
                      · refine wi_ic hc rfl ?_
                        refine wi_ri hc rfl (by rw [cm_275]; rfl) ?_
                        have hR0 : catP A T b n i look = (if look = 1 then lkA (fun p => ctN (cF A T) (A (13 + x)) (A 1) (shF A x) b p (n + 1).toNat) (A (13 + x)) i else ctN (cF A T) (A (13 + x)) (A 1) (shF A x) b i (n + 1).toNat) := by
                          unfold catP
                          rw [← hx, if_pos ⟨⟨by omega, by omega⟩, by omega, by omega, by omega⟩]
                        have ey : y = i + 1 := by omega
                        have hle := lf_end (g := (fun p => ctN (cF A T) (A (13 + x)) (A 1) (shF A x) b p (n + 1).toNat)) (h := s5 619) (n := (A (13 + x))) (k := i) (m := m) (fun p _ _ => (hgr p).1) (fun p p0 p1 => by rw [hz5 p p0 p1, if_neg (by omega), ey, show i + 1 - 1 = i by omega]) (hm5 (by omega)) (by omega) (by omega)
                        have hR : catP A T b n i look = (-1) := by
                          rw [hR0, if_pos (by omega), hle, if_neg (by omega)]
                        rw [hR]
                        exact ⟨s5, l1_, rfl, fun c hc9_ => (hF5 c (by omega)).trans ((hF3 c (by omega)).trans (hF1_ c (by omega))), fun c hc9_ => hG1_ c (by omega), fun k k9 => (congrFun ((hF5 598 (by decide)).trans (hF3 598 (by decide))) k).trans (hf1_ k k9), hJ1_.of ((hF5 599 (by decide)).trans (hF3 599 (by decide))) ((hF5 601 (by decide)).trans (hF3 601 (by decide))) ((hF5 604 (by decide)).trans (hF3 604 (by decide)))⟩
                      · refine wi_i2 hc rfl rfl ?_
                        refine wi_go hc rfl ?_
                        refine wi_ri hc rfl (by rw [cm_275]; rfl) ?_
                        have hR0 : catP A T b n i look = (if look = 1 then lkA (fun p => ctN (cF A T) (A (13 + x)) (A 1) (shF A x) b p (n + 1).toNat) (A (13 + x)) i else ctN (cF A T) (A (13 + x)) (A 1) (shF A x) b i (n + 1).toNat) := by
                          unfold catP
                          rw [← hx, if_pos ⟨⟨by omega, by omega⟩, by omega, by omega, by omega⟩]
                        have ey : y = i + 1 := by omega
                        have hle := lf_end (g := (fun p => ctN (cF A T) (A (13 + x)) (A 1) (shF A x) b p (n + 1).toNat)) (h := s5 619) (n := (A (13 + x))) (k := i) (m := m) (fun p _ _ => (hgr p).1) (fun p p0 p1 => by rw [hz5 p p0 p1, if_neg (by omega), ey, show i + 1 - 1 = i by omega]) (hm5 (by omega)) (by omega) (by omega)
                        have hR : catP A T b n i look = m := by
                          rw [hR0, if_pos (by omega), hle, if_pos (by omega)]
                        rw [hR]
                        exact ⟨s5, l1_, rfl, fun c hc9_ => (hF5 c (by omega)).trans ((hF3 c (by omega)).trans (hF1_ c (by omega))), fun c hc9_ => hG1_ c (by omega), fun k k9 => (congrFun ((hF5 598 (by decide)).trans (hF3 598 (by decide))) k).trans (hf1_ k k9), hJ1_.of ((hF5 599 (by decide)).trans (hF3 599 (by decide))) ((hF5 601 (by decide)).trans (hF3 601 (by decide))) ((hF5 604 (by decide)).trans (hF3 604 (by decide)))⟩
                    · refine wi_i2 hc rfl rfl ?_
                      have join192_ : ∀ s6 : Nat → Int → Int, (∀ c, c ≠ 619 → s6 c = s3 c) → (∀ p, 0 ≤ p → p < (A (13 + x)) → s6 619 p = lfF (fun p => ctN (cF A T) (A (13 + x)) (A 1) (shF A x) b p (n + 1).toNat) (A (13 + x)) y p) → mm_wp (mm_Ev mm_ct mm_CM (d + 8)) 275 (192, [some (.ref 598), some (.int (iI b)), some (.int (iI n)), some (.int (iI i)), some (.int (iI look)), some (.int (iI x)), some (.int (iI m)), some (.int (iI y)), o8], [], MX L t s6 l1_) (fun res => ∃ s1 l1, res = (some (.int (iI (catP A T b n i look))), MX L t s1 l1) ∧ (∀ c, c ≠ 598 ∧ c ≠ 604 ∧ c ≠ 606 ∧ c ≠ 607 ∧ c ≠ 608 ∧ c ≠ 619 → s1 c = s c) ∧ (∀ c, c ≠ 605 → l1 c = l c) ∧ (∀ k, k ≠ 28 → s1 598 k = s 598 k) ∧ JM s1 A T) := by
                        intro s6 hF6 hz6
                        have hb6 : ∀ p, 0 ≤ p → p < (A (13 + x)) → 0 ≤ s6 619 p ∧ s6 619 p ≤ 1000 := fun p p0 p1 => by rw [hz6 p p0 p1]; have := hgr p; unfold lfF; split <;> omega
                        refine wi_ic hc rfl ?_
                        refine wi_is2 (L' := [some (.ref 598), some (.int (iI b)), some (.int (iI n)), some (.int (iI i)), some (.int (iI look)), some (.int (iI x)), some (.int (iI 0)), some (.int (iI y)), o8]) hc rfl (Nat.le_of_ble_eq_true rfl) rfl ?_
                        refine wi_ic hc rfl ?_
                        refine wi_is2 (L' := [some (.ref 598), some (.int (iI b)), some (.int (iI n)), some (.int (iI i)), some (.int (iI look)), some (.int (iI x)), some (.int (iI 0)), some (.int (iI y)), some (.int (iI 1))]) hc rfl (Nat.le_of_ble_eq_true rfl) rfl ?_
                        have loop198_ : ∀ p8 : Int, p8 ≤ (A (13 + x)) → 1 ≤ p8 → ∀ q8 : Int, 0 ≤ q8 → q8 < p8 → (∀ p, 0 ≤ p → p < p8 → s6 619 p ≤ s6 619 q8 ∧ (p < q8 → s6 619 p < s6 619 q8)) → mm_wp (mm_Ev mm_ct mm_CM (d + 8)) 275 (198, [some (.ref 598), some (.int (iI b)), some (.int (iI n)), some (.int (iI i)), some (.int (iI look)), some (.int (iI x)), some (.int (iI q8)), some (.int (iI y)), some (.int (iI p8))], [], MX L t s6 l1_) (fun res => ∃ s1 l1, res = (some (.int (iI (catP A T b n i look))), MX L t s1 l1) ∧ (∀ c, c ≠ 598 ∧ c ≠ 604 ∧ c ≠ 606 ∧ c ≠ 607 ∧ c ≠ 608 ∧ c ≠ 619 → s1 c = s c) ∧ (∀ c, c ≠ 605 → l1 c = l c) ∧ (∀ k, k ≠ 28 → s1 598 k = s 598 k) ∧ JM s1 A T) := by
                          refine up_ind ?_
                          intro p8 hp8 ihp p81 q8 q80 q81 hq8
                          refine wi_i2 hc rfl rfl ?_
                          refine wi_a1 hc rfl rfl ?_
                          refine wi_gfv (kz := 28) rfl hc rfl rfl (by decide) (Nat.le_of_ble_eq_true rfl) rfl (v := s1_ 598 28) ((congrFun (hF6 598 (by decide)) _).trans (congrFun (hF3 598 (by decide)) _)) ?_
                          refine wi_cge hc rfl ⟨by omega, by omega⟩ ⟨by omega, by omega⟩ (fun h9_ => ?_) (fun h9_ => ?_)
                          · refine wi_inc (L' := [some (.ref 598), some (.int (iI b)), some (.int (iI n)), some (.int (iI i)), some (.int (iI look)), some (.int (iI x)), some (.int (iI q8)), some (.int (iI (y + 1))), some (.int (iI p8))]) hc rfl rfl rfl ?_
                            refine wi_go hc rfl ?_
                            refine ihy (by omega) (by omega) q8 _ s6 hF6 (fun p p0 p1 => by rw [hz6 p p0 p1, if_neg (by omega), show y + 1 - 1 = y by omega]) (fun _ => ⟨⟨by omega, by omega⟩, fun p p0 p1 => (hq8 p p0 (by omega)).1, fun p p0 p1 => (hq8 p p0 (by omega)).2 p1⟩)
                          · have a1 := hb6 p8 (by omega) (by omega)
                            have a2 := hb6 q8 (by omega) (by omega)
                            refine wi_a1 hc rfl rfl ?_
                            refine wi_gr (w := 619) hc rfl rfl (by decide) (Nat.le_of_ble_eq_true rfl) rfl ?_
                            refine wi_i2 hc rfl rfl ?_
                            refine wi_ild (N := 10) hc rfl rfl (by decide) (by decide) (by omega) (by omega) ?_
                            refine wi_a1 hc rfl rfl ?_
                            refine wi_gr (w := 619) hc rfl rfl (by decide) (Nat.le_of_ble_eq_true rfl) rfl ?_
                            refine wi_i2 hc rfl rfl ?_
                            refine wi_ild (N := 10) hc rfl rfl (by decide) (by decide) (by omega) (by omega) ?_
                            refine wi_cle hc rfl ⟨by omega, by omega⟩ ⟨by omega, by omega⟩ (fun h10_ => ?_) (fun h10_ => ?_)
                            · refine wi_inc (L' := [some (.ref 598), some (.int (iI b)), some (.int (iI n)), some (.int (iI i)), some (.int (iI look)), some (.int (iI x)), some (.int (iI q8)), some (.int (iI y)), some (.int (iI (p8 + 1)))]) hc rfl rfl rfl ?_
                              refine wi_go hc rfl ?_
                              refine ihp (by omega) (by omega) q8 (by omega) (by omega) (fun p p0 p1 => ?_)
                              by_cases z9 : p = p8
                              · rw [z9]; omega
                              · have := hq8 p p0 (by omega)
                                omega
                            · refine wi_i2 hc rfl rfl ?_
                              refine wi_is2 (L' := [some (.ref 598), some (.int (iI b)), some (.int (iI n)), some (.int (iI i)), some (.int (iI look)), some (.int (iI x)), some (.int (iI p8)), some (.int (iI y)), some (.int (iI p8))]) hc rfl (Nat.le_of_ble_eq_true rfl) rfl ?_
                              refine wi_inc (L' := [some (.ref 598), some (.int (iI b)), some (.int (iI n)), some (.int (iI i)), some (.int (iI look)), some (.int (iI x)), some (.int (iI p8)), some (.int (iI y)), some (.int (iI (p8 + 1)))]) hc rfl rfl rfl ?_
                              refine wi_go hc rfl ?_
                              refine ihp (by omega) (by omega) p8 (by omega) (by omega) (fun p p0 p1 => ?_)
                              by_cases z9 : p = p8
                              · rw [z9]; omega
                              · have := hq8 p p0 (by omega)
                                omega
                        refine loop198_ 1 (by omega) (by omega) 0 (by omega) (by omega) (fun p p0 p1 => ?_)
                        rw [show p = 0 by omega]
                        omega
                      refine wi_zle hc rfl ⟨by omega, by omega⟩ (fun h11_ => ?_) (fun h11_ => ?_)
                      · refine join192_ s5 hF5 (fun p p0 p1 => ?_)
                        rw [hz5 p p0 p1, if_pos (by omega), show y = 0 by omega]
                      · have mx5 := (hm5 (by omega)).1
                        refine wi_a1 hc rfl rfl ?_
                        refine wi_gr (w := 619) hc rfl rfl (by decide) (Nat.le_of_ble_eq_true rfl) rfl ?_
                        refine wi_i2 hc rfl rfl ?_
                        refine wi_ic hc rfl ?_
                        refine wi_ist (N := 10) hc rfl rfl (by decide) (by decide) (by omega) (by omega) ?_
                        obtain ⟨s2_, es2_⟩ : ∃ q, q = up s5 619 m 0 := ⟨_, rfl⟩
                        rw [← es2_]
                        refine join192_ s2_ (fun c hc9_ => ((congrFun es2_ c).trans (up_cc (by omega))).trans (hF5 c (by omega))) (fun p p0 p1 => ?_)
                        have hn := lf_next (g := (fun p => ctN (cF A T) (A (13 + x)) (A 1) (shF A x) b p (n + 1).toNat)) (h := s5 619) (h' := s2_ 619) (n := (A (13 + x))) (k := y - 1) (m := m) (fun p _ _ => (hgr p).1) (fun p p0 p1 => by rw [hz5 p p0 p1, if_neg (by omega)]) (hm5 (by omega)) (by omega) (by omega) (fun p => by rw [es2_, up_ite]) p p0 p1
                        rwa [show y - 1 + 1 = y by omega] at hn
                  refine loop173_ 0 (by omega) (by omega) (-1) _ s3 (fun c _ => rfl) (fun p p0 p1 => ?_) (fun q => by omega)
                  rw [hg3 p p0 p1]
                  unfold lfF
                  rw [if_neg (by have := (ahN_r (fun p => ctN (cF A T) (A (13 + x)) (A 1) (shF A x) b p (n + 1).toNat) p (A (13 + x)).toNat).1; rw [if_pos rfl]; omega)]
                · have a3 := hg3 i (by omega) (by omega)
                  refine wi_a1 hc rfl rfl ?_
                  refine wi_gr (w := 619) hc rfl rfl (by decide) (Nat.le_of_ble_eq_true rfl) rfl ?_
                  refine wi_i1 hc rfl rfl ?_
                  refine wi_ild (N := 10) hc rfl rfl (by decide) (by decide) (by omega) (by omega) ?_
                  refine wi_ri hc rfl (by rw [cm_275]; rfl) ?_
                  have hR0 : catP A T b n i look = (if look = 1 then lkA (fun p => ctN (cF A T) (A (13 + x)) (A 1) (shF A x) b p (n + 1).toNat) (A (13 + x)) i else ctN (cF A T) (A (13 + x)) (A 1) (shF A x) b i (n + 1).toNat) := by
                    unfold catP
                    rw [← hx, if_pos ⟨⟨by omega, by omega⟩, by omega, by omega, by omega⟩]
                  have hR : catP A T b n i look = s3 619 i := by
                    rw [hR0, if_neg (by omega), hg3 i (by omega) (by omega)]
                  rw [hR]
                  exact ⟨s3, l1_, rfl, fun c hc9_ => (hF3 c (by omega)).trans (hF1_ c (by omega)), fun c hc9_ => hG1_ c (by omega), fun k k9 => (congrFun (hF3 598 (by decide)) k).trans (hf1_ k k9), hJ1_.of (hF3 599 (by decide)) (hF3 601 (by decide)) (hF3 604 (by decide))⟩
              · refine wi_ic hc rfl ?_
                refine wi_is2 (L' := [some (.ref 598), some (.int (iI b)), some (.int (iI n)), some (.int (iI i)), some (.int (iI look)), some (.int (iI x)), some (.int (iI u)), some (.int (iI 0)), none]) hc rfl (Nat.le_of_ble_eq_true rfl) rfl ?_
                have loop93_ : ∀ j : Int, j ≤ (A (13 + x)) → 0 ≤ j → ∀ s4 : Nat → Int → Int, (∀ c, c ≠ 619 → s4 c = s3 c) → (∀ p, 0 ≤ p → p < 10 → s4 619 p = (if p < (A (13 + x)) then (if p < j then ctN (cF A T) (A (13 + x)) (A 1) (shF A x) b p (u + 1).toNat else ctN (cF A T) (A (13 + x)) (A 1) (shF A x) b p u.toNat) else 0)) → mm_wp (mm_Ev mm_ct mm_CM (d + 8)) 275 (93, [some (.ref 598), some (.int (iI b)), some (.int (iI n)), some (.int (iI i)), some (.int (iI look)), some (.int (iI x)), some (.int (iI u)), some (.int (iI j)), none], [], MX L t s4 l1_) (fun res => ∃ s1 l1, res = (some (.int (iI (catP A T b n i look))), MX L t s1 l1) ∧ (∀ c, c ≠ 598 ∧ c ≠ 604 ∧ c ≠ 606 ∧ c ≠ 607 ∧ c ≠ 608 ∧ c ≠ 619 → s1 c = s c) ∧ (∀ c, c ≠ 605 → l1 c = l c) ∧ (∀ k, k ≠ 28 → s1 598 k = s 598 k) ∧ JM s1 A T) := by
                  refine up_ind ?_
                  intro j hj9 ihj j0 s4 hF4 hz4
                  refine wi_i2 hc rfl rfl ?_
                  refine wi_a1 hc rfl rfl ?_
                  refine wi_gfv (kz := 28) rfl hc rfl rfl (by decide) (Nat.le_of_ble_eq_true rfl) rfl (v := A (13 + x)) ((congrFun (hF4 598 (by decide)) _).trans hn3) ?_
                  refine wi_cge hc rfl ⟨by omega, by omega⟩ ⟨by omega, by omega⟩ (fun h12_ => ?_) (fun h12_ => ?_)
                  · refine wi_a1 hc rfl rfl ?_
                    refine wi_a1 hc rfl rfl ?_
                    refine wi_gr (w := 599) hc rfl rfl (by decide) (Nat.le_of_ble_eq_true rfl) rfl ?_
                    refine wi_ic hc rfl ?_
                    refine wi_ildv (N := 3642) hc rfl rfl (by decide) (by decide) (by omega) (by omega) (v := A 1) ((congrFun (hF4 599 (by decide)) _).trans ((congrFun (hF3 599 (by decide)) _).trans (congrFun (hJ1_.1) _))) ?_
                    refine wi_i2 hc rfl rfl ?_
                    refine wi_add hc rfl ?_
                    refine wi_ic hc rfl ?_
                    refine wi_remp hc rfl ⟨by omega, by omega⟩ ⟨by decide, by decide⟩ (by omega) (by omega) ?_
                    obtain ⟨s3_, hE3_, hF3_, hp3_⟩ := sp_243 (d := 0) (L := L) (t := t) (s := s4) (l := l1_) (hC3.of (hF4 607 (by decide))) (cF_01 A T) (fun p p0 p1 => (congrFun (hF4 608 (by decide)) p).trans (hr3 p p0 p1)) hf3 ((congrFun (hF4 598 (by decide)) _).trans hn3) (by omega) (by omega) (by omega) (k := (A 1 + u) % 2) (by omega) (by omega)
                    refine wp_cv (b := 598) (As := [.int (iI (((A 1) + u) % 2))]) (r := []) hc rfl (by rw [cm_243]; rfl) rfl (Nat.le_of_ble_eq_true rfl) (show 598 < 621 by decide) (by rw [cm_243]; rfl) (ev_mono hE3_ (by omega)) ?_
                    show mm_wp _ _ (149, [some (.ref 598), some (.int (iI b)), some (.int (iI n)), some (.int (iI i)), some (.int (iI look)), some (.int (iI x)), some (.int (iI u)), some (.int (iI j)), none], [], MX L t s3_ l1_) _
                    refine wi_inc (L' := [some (.ref 598), some (.int (iI b)), some (.int (iI n)), some (.int (iI i)), some (.int (iI look)), some (.int (iI x)), some (.int (iI (u + 1))), some (.int (iI j)), none]) hc rfl rfl rfl ?_
                    refine wi_go hc rfl ?_
                    refine ihu (by omega) (by omega) _ s3_ (fun c hc9_ => (hF3_ c (by omega)).trans ((hF4 c (by omega)).trans (hF3 c (by omega)))) (fun p p0 p1 => by rw [stF_s u0]; exact hp3_ p p0 p1) (fun p p0 p1 => ?_)
                    rw [hF3_ 619 (by decide), hz4 p p0 p1]
                    by_cases q : p < A (13 + x)
                    · rw [if_pos q, if_pos q, if_pos (by omega)]
                    · rw [if_neg q, if_neg q]
                  · have a1 := hf3 j (by omega) (by omega)
                    have hzj0 := hz4 j j0 (by omega)
                    rw [if_pos (by omega), if_neg (by omega)] at hzj0
                    have hcr0 := ctN_r (cF A T) (A (13 + x)) (A 1) (shF A x) b j u.toNat
                    refine wi_a1 hc rfl rfl ?_
                    refine wi_gr (w := 619) hc rfl rfl (by decide) (Nat.le_of_ble_eq_true rfl) rfl ?_
                    refine wi_i2 hc rfl rfl ?_
                    refine wi_dup2 hc rfl ?_
                    refine wi_ild (N := 10) hc rfl rfl (by decide) (by decide) (by omega) (by omega) ?_
                    refine wi_a1 hc rfl rfl ?_
                    refine wi_gr (w := 608) hc rfl rfl (by decide) (Nat.le_of_ble_eq_true rfl) rfl ?_
                    refine wi_i2 hc rfl rfl ?_
                    refine wi_ildv (N := 10) hc rfl rfl (by decide) (by decide) (by omega) (by omega) (v := stF (cF A T) (A (13 + x)) (A 1) (shF A x) u.toNat j) ((congrFun (hF4 608 (by decide)) _).trans (hr3 _ (by omega) (by omega))) ?_
                    refine wi_i1 hc rfl rfl ?_
                    refine wi_cne hc rfl ⟨by omega, by omega⟩ hb (fun h13_ => ?_) (fun h13_ => ?_)
                    · refine wi_ic hc rfl ?_
                      refine wi_add hc rfl ?_
                      refine wi_ist (N := 10) hc rfl rfl (by decide) (by decide) (by omega) (by omega) ?_
                      obtain ⟨s4_, es4_⟩ : ∃ q, q = up s4 619 j ((s4 619 j) + 0) := ⟨_, rfl⟩
                      rw [← es4_]
                      refine wi_inc (L' := [some (.ref 598), some (.int (iI b)), some (.int (iI n)), some (.int (iI i)), some (.int (iI look)), some (.int (iI x)), some (.int (iI u)), some (.int (iI (j + 1))), none]) hc rfl rfl rfl ?_
                      refine wi_go hc rfl ?_
                      refine ihj (by omega) (by omega) s4_ (fun c hc9_ => ((congrFun es4_ c).trans (up_cc (by omega))).trans (hF4 c (by omega))) (fun p p0 p1 => ?_)
                      have hz9 := hz4 p p0 p1
                      have hzj := hz4 j j0 (by omega)
                      rw [if_pos (by omega), if_neg (by omega)] at hzj
                      rw [es4_, up_ite]
                      by_cases q : p = j
                      · rw [if_pos q, if_pos (by omega), if_pos (by omega), ctN_s u0, q, if_neg (by omega)]
                        omega
                      · rw [if_neg q, hz9]
                        by_cases q2 : p < A (13 + x)
                        · rw [if_pos q2, if_pos q2]
                          by_cases q3 : p < j
                          · rw [if_pos q3, if_pos (by omega)]
                          · rw [if_neg q3, if_neg (by omega)]
                        · rw [if_neg q2, if_neg q2]
                    · refine wi_ic hc rfl ?_
                      refine wi_go hc rfl ?_
                      refine wi_add hc rfl ?_
                      refine wi_ist (N := 10) hc rfl rfl (by decide) (by decide) (by omega) (by omega) ?_
                      obtain ⟨s5_, es5_⟩ : ∃ q, q = up s4 619 j ((s4 619 j) + 1) := ⟨_, rfl⟩
                      rw [← es5_]
                      refine wi_inc (L' := [some (.ref 598), some (.int (iI b)), some (.int (iI n)), some (.int (iI i)), some (.int (iI look)), some (.int (iI x)), some (.int (iI u)), some (.int (iI (j + 1))), none]) hc rfl rfl rfl ?_
                      refine wi_go hc rfl ?_
                      refine ihj (by omega) (by omega) s5_ (fun c hc9_ => ((congrFun es5_ c).trans (up_cc (by omega))).trans (hF4 c (by omega))) (fun p p0 p1 => ?_)
                      have hz9 := hz4 p p0 p1
                      have hzj := hz4 j j0 (by omega)
                      rw [if_pos (by omega), if_neg (by omega)] at hzj
                      rw [es5_, up_ite]
                      by_cases q : p = j
                      · rw [if_pos q, if_pos (by omega), if_pos (by omega), ctN_s u0, q, if_pos (by omega)]
                        omega
                      · rw [if_neg q, hz9]
                        by_cases q2 : p < A (13 + x)
                        · rw [if_pos q2, if_pos q2]
                          by_cases q3 : p < j
                          · rw [if_pos q3, if_pos (by omega)]
                          · rw [if_neg q3, if_neg (by omega)]
                        · rw [if_neg q2, if_neg q2]
                refine loop93_ 0 (by omega) (by omega) s3 (fun c _ => rfl) (fun p p0 p1 => ?_)
                rw [hz3 p p0 p1]
                split
                · rw [if_neg (by omega)]
                · rfl
            refine loop84_ 0 (by omega) (by omega) _ s2 (fun c hc9_ => hF2 c (by omega)) (fun p p0 p1 => (congrFun (hF2 608 (by decide)) p).trans (hr9_ p p0 p1)) (fun p p0 p1 => ?_)
            rw [hz2 p p0 (by omega)]
            split <;> rfl
          · refine wi_a1 hc rfl rfl ?_
            refine wi_gr (w := 619) hc rfl rfl (by decide) (Nat.le_of_ble_eq_true rfl) rfl ?_
            refine wi_i2 hc rfl rfl ?_
            refine wi_ic hc rfl ?_
            refine wi_ist (N := 10) hc rfl rfl (by decide) (by decide) (by omega) (by omega) ?_
            obtain ⟨s6_, es6_⟩ : ∃ q, q = up s2 619 e 0 := ⟨_, rfl⟩
            rw [← es6_]
            refine wi_inc (L' := [some (.ref 598), some (.int (iI b)), some (.int (iI n)), some (.int (iI i)), some (.int (iI look)), some (.int (iI x)), some (.int (iI (e + 1))), none, none]) hc rfl rfl rfl ?_
            refine wi_go hc rfl ?_
            refine ihe (by omega) (by omega) s6_ (fun c hc9_ => ((congrFun es6_ c).trans (up_cc (by omega))).trans (hF2 c (by omega))) (fun p p0 p1 => ?_)
            rw [es6_, up_ite]
            split
            · rfl
            · exact hz2 p p0 (by omega)
        exact loop60_ 0 (by omega) (by omega) s1_ (fun c _ => rfl) (fun p p0 p1 => by omega)
      · refine wi_ic hc rfl ?_
        refine wi_ri hc rfl (by rw [cm_275]; rfl) ?_
        have hR : catP A T b n i look = -1 := by unfold catP; rw [if_neg (by rw [← hx]; omega)]
        rw [hR]
        exact ⟨s, l, rfl, fun c _ => rfl, fun c _ => rfl, fun k _ => rfl, hJ⟩
    · refine wi_ic hc rfl ?_
      refine wi_ri hc rfl (by rw [cm_275]; rfl) ?_
      have hR : catP A T b n i look = -1 := by unfold catP; rw [if_neg (by omega)]
      rw [hR]
      exact ⟨s, l, rfl, fun c _ => rfl, fun c _ => rfl, fun k _ => rfl, hJ⟩
