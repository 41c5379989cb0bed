/-! Setters. -/
theorem sp_85 {d L t : Nat} {s l : Nat → Int → Int} {A T : Int → Int} (hJ : JC s A T) (hK : KA A T) {x w : Int} (hx : rI x) (hw : rI w) : ∃ s1, mm_Ev mm_ct mm_CM (d + 5) 85 [.ref 0, .int (iI x), .int (iI w)] (MX L t s l) (some (.int (iI (wideR A T x w).2)), MX L t s1 l) ∧ (∀ c, c ≠ 11 ∧ c ≠ 578 ∧ c ≠ 579 → s1 c = s c) ∧ JC s1 (wideR A T x w).1 T := by
  have hc : (mm_CM 85).2.2.2.2.2.2.2 = mm_cf cd_85 := by rw [cm_85]; rfl
  refine ev_xs ?_
  refine ev_to (mx := 3) (by rw [cm_85]; decide) (by rw [cm_85]; rfl) (by show 3 ≤ _; decide) ?_
  show mm_wp _ _ (0, [some (.ref 0), some (.int (iI x)), some (.int (iI w))], [], MX L t s l) (fun res => ∃ s1, res = (some (.int (iI (wideR A T x w).2)), MX L t s1 l) ∧ (∀ c, c ≠ 11 ∧ c ≠ 578 ∧ c ≠ 579 → s1 c = s c) ∧ JC s1 (wideR A T x w).1 T)
  have hB := hK.2.1
  have g0 := hB.1
  refine wi_i1 hc rfl rfl ?_
  refine wp_cs (As := [.int (iI x)]) (r := []) hc rfl (by rw [cm_125]; rfl) rfl (Nat.le_of_ble_eq_true rfl) (ev_mono (sp_125 (d := 0) hx) (by omega)) ?_
  show mm_wp _ _ (4, [some (.ref 0), some (.int (iI x)), some (.int (iI w))], [.int (iI (bI (0 ≤ x ∧ x ≤ 2)))], MX L t s l) _
  refine wi_beq hc rfl (fun h1_ => ?_) (fun h1_ => ?_)
  · refine wi_ic hc rfl ?_
    refine wi_r0 hc rfl (by rw [cm_85]; rfl) ?_
    have hR : wideR A T x w = (A, 0) := by unfold wideR; rw [if_neg (by omega)]
    rw [hR]
    exact ⟨s, rfl, fun c _ => rfl, hJ⟩
  · refine wi_i1 hc rfl rfl ?_
    refine wi_ic hc rfl ?_
    refine wi_clt hc rfl hw ⟨by decide, by decide⟩ (fun h2_ => ?_) (fun h2_ => ?_)
    · refine wi_ic hc rfl ?_
      refine wi_r0 hc rfl (by rw [cm_85]; rfl) ?_
      have hR : wideR A T x w = (A, 0) := by unfold wideR; rw [if_neg (by omega)]
      rw [hR]
      exact ⟨s, rfl, fun c _ => rfl, hJ⟩
    · refine wi_i1 hc rfl rfl ?_
      refine wi_bi hc rfl rfl ?_
      refine wi_cgt hc rfl hw ⟨by decide, by decide⟩ (fun h3_ => ?_) (fun h3_ => ?_)
      · refine wi_ic hc rfl ?_
        refine wi_r0 hc rfl (by rw [cm_85]; rfl) ?_
        have hR : wideR A T x w = (A, 0) := by unfold wideR; rw [if_neg (by omega)]
        rw [hR]
        exact ⟨s, rfl, fun c _ => rfl, hJ⟩
      · have hfr := fullN_r hK.1 hB (x := x) (by omega) (by omega) (A (13 + x)).toNat (by have := hB.2.1 x (by omega) (by omega); omega)
        have hfd : fullP A T x = fullN A T x (A (13 + x)).toNat := rfl
        have gm := hB.2.1 x (by omega) (by omega)
        refine wi_i1 hc rfl rfl ?_
        refine wi_a1 hc rfl rfl ?_
        refine wi_gr (w := 577) hc rfl rfl (by decide) (Nat.le_of_ble_eq_true rfl) rfl ?_
        refine wi_a1 hc rfl rfl ?_
        refine wi_gr (w := 1) hc rfl rfl (by decide) (Nat.le_of_ble_eq_true rfl) rfl ?_
        refine wi_i1 hc rfl rfl ?_
        obtain ⟨s1_, hE1_, hF1_, hJ1_⟩ := sp_4 (d := 0) (L := L) (t := t) (l := l) hJ hK.1 (x := x) (by omega) (by omega) (hK.2.1.2.1 _ (by omega) (by omega)).1 (hK.2.1.2.1 _ (by omega) (by omega)).2 (fun p p0 p1 => ⟨(hK.2.1.2.2.1 _ p (by omega) (by omega) p0 p1).1, (hK.2.1.2.2.1 _ p (by omega) (by omega) p0 p1).2.1⟩)
        refine wp_cv (b := 577) (As := [.ref 1, .int (iI x)]) (r := [.int (iI w)]) hc rfl (by rw [cm_4]; rfl) rfl (Nat.le_of_ble_eq_true rfl) (show 577 < 621 by decide) (by rw [cm_4]; rfl) (ev_mono hE1_ (by omega)) ?_
        show mm_wp _ _ (31, [some (.ref 0), some (.int (iI x)), some (.int (iI w))], [.int (iI (fullP A T x)), .int (iI w)], MX L t s1_ l) _
        refine wi_cge hc rfl hw ⟨by omega, by omega⟩ (fun h4_ => ?_) (fun h4_ => ?_)
        · refine wi_a1 hc rfl rfl ?_
          refine wi_gr (w := 1) hc rfl rfl (by decide) (Nat.le_of_ble_eq_true rfl) rfl ?_
          refine wi_gr (w := 11) hc rfl rfl (by decide) (Nat.le_of_ble_eq_true rfl) rfl ?_
          refine wi_i1 hc rfl rfl ?_
          refine wi_i1 hc rfl rfl ?_
          refine wi_ist (N := 3) hc rfl rfl (by decide) (by decide) (by omega) (by omega) ?_
          obtain ⟨s2_, es2_⟩ : ∃ q, q = up s1_ 11 x w := ⟨_, rfl⟩
          rw [← es2_]
          refine wi_ic hc rfl ?_
          refine wi_r1 hc rfl (by rw [cm_85]; rfl) ?_
          have hR : wideR A T x w = (set1 A (10 + x) w, 1) := by unfold wideR; rw [if_pos (by omega)]
          rw [hR]
          refine ⟨s2_, rfl, fun c hc9_ => ((congrFun es2_ c).trans (up_cc (by omega))).trans (hF1_ c (by omega)), lb_wide hJ1_.1 hK (by omega) (by omega) (fun c q => (congrFun es2_ c).trans (up_cc q)) (fun y y0 y1 => ?_), by rw [es2_, up_cc (by decide)]; exact hJ1_.2⟩
          rw [es2_]
          by_cases q : y = x
          · rw [up_e q, if_pos q]
          · rw [up_k q, if_neg q]
        · refine wi_ic hc rfl ?_
          refine wi_r0 hc rfl (by rw [cm_85]; rfl) ?_
          have hR : wideR A T x w = (A, 0) := by unfold wideR; rw [if_neg (by omega)]
          rw [hR]
          exact ⟨s1_, rfl, fun c hc9_ => hF1_ c (by omega), hJ1_⟩
theorem sp_213 {d L t : Nat} {s l : Nat → Int → Int} {A T : Int → Int} (hJ : JM s A T) (hK : KA A T) {x w : Int} (hx : rI x) (hw : rI w) : ∃ s1 l1, mm_Ev mm_ct mm_CM (d + 6) 213 [.ref 598, .int (iI x), .int (iI w)] (MX L t s l) (some (.int (iI (wideR A T x w).2)), MX L t s1 l1) ∧ (∀ c, c ≠ 599 ∧ c ≠ 604 ∧ c ≠ 606 → s1 c = s c) ∧ (∀ c, c ≠ 605 → l1 c = l c) ∧ JM s1 (wideR A T x w).1 T := by
  have hc : (mm_CM 213).2.2.2.2.2.2.2 = mm_cf cd_213 := by rw [cm_213]; rfl
  refine ev_xsl ?_
  refine ev_to (mx := 3) (by rw [cm_213]; decide) (by rw [cm_213]; rfl) (by show 3 ≤ _; decide) ?_
  show mm_wp _ _ (0, [some (.ref 598), some (.int (iI x)), some (.int (iI w))], [], MX L t s l) (fun res => ∃ s1 l1, res = (some (.int (iI (wideR A T x w).2)), MX L t s1 l1) ∧ (∀ c, c ≠ 599 ∧ c ≠ 604 ∧ c ≠ 606 → s1 c = s c) ∧ (∀ c, c ≠ 605 → l1 c = l c) ∧ JM s1 (wideR A T x w).1 T)
  have hB := hK.2.1
  have g0 := hB.1
  refine wi_i1 hc rfl rfl ?_
  refine wp_cs (As := [.int (iI x)]) (r := []) hc rfl (by rw [cm_152]; rfl) rfl (Nat.le_of_ble_eq_true rfl) (ev_mono (sp_152 (d := 0) hx) (by omega)) ?_
  show mm_wp _ _ (4, [some (.ref 598), some (.int (iI x)), some (.int (iI w))], [.int (iI (bI (0 ≤ x ∧ x ≤ 2)))], MX L t s l) _
  refine wi_beq hc rfl (fun h1_ => ?_) (fun h1_ => ?_)
  · refine wi_ic hc rfl ?_
    refine wi_r0 hc rfl (by rw [cm_213]; rfl) ?_
    have hR : wideR A T x w = (A, 0) := by unfold wideR; rw [if_neg (by omega)]
    rw [hR]
    exact ⟨s, l, rfl, fun c _ => rfl, fun c _ => rfl, hJ⟩
  · refine wi_i1 hc rfl rfl ?_
    refine wi_ic hc rfl ?_
    refine wi_bi hc rfl rfl ?_
    refine wp_cs (As := [.int (iI w), .int (iI 1), .int (iI 99)]) (r := []) hc rfl (by rw [cm_148]; rfl) rfl (Nat.le_of_ble_eq_true rfl) (ev_mono (sp_148 (d := 0) hw ⟨by decide, by decide⟩ ⟨by decide, by decide⟩) (by omega)) ?_
    show mm_wp _ _ (14, [some (.ref 598), some (.int (iI x)), some (.int (iI w))], [.int (iI (bI (1 ≤ w ∧ w ≤ 99)))], MX L t s l) _
    refine wi_beq hc rfl (fun h2_ => ?_) (fun h2_ => ?_)
    · refine wi_ic hc rfl ?_
      refine wi_r0 hc rfl (by rw [cm_213]; rfl) ?_
      have hR : wideR A T x w = (A, 0) := by unfold wideR; rw [if_neg (by omega)]
      rw [hR]
      exact ⟨s, l, rfl, fun c _ => rfl, fun c _ => rfl, hJ⟩
    · have hfr := fullN_r hK.1 hB (x := x) (by omega) (by omega) (A (13 + x)).toNat (by have := hB.2.1 x (by omega) (by omega); omega)
      have hfd : fullP A T x = fullN A T x (A (13 + x)).toNat := rfl
      have gm := hB.2.1 x (by omega) (by omega)
      refine wi_i1 hc rfl rfl ?_
      refine wi_a1 hc rfl rfl ?_
      refine wi_i1 hc rfl rfl ?_
      obtain ⟨s1_, l1_, hE1_, hF1_, hG1_, hJ1_⟩ := sp_208 (d := 0) (L := L) (t := t) (l := l) hJ hK.1 (x := x) (by omega) (by omega) (hK.2.1.2.1 _ (by omega) (by omega)).1 (hK.2.1.2.1 _ (by omega) (by omega)).2 (fun p p0 p1 => ⟨(hK.2.1.2.2.1 _ p (by omega) (by omega) p0 p1).1, (hK.2.1.2.2.1 _ p (by omega) (by omega) p0 p1).2.1⟩)
      refine wp_cv (b := 598) (As := [.int (iI x)]) (r := [.int (iI w)]) hc rfl (by rw [cm_208]; rfl) rfl (Nat.le_of_ble_eq_true rfl) (show 598 < 621 by decide) (by rw [cm_208]; rfl) (ev_mono hE1_ (by omega)) ?_
      show mm_wp _ _ (23, [some (.ref 598), some (.int (iI x)), some (.int (iI w))], [.int (iI (fullP A T x)), .int (iI w)], MX L t s1_ l1_) _
      refine wi_cge hc rfl hw ⟨by omega, by omega⟩ (fun h3_ => ?_) (fun h3_ => ?_)
      · refine wi_a1 hc rfl rfl ?_
        refine wi_gr (w := 599) hc rfl rfl (by decide) (Nat.le_of_ble_eq_true rfl) rfl ?_
        refine wi_bi hc rfl rfl ?_
        refine wi_i1 hc rfl rfl ?_
        refine wi_add hc rfl ?_
        refine wi_i1 hc rfl rfl ?_
        refine wi_ist (N := 3642) hc rfl rfl (by decide) (by decide) (by omega) (by omega) ?_
        obtain ⟨s2_, es2_⟩ : ∃ q, q = up s1_ 599 (10 + x) w := ⟨_, rfl⟩
        rw [← es2_]
        refine wi_ic hc rfl ?_
        refine wi_r1 hc rfl (by rw [cm_213]; rfl) ?_
        have hR : wideR A T x w = (set1 A (10 + x) w, 1) := by unfold wideR; rw [if_pos (by omega)]
        rw [hR]
        exact ⟨s2_, l1_, rfl, fun c hc9_ => ((congrFun es2_ c).trans (up_cc (by omega))).trans (hF1_ c (by omega)), fun c hc9_ => hG1_ c (by omega), by rw [es2_]; exact up_set1 hJ1_.1, by rw [es2_, up_cc (by decide)]; exact hJ1_.2.1, by rw [es2_, up_cc (by decide)]; exact hJ1_.2.2⟩
      · refine wi_ic hc rfl ?_
        refine wi_r0 hc rfl (by rw [cm_213]; rfl) ?_
        have hR : wideR A T x w = (A, 0) := by unfold wideR; rw [if_neg (by omega)]
        rw [hR]
        exact ⟨s1_, l1_, rfl, fun c hc9_ => hF1_ c (by omega), fun c hc9_ => hG1_ c (by omega), hJ1_⟩
