/-! By, and a book's parts. -/
theorem sp_92 {d L t : Nat} {s l : Nat → Int → Int} {A T : Int → Int} (hJ : JC s A T) (hK : KA A T) {w : Int} (hw : rI w) : ∃ s1, mm_Ev mm_ct mm_CM (d + 2) 92 [.ref 0, .int (iI w)] (MX L t s l) (some (.int (iI (byR A w).2)), MX L t s1 l) ∧ (∀ c, c ≠ 1 → s1 c = s c) ∧ JC s1 (byR A w).1 T := by
  have hc : (mm_CM 92).2.2.2.2.2.2.2 = mm_cf cd_92 := by rw [cm_92]; rfl
  refine ev_xs ?_
  refine ev_to (mx := 2) (by rw [cm_92]; decide) (by rw [cm_92]; rfl) (by show 2 ≤ _; decide) ?_
  show mm_wp _ _ (0, [some (.ref 0), some (.int (iI w))], [], MX L t s l) (fun res => ∃ s1, res = (some (.int (iI (byR A w).2)), MX L t s1 l) ∧ (∀ c, c ≠ 1 → s1 c = s c) ∧ JC s1 (byR A w).1 T)
  have hB := hK.2.1
  have g0 := hB.1
  have hz5 := hK.1.2.2.2.1
  refine wi_i1 hc rfl rfl ?_
  refine wi_ic hc rfl ?_
  refine wi_ceq hc rfl hw ⟨by decide, by decide⟩ (fun h1_ => ?_) (fun h1_ => ?_)
  · refine wi_a1 hc rfl rfl ?_
    refine wi_gr (w := 1) hc rfl rfl (by decide) (Nat.le_of_ble_eq_true rfl) rfl ?_
    refine wi_i1 hc rfl rfl ?_
    refine wi_pf (kz := 11) rfl hc rfl rfl (by decide) (Nat.le_of_ble_eq_true rfl) rfl (Nat.le_of_ble_eq_true rfl) ⟨rfl, rfl⟩ rfl ?_
    obtain ⟨s1_, es1_⟩ : ∃ q, q = up s 1 11 w := ⟨_, rfl⟩
    rw [← es1_]
    refine wi_ic hc rfl ?_
    refine wi_r1 hc rfl (by rw [cm_92]; rfl) ?_
    have hR : byR A w = (set1 A 6 w, 1) := by unfold byR; rw [if_pos (by omega)]
    rw [hR]
    refine ⟨s1_, rfl, fun c hc9_ => (congrFun es1_ c).trans (up_cc (by omega)), lb_by hJ.1 hK (fun c q => (congrFun es1_ c).trans (up_cc q)) (fun k => ?_), by rw [es1_, up_cc (by decide)]; exact hJ.2⟩
    rw [es1_]
    by_cases q : k = 11
    · rw [up_e q, if_pos q]
    · rw [up_k q, if_neg q]
  · refine wi_a1 hc rfl rfl ?_
    refine wi_i1 hc rfl rfl ?_
    refine wp_cv (b := 0) (As := [.int (iI w)]) (r := []) hc rfl (by rw [cm_130]; rfl) rfl (Nat.le_of_ble_eq_true rfl) (show 0 < 621 by decide) (by rw [cm_130]; rfl) (ev_mono (sp_130 (d := 0) hJ hK.1 hw) (by omega)) ?_
    show mm_wp _ _ (10, [some (.ref 0), some (.int (iI w))], [.int (iI (bI (0 ≤ w ∧ w < A 5)))], MX L t s l) _
    refine wi_bne hc rfl (fun h2_ => ?_) (fun h2_ => ?_)
    · refine wi_a1 hc rfl rfl ?_
      refine wi_gr (w := 1) hc rfl rfl (by decide) (Nat.le_of_ble_eq_true rfl) rfl ?_
      refine wi_i1 hc rfl rfl ?_
      refine wi_pf (kz := 11) rfl hc rfl rfl (by decide) (Nat.le_of_ble_eq_true rfl) rfl (Nat.le_of_ble_eq_true rfl) ⟨rfl, rfl⟩ rfl ?_
      obtain ⟨s2_, es2_⟩ : ∃ q, q = up s 1 11 w := ⟨_, rfl⟩
      rw [← es2_]
      refine wi_ic hc rfl ?_
      refine wi_r1 hc rfl (by rw [cm_92]; rfl) ?_
      have hR : byR A w = (set1 A 6 w, 1) := by unfold byR; rw [if_pos (by omega)]
      rw [hR]
      refine ⟨s2_, rfl, fun c hc9_ => (congrFun es2_ c).trans (up_cc (by omega)), lb_by hJ.1 hK (fun c q => (congrFun es2_ c).trans (up_cc q)) (fun k => ?_), by rw [es2_, up_cc (by decide)]; exact hJ.2⟩
      rw [es2_]
      by_cases q : k = 11
      · rw [up_e q, if_pos q]
      · rw [up_k q, if_neg q]
    · refine wi_ic hc rfl ?_
      refine wi_r0 hc rfl (by rw [cm_92]; rfl) ?_
      have hR : byR A w = (A, 0) := by unfold byR; rw [if_neg (by omega)]
      rw [hR]
      exact ⟨s, rfl, fun c _ => rfl, hJ⟩
theorem sp_199 {d L t : Nat} {s l : Nat → Int → Int} {A T : Int → Int} (hJ : JM s A T) (hK : KA A T) {w : Int} (hw : rI w) : ∃ s1, mm_Ev mm_ct mm_CM (d + 2) 199 [.ref 598, .int (iI w)] (MX L t s l) (some (.int (iI (byR A w).2)), MX L t s1 l) ∧ (∀ c, c ≠ 599 → s1 c = s c) ∧ JM s1 (byR A w).1 T := by
  have hc : (mm_CM 199).2.2.2.2.2.2.2 = mm_cf cd_199 := by rw [cm_199]; rfl
  refine ev_xs ?_
  refine ev_to (mx := 2) (by rw [cm_199]; decide) (by rw [cm_199]; rfl) (by show 2 ≤ _; decide) ?_
  show mm_wp _ _ (0, [some (.ref 598), some (.int (iI w))], [], MX L t s l) (fun res => ∃ s1, res = (some (.int (iI (byR A w).2)), MX L t s1 l) ∧ (∀ c, c ≠ 599 → s1 c = s c) ∧ JM s1 (byR A w).1 T)
  have hB := hK.2.1
  have g0 := hB.1
  have hz5 := hK.1.2.2.2.1
  refine wi_i1 hc rfl rfl ?_
  refine wi_ic hc rfl ?_
  refine wi_a1 hc rfl rfl ?_
  refine wi_gr (w := 599) hc rfl rfl (by decide) (Nat.le_of_ble_eq_true rfl) rfl ?_
  refine wi_ic hc rfl ?_
  refine wi_ildv (N := 3642) hc rfl rfl (by decide) (by decide) (by omega) (by omega) (v := A 5) (congrFun (hJ.1) _) ?_
  refine wi_ic hc rfl ?_
  refine wi_sub hc rfl ?_
  refine wp_cs (As := [.int (iI w), .int (iI (-1)), .int (iI ((A 5) - 1))]) (r := []) hc rfl (by rw [cm_148]; rfl) rfl (Nat.le_of_ble_eq_true rfl) (ev_mono (sp_148 (d := 0) hw ⟨by decide, by decide⟩ ⟨by omega, by omega⟩) (by omega)) ?_
  show mm_wp _ _ (13, [some (.ref 598), some (.int (iI w))], [.int (iI (bI ((-1) ≤ w ∧ w ≤ (A 5) - 1)))], MX L t s l) _
  refine wi_bne hc rfl (fun h1_ => ?_) (fun h1_ => ?_)
  · refine wi_a1 hc rfl rfl ?_
    refine wi_gr (w := 599) hc rfl rfl (by decide) (Nat.le_of_ble_eq_true rfl) rfl ?_
    refine wi_bi hc rfl rfl ?_
    refine wi_i1 hc rfl rfl ?_
    refine wi_ist (N := 3642) hc rfl rfl (by decide) (by decide) (by omega) (by omega) ?_
    obtain ⟨s1_, es1_⟩ : ∃ q, q = up s 599 6 w := ⟨_, rfl⟩
    rw [← es1_]
    refine wi_ic hc rfl ?_
    refine wi_r1 hc rfl (by rw [cm_199]; rfl) ?_
    have hR : byR A w = (set1 A 6 w, 1) := by unfold byR; rw [if_pos (by omega)]
    rw [hR]
    exact ⟨s1_, rfl, fun c hc9_ => (congrFun es1_ c).trans (up_cc (by omega)), by rw [es1_]; exact up_set1 hJ.1, by rw [es1_, up_cc (by decide)]; exact hJ.2.1, by rw [es1_, up_cc (by decide)]; exact hJ.2.2⟩
  · refine wi_ic hc rfl ?_
    refine wi_r0 hc rfl (by rw [cm_199]; rfl) ?_
    have hR : byR A w = (A, 0) := by unfold byR; rw [if_neg (by omega)]
    rw [hR]
    exact ⟨s, rfl, fun c _ => rfl, hJ⟩
def endI (N x : Int) : Int := if 0 ≤ x ∧ x ≤ N then x else -1
def endN (N x : Int) : Int := if 0 ≤ x ∧ x ≤ N then x else N

theorem sp_89 {d L t : Nat} {s l : Nat → Int → Int} {N x : Int} (hN : s 0 7 = N) (hr : 0 ≤ N ∧ N ≤ 300) (hx : rI x) : ∃ s1, mm_Ev mm_ct mm_CM (d + 1) 89 [.ref 0, .int (iI x)] (MX L t s l) (some (.int (iI (endI N x))), MX L t s1 l) ∧ (∀ k, s1 0 k = if k = 7 then endN N x else s 0 k) ∧ (∀ c, c ≠ 0 → s1 c = s c) := by
  have hc : (mm_CM 89).2.2.2.2.2.2.2 = mm_cf cd_89 := by rw [cm_89]; rfl
  refine ev_xs ?_
  refine ev_to (mx := 2) (by rw [cm_89]; decide) (by rw [cm_89]; rfl) (by show 2 ≤ _; decide) ?_
  show mm_wp _ _ (0, [some (.ref 0), some (.int (iI x))], [], MX L t s l) (fun res => ∃ s1, res = (some (.int (iI (endI N x))), MX L t s1 l) ∧ (∀ k, s1 0 k = if k = 7 then endN N x else s 0 k) ∧ (∀ c, c ≠ 0 → s1 c = s c))
  refine wi_i1 hc rfl rfl ?_
  refine wi_zlt hc rfl hx (fun h1_ => ?_) (fun h1_ => ?_)
  · refine wi_ic hc rfl ?_
    refine wi_ri hc rfl (by rw [cm_89]; rfl) ?_
    have hR : endI N x = -1 := by unfold endI; rw [if_neg (by omega)]
    have hR2 : endN N x = N := by unfold endN; rw [if_neg (by omega)]
    rw [hR, hR2]
    refine ⟨s, rfl, fun k => ?_, fun c _ => rfl⟩
    by_cases q : k = 7
    · rw [if_pos q, q]; exact hN
    · rw [if_neg q]
  · refine wi_i1 hc rfl rfl ?_
    refine wi_a1 hc rfl rfl ?_
    refine wi_gfv (kz := 7) rfl hc rfl rfl (by decide) (Nat.le_of_ble_eq_true rfl) rfl (v := N) (hN) ?_
    refine wi_cle hc rfl hx ⟨by omega, by omega⟩ (fun h2_ => ?_) (fun h2_ => ?_)
    · refine wi_a1 hc rfl rfl ?_
      refine wi_i1 hc rfl rfl ?_
      refine wi_pf (kz := 7) rfl hc rfl rfl (by decide) (Nat.le_of_ble_eq_true rfl) rfl (Nat.le_of_ble_eq_true rfl) ⟨rfl, rfl⟩ rfl ?_
      obtain ⟨s1_, es1_⟩ : ∃ q, q = up s 0 7 x := ⟨_, rfl⟩
      rw [← es1_]
      refine wi_i1 hc rfl rfl ?_
      refine wi_ri hc rfl (by rw [cm_89]; rfl) ?_
      have hR : endI N x = x := by unfold endI; rw [if_pos (by omega)]
      have hR2 : endN N x = x := by unfold endN; rw [if_pos (by omega)]
      rw [hR, hR2]
      refine ⟨s1_, rfl, fun k => ?_, fun c q => (congrFun es1_ c).trans (up_cc q)⟩
      rw [es1_]
      by_cases q : k = 7
      · rw [up_e q, if_pos q]
      · rw [up_k q, if_neg q]
    · refine wi_ic hc rfl ?_
      refine wi_ri hc rfl (by rw [cm_89]; rfl) ?_
      have hR : endI N x = -1 := by unfold endI; rw [if_neg (by omega)]
      have hR2 : endN N x = N := by unfold endN; rw [if_neg (by omega)]
      rw [hR, hR2]
      refine ⟨s, rfl, fun k => ?_, fun c _ => rfl⟩
      by_cases q : k = 7
      · rw [if_pos q, q]; exact hN
      · rw [if_neg q]
theorem sp_162 {d L t : Nat} {s l : Nat → Int → Int} {N x : Int} (hN : s 598 4 = N) (hr : 0 ≤ N ∧ N ≤ 300) (hx : rI x) : ∃ s1, mm_Ev mm_ct mm_CM (d + 2) 162 [.ref 598, .int (iI x)] (MX L t s l) (some (.int (iI (endI N x))), MX L t s1 l) ∧ (∀ k, s1 598 k = if k = 4 then endN N x else s 598 k) ∧ (∀ c, c ≠ 598 → s1 c = s c) := by
  have hc : (mm_CM 162).2.2.2.2.2.2.2 = mm_cf cd_162 := by rw [cm_162]; rfl
  refine ev_xs ?_
  refine ev_to (mx := 2) (by rw [cm_162]; decide) (by rw [cm_162]; rfl) (by show 2 ≤ _; decide) ?_
  show mm_wp _ _ (0, [some (.ref 598), some (.int (iI x))], [], MX L t s l) (fun res => ∃ s1, res = (some (.int (iI (endI N x))), MX L t s1 l) ∧ (∀ k, s1 598 k = if k = 4 then endN N x else s 598 k) ∧ (∀ c, c ≠ 598 → s1 c = s c))
  refine wi_i1 hc rfl rfl ?_
  refine wi_ic hc rfl ?_
  refine wi_a1 hc rfl rfl ?_
  refine wi_gfv (kz := 4) rfl hc rfl rfl (by decide) (Nat.le_of_ble_eq_true rfl) rfl (v := N) (hN) ?_
  refine wp_cs (As := [.int (iI x), .int (iI 0), .int (iI N)]) (r := []) hc rfl (by rw [cm_148]; rfl) rfl (Nat.le_of_ble_eq_true rfl) (ev_mono (sp_148 (d := 0) hx ⟨by decide, by decide⟩ ⟨by omega, by omega⟩) (by omega)) ?_
  show mm_wp _ _ (9, [some (.ref 598), some (.int (iI x))], [.int (iI (bI (0 ≤ x ∧ x ≤ N)))], MX L t s l) _
  refine wi_bne hc rfl (fun h1_ => ?_) (fun h1_ => ?_)
  · refine wi_a1 hc rfl rfl ?_
    refine wi_i1 hc rfl rfl ?_
    refine wi_pf (kz := 4) rfl hc rfl rfl (by decide) (Nat.le_of_ble_eq_true rfl) rfl (Nat.le_of_ble_eq_true rfl) ⟨rfl, rfl⟩ rfl ?_
    obtain ⟨s1_, es1_⟩ : ∃ q, q = up s 598 4 x := ⟨_, rfl⟩
    rw [← es1_]
    refine wi_i1 hc rfl rfl ?_
    refine wi_ri hc rfl (by rw [cm_162]; rfl) ?_
    have hR : endI N x = x := by unfold endI; rw [if_pos (by omega)]
    have hR2 : endN N x = x := by unfold endN; rw [if_pos (by omega)]
    rw [hR, hR2]
    refine ⟨s1_, rfl, fun k => ?_, fun c q => (congrFun es1_ c).trans (up_cc q)⟩
    rw [es1_]
    by_cases q : k = 4
    · rw [up_e q, if_pos q]
    · rw [up_k q, if_neg q]
  · refine wi_ic hc rfl ?_
    refine wi_ri hc rfl (by rw [cm_162]; rfl) ?_
    have hR : endI N x = -1 := by unfold endI; rw [if_neg (by omega)]
    have hR2 : endN N x = N := by unfold endN; rw [if_neg (by omega)]
    rw [hR, hR2]
    refine ⟨s, rfl, fun k => ?_, fun c _ => rfl⟩
    by_cases q : k = 4
    · rw [if_pos q, q]; exact hN
    · rw [if_neg q]
def faultI (f p x : Int) : Int := if x = 0 then f else if x = 1 then p else -1

theorem sp_91 {d L t : Nat} {s l : Nat → Int → Int} {x : Int} (hx : rI x) : mm_Ev mm_ct mm_CM (d + 1) 91 [.ref 0, .int (iI x)] (MX L t s l) (some (.int (iI (faultI (s 580 8) (s 580 9) x))), MX L t s l) := by
  have hc : (mm_CM 91).2.2.2.2.2.2.2 = mm_cf cd_91 := by rw [cm_91]; rfl
  refine ev_of (mx := 2) (by rw [cm_91]; decide) (by rw [cm_91]; rfl) (by show 2 ≤ _; decide) ?_
  show mm_wp _ _ (0, [some (.ref 0), some (.int (iI x))], [], MX L t s l) (fun r => r = (some (.int (iI (faultI (s 580 8) (s 580 9) x))), MX L t s l))
  refine wi_i1 hc rfl rfl ?_
  refine wi_zne hc rfl hx (fun h1_ => ?_) (fun h1_ => ?_)
  · refine wi_i1 hc rfl rfl ?_
    refine wi_ic hc rfl ?_
    refine wi_cne hc rfl hx ⟨by decide, by decide⟩ (fun h2_ => ?_) (fun h2_ => ?_)
    · refine wi_ic hc rfl ?_
      refine wi_ri hc rfl (by rw [cm_91]; rfl) ?_
      have hR : faultI (s 580 8) (s 580 9) x = (-1) := by unfold faultI; rw [if_neg (by omega), if_neg (by omega)]
      rw [hR]
    · refine wi_a1 hc rfl rfl ?_
      refine wi_gr (w := 580) hc rfl rfl (by decide) (Nat.le_of_ble_eq_true rfl) rfl ?_
      refine wi_gf (kz := 9) rfl hc rfl rfl (by decide) (Nat.le_of_ble_eq_true rfl) rfl ?_
      refine wi_go hc rfl ?_
      refine wi_ri hc rfl (by rw [cm_91]; rfl) ?_
      have hR : faultI (s 580 8) (s 580 9) x = s 580 9 := by unfold faultI; rw [if_neg (by omega), if_pos (by omega)]
      rw [hR]
  · refine wi_a1 hc rfl rfl ?_
    refine wi_gr (w := 580) hc rfl rfl (by decide) (Nat.le_of_ble_eq_true rfl) rfl ?_
    refine wi_gf (kz := 8) rfl hc rfl rfl (by decide) (Nat.le_of_ble_eq_true rfl) rfl ?_
    refine wi_ri hc rfl (by rw [cm_91]; rfl) ?_
    have hR : faultI (s 580 8) (s 580 9) x = s 580 8 := by unfold faultI; rw [if_pos (by omega)]
    rw [hR]
theorem sp_198 {d L t : Nat} {s l : Nat → Int → Int} {x : Int} (hx : rI x) : mm_Ev mm_ct mm_CM (d + 1) 198 [.ref 598, .int (iI x)] (MX L t s l) (some (.int (iI (faultI (s 598 5) (s 598 6) x))), MX L t s l) := by
  have hc : (mm_CM 198).2.2.2.2.2.2.2 = mm_cf cd_198 := by rw [cm_198]; rfl
  refine ev_of (mx := 2) (by rw [cm_198]; decide) (by rw [cm_198]; rfl) (by show 2 ≤ _; decide) ?_
  show mm_wp _ _ (0, [some (.ref 598), some (.int (iI x))], [], MX L t s l) (fun r => r = (some (.int (iI (faultI (s 598 5) (s 598 6) x))), MX L t s l))
  refine wi_i1 hc rfl rfl ?_
  refine wi_zne hc rfl hx (fun h1_ => ?_) (fun h1_ => ?_)
  · refine wi_i1 hc rfl rfl ?_
    refine wi_ic hc rfl ?_
    refine wi_cne hc rfl hx ⟨by decide, by decide⟩ (fun h2_ => ?_) (fun h2_ => ?_)
    · refine wi_ic hc rfl ?_
      refine wi_ri hc rfl (by rw [cm_198]; rfl) ?_
      have hR : faultI (s 598 5) (s 598 6) x = (-1) := by unfold faultI; rw [if_neg (by omega), if_neg (by omega)]
      rw [hR]
    · refine wi_a1 hc rfl rfl ?_
      refine wi_gf (kz := 6) rfl hc rfl rfl (by decide) (Nat.le_of_ble_eq_true rfl) rfl ?_
      refine wi_go hc rfl ?_
      refine wi_ri hc rfl (by rw [cm_198]; rfl) ?_
      have hR : faultI (s 598 5) (s 598 6) x = s 598 6 := by unfold faultI; rw [if_neg (by omega), if_pos (by omega)]
      rw [hR]
  · refine wi_a1 hc rfl rfl ?_
    refine wi_gf (kz := 5) rfl hc rfl rfl (by decide) (Nat.le_of_ble_eq_true rfl) rfl ?_
    refine wi_go hc rfl ?_
    refine wi_ri hc rfl (by rw [cm_198]; rfl) ?_
    have hR : faultI (s 598 5) (s 598 6) x = s 598 5 := by unfold faultI; rw [if_pos (by omega)]
    rw [hR]
