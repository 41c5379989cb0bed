/-! Small questions. -/
def atP (A : Int → Int) (x p : Int) : Int := if 0 ≤ x ∧ x ≤ 2 then (if p = -1 then A (13 + x) else if 0 ≤ p ∧ p < A (13 + x) then A (16 + 10 * x + p) else -1) else -1
def shelfP (A T : Int → Int) (x w : Int) : Int := if (0 ≤ x ∧ x ≤ 2) ∧ 0 ≤ w ∧ w ≤ 1 then (if w = 0 then A (10 + x) else fullP A T x) else -1
def pushQ (A T : Int → Int) (b c r : Int) : Int := if (0 ≤ b ∧ b < A 0) ∧ (0 ≤ c ∧ c < A 0) ∧ b ≠ c then pushP A T (A (46 + 6 * b + 4)) b c r else 0

theorem sp_101 {d L t : Nat} {s l : Nat → Int → Int} {A T : Int → Int} (hJ : JC s A T) (hK : KA A T) {x p : Int} (hx : rI x) (hp : rI p) : mm_Ev mm_ct mm_CM (d + 2) 101 [.ref 0, .int (iI x), .int (iI p)] (MX L t s l) (some (.int (iI (atP A x p))), MX L t s l) := by
  have hc : (mm_CM 101).2.2.2.2.2.2.2 = mm_cf cd_101 := by rw [cm_101]; rfl
  refine ev_of (mx := 3) (by rw [cm_101]; decide) (by rw [cm_101]; rfl) (by show 3 ≤ _; decide) ?_
  show mm_wp _ _ (0, [some (.ref 0), some (.int (iI x)), some (.int (iI p))], [], MX L t s l) (fun r => r = (some (.int (iI (atP A x p))), MX L t s l))
  have hB := hK.2.1
  have g0 := hB.1
  refine wi_i1 hc rfl rfl ?_
  refine wp_cs (As := [.int (iI x)]) (r := []) hc rfl (by rw [cm_125]; rfl) rfl (Nat.le_of_ble_eq_true rfl) (ev_mono (sp_125 (d := 0) hx) (by omega)) ?_
  show mm_wp _ _ (4, [some (.ref 0), some (.int (iI x)), some (.int (iI p))], [.int (iI (bI (0 ≤ x ∧ x ≤ 2)))], MX L t s l) _
  refine wi_bne hc rfl (fun h1_ => ?_) (fun h1_ => ?_)
  · have gm := hB.2.1 x (by omega) (by omega)
    refine wi_i1 hc rfl rfl ?_
    refine wi_ic hc rfl ?_
    refine wi_cne hc rfl hp ⟨by decide, by decide⟩ (fun h2_ => ?_) (fun h2_ => ?_)
    · refine wi_a1 hc rfl rfl ?_
      refine wi_gr (w := 1) hc rfl rfl (by decide) (Nat.le_of_ble_eq_true rfl) rfl ?_
      refine wi_gr (w := 2) hc rfl rfl (by decide) (Nat.le_of_ble_eq_true rfl) rfl ?_
      refine wi_i1 hc rfl rfl ?_
      refine wi_i1 hc rfl rfl ?_
      refine wp_cv (b := 2) (As := [.int (iI x), .int (iI p)]) (r := []) hc rfl (by rw [cm_68]; rfl) rfl (Nat.le_of_ble_eq_true rfl) (show 2 < 621 by decide) (by rw [cm_68]; rfl) (ev_mono (sp_68 (d := 0) hJ.1 hK (x := x) (p := p) (by omega) (by omega) hp) (by omega)) ?_
      show mm_wp _ _ (41, [some (.ref 0), some (.int (iI x)), some (.int (iI p))], [.int (iI (if 0 ≤ p ∧ p < A (13 + x) then A (16 + 10 * x + p) else -1))], MX L t s l) _
      refine wi_ri hc rfl (by rw [cm_101]; rfl) ?_
      have hR : atP A x p = if 0 ≤ p ∧ p < A (13 + x) then A (16 + 10 * x + p) else -1 := by
        unfold atP
        rw [if_pos (by omega), if_neg (by omega)]
      rw [hR]
    · refine wi_a1 hc rfl rfl ?_
      refine wi_gr (w := 1) hc rfl rfl (by decide) (Nat.le_of_ble_eq_true rfl) rfl ?_
      refine wi_gr (w := 2) hc rfl rfl (by decide) (Nat.le_of_ble_eq_true rfl) rfl ?_
      refine wi_gr (w := 7) hc rfl rfl (by decide) (Nat.le_of_ble_eq_true rfl) rfl ?_
      refine wi_i1 hc rfl rfl ?_
      refine wi_ildv (N := 3) hc rfl rfl (by decide) (by decide) (by omega) (by omega) (v := A (13 + x)) (lb_many hJ.1 (by omega) (by omega)) ?_
      refine wi_go hc rfl ?_
      refine wi_ri hc rfl (by rw [cm_101]; rfl) ?_
      have hR : atP A x p = A (13 + x) := by
        unfold atP
        rw [if_pos (by omega), if_pos (by omega)]
      rw [hR]
  · refine wi_ic hc rfl ?_
    refine wi_ri hc rfl (by rw [cm_101]; rfl) ?_
    have hR : atP A x p = (-1) := by
      unfold atP
      by_cases q1 : 0 ≤ x ∧ x ≤ 2
      · first | (exfalso; omega) | (rw [if_pos q1, if_neg (by omega), if_neg (by omega)])
      · rw [if_neg q1]
    rw [hR]
theorem sp_235 {d L t : Nat} {s l : Nat → Int → Int} {A T : Int → Int} (hJ : JM s A T) (hK : KA A T) {x p : Int} (hx : rI x) (hp : rI p) : mm_Ev mm_ct mm_CM (d + 3) 235 [.ref 598, .int (iI x), .int (iI p)] (MX L t s l) (some (.int (iI (atP A x p))), MX L t s l) := by
  have hc : (mm_CM 235).2.2.2.2.2.2.2 = mm_cf cd_235 := by rw [cm_235]; rfl
  refine ev_of (mx := 3) (by rw [cm_235]; decide) (by rw [cm_235]; rfl) (by show 3 ≤ _; decide) ?_
  show mm_wp _ _ (0, [some (.ref 598), some (.int (iI x)), some (.int (iI p))], [], MX L t s l) (fun r => r = (some (.int (iI (atP A x p))), MX L t s l))
  have hB := hK.2.1
  have g0 := hB.1
  refine wi_i1 hc rfl rfl ?_
  refine wp_cs (As := [.int (iI x)]) (r := []) hc rfl (by rw [cm_152]; rfl) rfl (Nat.le_of_ble_eq_true rfl) (ev_mono (sp_152 (d := 0) hx) (by omega)) ?_
  show mm_wp _ _ (4, [some (.ref 598), some (.int (iI x)), some (.int (iI p))], [.int (iI (bI (0 ≤ x ∧ x ≤ 2)))], MX L t s l) _
  refine wi_bne hc rfl (fun h1_ => ?_) (fun h1_ => ?_)
  · have gm := hB.2.1 x (by omega) (by omega)
    refine wi_i1 hc rfl rfl ?_
    refine wi_ic hc rfl ?_
    refine wi_cne hc rfl hp ⟨by decide, by decide⟩ (fun h2_ => ?_) (fun h2_ => ?_)
    · refine wi_i1 hc rfl rfl ?_
      refine wi_ic hc rfl ?_
      refine wi_a1 hc rfl rfl ?_
      refine wi_gr (w := 599) hc rfl rfl (by decide) (Nat.le_of_ble_eq_true rfl) rfl ?_
      refine wi_bi hc rfl rfl ?_
      refine wi_i1 hc rfl rfl ?_
      refine wi_add hc rfl ?_
      refine wi_ildv (N := 3642) hc rfl rfl (by decide) (by decide) (by omega) (by omega) (v := A (13 + x)) (congrFun (hJ.1) _) ?_
      refine wi_ic hc rfl ?_
      refine wi_sub hc rfl ?_
      refine wp_cs (As := [.int (iI p), .int (iI 0), .int (iI ((A (13 + x)) - 1))]) (r := []) hc rfl (by rw [cm_148]; rfl) rfl (Nat.le_of_ble_eq_true rfl) (ev_mono (sp_148 (d := 0) hp ⟨by decide, by decide⟩ ⟨by omega, by omega⟩) (by omega)) ?_
      show mm_wp _ _ (40, [some (.ref 598), some (.int (iI x)), some (.int (iI p))], [.int (iI (bI (0 ≤ p ∧ p ≤ (A (13 + x)) - 1)))], MX L t s l) _
      refine wi_beq hc rfl (fun h3_ => ?_) (fun h3_ => ?_)
      · refine wi_ic hc rfl ?_
        refine wi_ri hc rfl (by rw [cm_235]; rfl) ?_
        have hR : atP A x p = (-1) := by
          unfold atP
          by_cases q1 : 0 ≤ x ∧ x ≤ 2
          · first | (exfalso; omega) | (rw [if_pos q1, if_neg (by omega), if_neg (by omega)])
          · rw [if_neg q1]
        rw [hR]
      · refine wi_a1 hc rfl rfl ?_
        refine wi_i1 hc rfl rfl ?_
        refine wi_i1 hc rfl rfl ?_
        refine wp_cv (b := 598) (As := [.int (iI x), .int (iI p)]) (r := []) hc rfl (by rw [cm_155]; rfl) rfl (Nat.le_of_ble_eq_true rfl) (show 598 < 621 by decide) (by rw [cm_155]; rfl) (ev_mono (sg_155 (d := 0) hJ.1 (x := x) (p := p) (by omega) (by omega) (by omega) (by omega)) (by omega)) ?_
        show mm_wp _ _ (49, [some (.ref 598), some (.int (iI x)), some (.int (iI p))], [.int (iI (A (16 + 10 * x + p)))], MX L t s l) _
        refine wi_go hc rfl ?_
        refine wi_ri hc rfl (by rw [cm_235]; rfl) ?_
        have hR : atP A x p = A (16 + 10 * x + p) := by
          unfold atP
          rw [if_pos (by omega), if_neg (by omega), if_pos (by omega)]
        rw [hR]
    · refine wi_a1 hc rfl rfl ?_
      refine wi_gr (w := 599) hc rfl rfl (by decide) (Nat.le_of_ble_eq_true rfl) rfl ?_
      refine wi_bi hc rfl rfl ?_
      refine wi_i1 hc rfl rfl ?_
      refine wi_add hc rfl ?_
      refine wi_ildv (N := 3642) hc rfl rfl (by decide) (by decide) (by omega) (by omega) (v := A (13 + x)) (congrFun (hJ.1) _) ?_
      refine wi_ri hc rfl (by rw [cm_235]; rfl) ?_
      have hR : atP A x p = A (13 + x) := by
        unfold atP
        rw [if_pos (by omega), if_pos (by omega)]
      rw [hR]
  · refine wi_ic hc rfl ?_
    refine wi_ri hc rfl (by rw [cm_235]; rfl) ?_
    have hR : atP A x p = (-1) := by
      unfold atP
      by_cases q1 : 0 ≤ x ∧ x ≤ 2
      · first | (exfalso; omega) | (rw [if_pos q1, if_neg (by omega), if_neg (by omega)])
      · rw [if_neg q1]
    rw [hR]
theorem sp_103 {d L t : Nat} {s l : Nat → Int → Int} {A T : Int → Int} (hJ : JC s A T) (hK : KA A T) {x p : Int} (hx : rI x) (hp : rI p) : ∃ s1, mm_Ev mm_ct mm_CM (d + 5) 103 [.ref 0, .int (iI x), .int (iI p)] (MX L t s l) (some (.int (iI (shelfP A T x p))), MX L t s1 l) ∧ (∀ c, c ≠ 578 ∧ c ≠ 579 → s1 c = s c) ∧ JC s1 A T := by
  have hc : (mm_CM 103).2.2.2.2.2.2.2 = mm_cf cd_103 := by rw [cm_103]; rfl
  refine ev_xs ?_
  refine ev_to (mx := 3) (by rw [cm_103]; decide) (by rw [cm_103]; rfl) (by show 3 ≤ _; decide) ?_
  show mm_wp _ _ (0, [some (.ref 0), some (.int (iI x)), some (.int (iI p))], [], MX L t s l) (fun res => ∃ s1, res = (some (.int (iI (shelfP A T x p))), MX L t s1 l) ∧ (∀ c, c ≠ 578 ∧ c ≠ 579 → s1 c = s c) ∧ JC s1 A T)
  have hB := hK.2.1
  have g0 := hB.1
  refine wi_i1 hc rfl rfl ?_
  refine wp_cs (As := [.int (iI x)]) (r := []) hc rfl (by rw [cm_125]; rfl) rfl (Nat.le_of_ble_eq_true rfl) (ev_mono (sp_125 (d := 0) hx) (by omega)) ?_
  show mm_wp _ _ (4, [some (.ref 0), some (.int (iI x)), some (.int (iI p))], [.int (iI (bI (0 ≤ x ∧ x ≤ 2)))], MX L t s l) _
  refine wi_beq hc rfl (fun h1_ => ?_) (fun h1_ => ?_)
  · refine wi_ic hc rfl ?_
    refine wi_ri hc rfl (by rw [cm_103]; rfl) ?_
    have hR : shelfP A T x p = (-1) := by
      unfold shelfP
      rw [if_neg (by omega)]
    rw [hR]
    exact ⟨s, rfl, fun c _ => rfl, hJ⟩
  · refine wi_i1 hc rfl rfl ?_
    refine wi_zlt hc rfl hp (fun h2_ => ?_) (fun h2_ => ?_)
    · refine wi_ic hc rfl ?_
      refine wi_ri hc rfl (by rw [cm_103]; rfl) ?_
      have hR : shelfP A T x p = (-1) := by
        unfold shelfP
        rw [if_neg (by omega)]
      rw [hR]
      exact ⟨s, rfl, fun c _ => rfl, hJ⟩
    · refine wi_i1 hc rfl rfl ?_
      refine wi_ic hc rfl ?_
      refine wi_cle hc rfl hp ⟨by decide, by decide⟩ (fun h3_ => ?_) (fun h3_ => ?_)
      · refine wi_i1 hc rfl rfl ?_
        refine wi_zne hc rfl hp (fun h4_ => ?_) (fun h4_ => ?_)
        · refine wi_a1 hc rfl rfl ?_
          refine wi_gr (w := 577) hc rfl rfl (by decide) (Nat.le_of_ble_eq_true rfl) rfl ?_
          refine wi_a1 hc rfl rfl ?_
          refine wi_gr (w := 1) hc rfl rfl (by decide) (Nat.le_of_ble_eq_true rfl) rfl ?_
          refine wi_i1 hc rfl rfl ?_
          obtain ⟨s1_, hE1_, hF1_, hJ1_⟩ := sp_4 (d := 0) (L := L) (t := t) (l := l) hJ hK.1 (x := x) (by omega) (by omega) (hK.2.1.2.1 _ (by omega) (by omega)).1 (hK.2.1.2.1 _ (by omega) (by omega)).2 (fun p p0 p1 => ⟨(hK.2.1.2.2.1 _ p (by omega) (by omega) p0 p1).1, (hK.2.1.2.2.1 _ p (by omega) (by omega) p0 p1).2.1⟩)
          refine wp_cv (b := 577) (As := [.ref 1, .int (iI x)]) (r := []) hc rfl (by rw [cm_4]; rfl) rfl (Nat.le_of_ble_eq_true rfl) (show 577 < 621 by decide) (by rw [cm_4]; rfl) (ev_mono hE1_ (by omega)) ?_
          show mm_wp _ _ (46, [some (.ref 0), some (.int (iI x)), some (.int (iI p))], [.int (iI (fullP A T x))], MX L t s1_ l) _
          refine wi_ri hc rfl (by rw [cm_103]; rfl) ?_
          have hR : shelfP A T x p = fullP A T x := by
            unfold shelfP
            rw [if_pos (by omega), if_neg (by omega)]
          rw [hR]
          exact ⟨s1_, rfl, fun c hc9_ => hF1_ c (by omega), hJ1_⟩
        · refine wi_a1 hc rfl rfl ?_
          refine wi_gr (w := 1) hc rfl rfl (by decide) (Nat.le_of_ble_eq_true rfl) rfl ?_
          refine wi_gr (w := 11) hc rfl rfl (by decide) (Nat.le_of_ble_eq_true rfl) rfl ?_
          refine wi_i1 hc rfl rfl ?_
          refine wi_ildv (N := 3) hc rfl rfl (by decide) (by decide) (by omega) (by omega) (v := A (10 + x)) (lb_wid hJ.1 (by omega) (by omega)) ?_
          refine wi_go hc rfl ?_
          refine wi_ri hc rfl (by rw [cm_103]; rfl) ?_
          have hR : shelfP A T x p = A (10 + x) := by
            unfold shelfP
            rw [if_pos (by omega), if_pos (by omega)]
          rw [hR]
          exact ⟨s, rfl, fun c _ => rfl, hJ⟩
      · refine wi_ic hc rfl ?_
        refine wi_ri hc rfl (by rw [cm_103]; rfl) ?_
        have hR : shelfP A T x p = (-1) := by
          unfold shelfP
          rw [if_neg (by omega)]
        rw [hR]
        exact ⟨s, rfl, fun c _ => rfl, hJ⟩
theorem sp_237 {d L t : Nat} {s l : Nat → Int → Int} {A T : Int → Int} (hJ : JM s A T) (hK : KA A T) {x p : Int} (hx : rI x) (hp : rI p) : ∃ s1 l1, mm_Ev mm_ct mm_CM (d + 6) 237 [.ref 598, .int (iI x), .int (iI p)] (MX L t s l) (some (.int (iI (shelfP A T x p))), MX L t s1 l1) ∧ (∀ c, c ≠ 604 ∧ c ≠ 606 → s1 c = s c) ∧ (∀ c, c ≠ 605 → l1 c = l c) ∧ JM s1 A T := by
  have hc : (mm_CM 237).2.2.2.2.2.2.2 = mm_cf cd_237 := by rw [cm_237]; rfl
  refine ev_xsl ?_
  refine ev_to (mx := 3) (by rw [cm_237]; decide) (by rw [cm_237]; rfl) (by show 3 ≤ _; decide) ?_
  show mm_wp _ _ (0, [some (.ref 598), some (.int (iI x)), some (.int (iI p))], [], MX L t s l) (fun res => ∃ s1 l1, res = (some (.int (iI (shelfP A T x p))), MX L t s1 l1) ∧ (∀ c, c ≠ 604 ∧ c ≠ 606 → s1 c = s c) ∧ (∀ c, c ≠ 605 → l1 c = l c) ∧ JM s1 A T)
  have hB := hK.2.1
  have g0 := hB.1
  refine wi_i1 hc rfl rfl ?_
  refine wp_cs (As := [.int (iI x)]) (r := []) hc rfl (by rw [cm_152]; rfl) rfl (Nat.le_of_ble_eq_true rfl) (ev_mono (sp_152 (d := 0) hx) (by omega)) ?_
  show mm_wp _ _ (4, [some (.ref 598), some (.int (iI x)), some (.int (iI p))], [.int (iI (bI (0 ≤ x ∧ x ≤ 2)))], MX L t s l) _
  refine wi_beq hc rfl (fun h1_ => ?_) (fun h1_ => ?_)
  · refine wi_ic hc rfl ?_
    refine wi_ri hc rfl (by rw [cm_237]; rfl) ?_
    have hR : shelfP A T x p = (-1) := by
      unfold shelfP
      rw [if_neg (by omega)]
    rw [hR]
    exact ⟨s, l, rfl, fun c _ => rfl, fun c _ => rfl, hJ⟩
  · refine wi_i1 hc rfl rfl ?_
    refine wi_ic hc rfl ?_
    refine wi_ic hc rfl ?_
    refine wp_cs (As := [.int (iI p), .int (iI 0), .int (iI 1)]) (r := []) hc rfl (by rw [cm_148]; rfl) rfl (Nat.le_of_ble_eq_true rfl) (ev_mono (sp_148 (d := 0) hp ⟨by decide, by decide⟩ ⟨by decide, by decide⟩) (by omega)) ?_
    show mm_wp _ _ (13, [some (.ref 598), some (.int (iI x)), some (.int (iI p))], [.int (iI (bI (0 ≤ p ∧ p ≤ 1)))], MX L t s l) _
    refine wi_bne hc rfl (fun h2_ => ?_) (fun h2_ => ?_)
    · refine wi_i1 hc rfl rfl ?_
      refine wi_zne hc rfl hp (fun h3_ => ?_) (fun h3_ => ?_)
      · refine wi_a1 hc rfl rfl ?_
        refine wi_i1 hc rfl rfl ?_
        obtain ⟨s1_, l1_, hE1_, hF1_, hG1_, hJ1_⟩ := sp_208 (d := 0) (L := L) (t := t) (l := l) hJ hK.1 (x := x) (by omega) (by omega) (hK.2.1.2.1 _ (by omega) (by omega)).1 (hK.2.1.2.1 _ (by omega) (by omega)).2 (fun p p0 p1 => ⟨(hK.2.1.2.2.1 _ p (by omega) (by omega) p0 p1).1, (hK.2.1.2.2.1 _ p (by omega) (by omega) p0 p1).2.1⟩)
        refine wp_cv (b := 598) (As := [.int (iI x)]) (r := []) hc rfl (by rw [cm_208]; rfl) rfl (Nat.le_of_ble_eq_true rfl) (show 598 < 621 by decide) (by rw [cm_208]; rfl) (ev_mono hE1_ (by omega)) ?_
        show mm_wp _ _ (39, [some (.ref 598), some (.int (iI x)), some (.int (iI p))], [.int (iI (fullP A T x))], MX L t s1_ l1_) _
        refine wi_ri hc rfl (by rw [cm_237]; rfl) ?_
        have hR : shelfP A T x p = fullP A T x := by
          unfold shelfP
          rw [if_pos (by omega), if_neg (by omega)]
        rw [hR]
        exact ⟨s1_, l1_, rfl, fun c hc9_ => hF1_ c (by omega), fun c hc9_ => hG1_ c (by omega), hJ1_⟩
      · refine wi_a1 hc rfl rfl ?_
        refine wi_gr (w := 599) hc rfl rfl (by decide) (Nat.le_of_ble_eq_true rfl) rfl ?_
        refine wi_bi hc rfl rfl ?_
        refine wi_i1 hc rfl rfl ?_
        refine wi_add hc rfl ?_
        refine wi_ildv (N := 3642) hc rfl rfl (by decide) (by decide) (by omega) (by omega) (v := A (10 + x)) (congrFun (hJ.1) _) ?_
        refine wi_go hc rfl ?_
        refine wi_ri hc rfl (by rw [cm_237]; rfl) ?_
        have hR : shelfP A T x p = A (10 + x) := by
          unfold shelfP
          rw [if_pos (by omega), if_pos (by omega)]
        rw [hR]
        exact ⟨s, l, rfl, fun c _ => rfl, fun c _ => rfl, hJ⟩
    · refine wi_ic hc rfl ?_
      refine wi_ri hc rfl (by rw [cm_237]; rfl) ?_
      have hR : shelfP A T x p = (-1) := by
        unfold shelfP
        rw [if_neg (by omega)]
      rw [hR]
      exact ⟨s, l, rfl, fun c _ => rfl, fun c _ => rfl, hJ⟩
theorem sp_104 {d L t : Nat} {s l : Nat → Int → Int} {A T : Int → Int} (hJ : JC s A T) (hK : KA A T) {b c r : Int} (hb : rI b) (hc2 : rI c) (hr : r = 0 ∨ r = 1) : ∃ s1, mm_Ev mm_ct mm_CM (d + 4) 104 [.ref 0, .int (iI b), .int (iI c), .int (iI r)] (MX L t s l) (some (.int (iI (pushQ A T b c r))), MX L t s1 l) ∧ (∀ c, c ≠ 578 ∧ c ≠ 579 → s1 c = s c) ∧ JC s1 A T := by
  have hc : (mm_CM 104).2.2.2.2.2.2.2 = mm_cf cd_104 := by rw [cm_104]; rfl
  refine ev_xs ?_
  refine ev_to (mx := 4) (by rw [cm_104]; decide) (by rw [cm_104]; rfl) (by show 4 ≤ _; decide) ?_
  show mm_wp _ _ (0, [some (.ref 0), some (.int (iI b)), some (.int (iI c)), some (.int (iI r))], [], MX L t s l) (fun res => ∃ s1, res = (some (.int (iI (pushQ A T b c r))), MX L t s1 l) ∧ (∀ c, c ≠ 578 ∧ c ≠ 579 → s1 c = s c) ∧ JC s1 A T)
  have hB := hK.2.1
  have g0 := hB.1
  refine wi_a1 hc rfl rfl ?_
  refine wi_i1 hc rfl rfl ?_
  refine wp_cv (b := 0) (As := [.int (iI b)]) (r := []) hc rfl (by rw [cm_129]; rfl) rfl (Nat.le_of_ble_eq_true rfl) (show 0 < 621 by decide) (by rw [cm_129]; rfl) (ev_mono (sg_129 (d := 0) hJ.1 hb hK.2.1.1) (by omega)) ?_
  show mm_wp _ _ (5, [some (.ref 0), some (.int (iI b)), some (.int (iI c)), some (.int (iI r))], [.int (iI (bI (0 ≤ b ∧ b < A 0)))], MX L t s l) _
  refine wi_beq hc rfl (fun h1_ => ?_) (fun h1_ => ?_)
  · refine wi_ic hc rfl ?_
    refine wi_r0 hc rfl (by rw [cm_104]; rfl) ?_
    have hR : pushQ A T b c r = 0 := by unfold pushQ; rw [if_neg (by omega)]
    rw [hR]
    exact ⟨s, rfl, fun c _ => rfl, hJ⟩
  · refine wi_a1 hc rfl rfl ?_
    refine wi_i1 hc rfl rfl ?_
    refine wp_cv (b := 0) (As := [.int (iI c)]) (r := []) hc rfl (by rw [cm_129]; rfl) rfl (Nat.le_of_ble_eq_true rfl) (show 0 < 621 by decide) (by rw [cm_129]; rfl) (ev_mono (sg_129 (d := 0) hJ.1 hc2 hK.2.1.1) (by omega)) ?_
    show mm_wp _ _ (13, [some (.ref 0), some (.int (iI b)), some (.int (iI c)), some (.int (iI r))], [.int (iI (bI (0 ≤ c ∧ c < A 0)))], MX L t s l) _
    refine wi_beq hc rfl (fun h2_ => ?_) (fun h2_ => ?_)
    · refine wi_ic hc rfl ?_
      refine wi_r0 hc rfl (by rw [cm_104]; rfl) ?_
      have hR : pushQ A T b c r = 0 := by unfold pushQ; rw [if_neg (by omega)]
      rw [hR]
      exact ⟨s, rfl, fun c _ => rfl, hJ⟩
    · refine wi_i1 hc rfl rfl ?_
      refine wi_i1 hc rfl rfl ?_
      refine wi_cne hc rfl hb hc2 (fun h3_ => ?_) (fun h3_ => ?_)
      · have hvb := hK.1.2.2.2.2.2.1 b (by omega) (by omega)
        have hp1 := pushP_01 hK.1 (la := A (46 + 6 * b + 4)) (b := b) (o := c) (right := r) (by omega) (by omega) (by omega) (by omega) hr
        refine wi_a1 hc rfl rfl ?_
        refine wi_gr (w := 577) hc rfl rfl (by decide) (Nat.le_of_ble_eq_true rfl) rfl ?_
        refine wi_a1 hc rfl rfl ?_
        refine wi_gr (w := 1) hc rfl rfl (by decide) (Nat.le_of_ble_eq_true rfl) rfl ?_
        refine wi_a1 hc rfl rfl ?_
        refine wi_gr (w := 1) hc rfl rfl (by decide) (Nat.le_of_ble_eq_true rfl) rfl ?_
        refine wi_gr (w := 12) hc rfl rfl (by decide) (Nat.le_of_ble_eq_true rfl) rfl ?_
        refine wi_i1 hc rfl rfl ?_
        refine wi_ald (w := 13 + b.toNat) (N := 10) hc rfl (Nat.le_of_ble_eq_true rfl) (Nat.le_of_ble_eq_true rfl) (by decide) rfl (by decide) (by omega) (by omega) (sh_trait12 (by omega) (by omega)) ?_
        refine wi_ic hc rfl ?_
        refine wi_ildv (N := 5) hc rfl (sh_traits (by omega) (by omega)) (by omega) (by decide) (by omega) (by omega) (v := A (46 + 6 * b + 4)) (lb_tr hJ.1 (by omega) (by omega) (by omega) (by omega)) ?_
        refine wi_i1 hc rfl rfl ?_
        refine wi_i1 hc rfl rfl ?_
        refine wi_i1 hc rfl rfl ?_
        obtain ⟨s1_, hE1_, hF1_, hJ1_⟩ := sp_1 (d := 0) (L := L) (t := t) (l := l) hJ hK.1 (la := A (46 + 6 * b + 4)) (b := b) (o := c) (right := r) (by omega) (by omega) (by omega) (by omega) (by omega) (by omega) (by omega)
        refine wp_cv (b := 577) (As := [.ref 1, .int (iI (A (46 + 6 * b + 4))), .int (iI b), .int (iI c), .int (iI r)]) (r := []) hc rfl (by rw [cm_1]; rfl) rfl (Nat.le_of_ble_eq_true rfl) (show 577 < 621 by decide) (by rw [cm_1]; rfl) (ev_mono hE1_ (by omega)) ?_
        show mm_wp _ _ (48, [some (.ref 0), some (.int (iI b)), some (.int (iI c)), some (.int (iI r))], [.int (iI (pushP A T (A (46 + 6 * b + 4)) b c r))], MX L t s1_ l) _
        refine wi_rx (by omega) hc rfl (by rw [cm_104]; rfl) ?_
        have hR : pushQ A T b c r = pushP A T (A (46 + 6 * b + 4)) b c r := by unfold pushQ; rw [if_pos (by omega)]
        rw [hR]
        exact ⟨s1_, rfl, fun c hc9_ => hF1_ c (by omega), hJ1_⟩
      · refine wi_ic hc rfl ?_
        refine wi_r0 hc rfl (by rw [cm_104]; rfl) ?_
        have hR : pushQ A T b c r = 0 := by unfold pushQ; rw [if_neg (by omega)]
        rw [hR]
        exact ⟨s, rfl, fun c _ => rfl, hJ⟩
theorem sp_212 {d L t : Nat} {s l : Nat → Int → Int} {A T : Int → Int} (hJ : JM s A T) (hK : KA A T) {b c r : Int} (hb : rI b) (hc2 : rI c) (hr : r = 0 ∨ r = 1) : ∃ s1 l1, mm_Ev mm_ct mm_CM (d + 6) 212 [.ref 598, .int (iI b), .int (iI c), .int (iI r)] (MX L t s l) (some (.int (iI (pushQ A T b c r))), MX L t s1 l1) ∧ (∀ c, c ≠ 604 ∧ c ≠ 606 → s1 c = s c) ∧ (∀ c, c ≠ 605 → l1 c = l c) ∧ JM s1 A T := by
  have hc : (mm_CM 212).2.2.2.2.2.2.2 = mm_cf cd_212 := by rw [cm_212]; rfl
  refine ev_xsl ?_
  refine ev_to (mx := 4) (by rw [cm_212]; decide) (by rw [cm_212]; rfl) (by show 4 ≤ _; decide) ?_
  show mm_wp _ _ (0, [some (.ref 598), some (.int (iI b)), some (.int (iI c)), some (.int (iI r))], [], MX L t s l) (fun res => ∃ s1 l1, res = (some (.int (iI (pushQ A T b c r))), MX L t s1 l1) ∧ (∀ c, c ≠ 604 ∧ c ≠ 606 → s1 c = s c) ∧ (∀ c, c ≠ 605 → l1 c = l c) ∧ JM s1 A T)
  have hB := hK.2.1
  have g0 := hB.1
  refine wi_a1 hc rfl rfl ?_
  refine wi_i1 hc rfl rfl ?_
  refine wp_cv (b := 598) (As := [.int (iI b)]) (r := []) hc rfl (by rw [cm_151]; rfl) rfl (Nat.le_of_ble_eq_true rfl) (show 598 < 621 by decide) (by rw [cm_151]; rfl) (ev_mono (sg_151 (d := 0) (hJ.1) hb (by omega) (by omega)) (by omega)) ?_
  show mm_wp _ _ (5, [some (.ref 598), some (.int (iI b)), some (.int (iI c)), some (.int (iI r))], [.int (iI (bI (0 ≤ b ∧ b < A 0)))], MX L t s l) _
  refine wi_beq hc rfl (fun h1_ => ?_) (fun h1_ => ?_)
  · refine wi_ic hc rfl ?_
    refine wi_r0 hc rfl (by rw [cm_212]; rfl) ?_
    have hR : pushQ A T b c r = 0 := by unfold pushQ; rw [if_neg (by omega)]
    rw [hR]
    exact ⟨s, l, rfl, fun c _ => rfl, fun c _ => rfl, hJ⟩
  · refine wi_a1 hc rfl rfl ?_
    refine wi_i1 hc rfl rfl ?_
    refine wp_cv (b := 598) (As := [.int (iI c)]) (r := []) hc rfl (by rw [cm_151]; rfl) rfl (Nat.le_of_ble_eq_true rfl) (show 598 < 621 by decide) (by rw [cm_151]; rfl) (ev_mono (sg_151 (d := 0) (hJ.1) hc2 (by omega) (by omega)) (by omega)) ?_
    show mm_wp _ _ (13, [some (.ref 598), some (.int (iI b)), some (.int (iI c)), some (.int (iI r))], [.int (iI (bI (0 ≤ c ∧ c < A 0)))], MX L t s l) _
    refine wi_beq hc rfl (fun h2_ => ?_) (fun h2_ => ?_)
    · refine wi_ic hc rfl ?_
      refine wi_r0 hc rfl (by rw [cm_212]; rfl) ?_
      have hR : pushQ A T b c r = 0 := by unfold pushQ; rw [if_neg (by omega)]
      rw [hR]
      exact ⟨s, l, rfl, fun c _ => rfl, fun c _ => rfl, hJ⟩
    · refine wi_i1 hc rfl rfl ?_
      refine wi_i1 hc rfl rfl ?_
      refine wi_ceq hc rfl hb hc2 (fun h3_ => ?_) (fun h3_ => ?_)
      · refine wi_ic hc rfl ?_
        refine wi_r0 hc rfl (by rw [cm_212]; rfl) ?_
        have hR : pushQ A T b c r = 0 := by unfold pushQ; rw [if_neg (by omega)]
        rw [hR]
        exact ⟨s, l, rfl, fun c _ => rfl, fun c _ => rfl, hJ⟩
      · have hvb := hK.1.2.2.2.2.2.1 b (by omega) (by omega)
        have hp1 := pushP_01 hK.1 (la := A (46 + 6 * b + 4)) (b := b) (o := c) (right := r) (by omega) (by omega) (by omega) (by omega) hr
        refine wi_a1 hc rfl rfl ?_
        refine wi_i1 hc rfl rfl ?_
        refine wi_i1 hc rfl rfl ?_
        refine wi_i1 hc rfl rfl ?_
        obtain ⟨s1_, l1_, hE1_, hF1_, hG1_, hJ1_⟩ := sp_210 (d := 0) (L := L) (t := t) (l := l) hJ hK.1 (b := b) (o := c) (right := r) (by omega) (by omega) (by omega) (by omega) (by omega)
        refine wp_cv (b := 598) (As := [.int (iI b), .int (iI c), .int (iI r)]) (r := []) hc rfl (by rw [cm_210]; rfl) rfl (Nat.le_of_ble_eq_true rfl) (show 598 < 621 by decide) (by rw [cm_210]; rfl) (ev_mono hE1_ (by omega)) ?_
        show mm_wp _ _ (28, [some (.ref 598), some (.int (iI b)), some (.int (iI c)), some (.int (iI r))], [.int (iI (pushP A T (A (46 + 6 * b + 4)) b c r))], MX L t s1_ l1_) _
        refine wi_b01 hc rfl rfl rfl rfl (by omega) ?_
        refine wi_rx (by omega) hc rfl (by rw [cm_212]; rfl) ?_
        have hR : pushQ A T b c r = pushP A T (A (46 + 6 * b + 4)) b c r := by unfold pushQ; rw [if_pos (by omega)]
        rw [hR]
        exact ⟨s1_, l1_, rfl, fun c hc9_ => hF1_ c (by omega), fun c hc9_ => hG1_ c (by omega), hJ1_⟩
