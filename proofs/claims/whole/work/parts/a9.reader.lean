/-! The class's reader: signs and tokens. -/
def isLt (x : Int) : Prop := (97 ≤ x ∧ x ≤ 122) ∨ (65 ≤ x ∧ x ≤ 90)
def isFg (x : Int) : Prop := 48 ≤ x ∧ x ≤ 57
/-- the tokens that the reader holds: kinds, places, numbers -/
def RD (s : Nat → Int → Int) (kd pl nm : Int → Int) (tn : Int) : Prop := s 580 3 = tn ∧ (0 ≤ tn ∧ tn ≤ 301) ∧ ∀ j : Int, 0 ≤ j → j < tn → s 581 j = kd j ∧ s 582 j = pl j ∧ s 583 j = nm j ∧ (-1 ≤ kd j ∧ kd j ≤ 100) ∧ (0 ≤ pl j ∧ pl j ≤ 300) ∧ 0 ≤ nm j ∧ nm j ≤ 10000
def kdA (kd : Int → Int) (tn a : Int) : Int := if a < tn then kd a else 43
def plA (pl : Int → Int) (tn a : Int) : Int := if a < tn then pl a else -1
theorem RD.of {s s1 : Nat → Int → Int} {kd pl nm : Int → Int} {tn : Int} (h : RD s kd pl nm tn) (h0 : s1 580 3 = s 580 3) (h1 : s1 581 = s 581) (h2 : s1 582 = s 582) (h3 : s1 583 = s 583) : RD s1 kd pl nm tn := by
  unfold RD
  rw [h0, h1, h2, h3]
  exact h
theorem sp_53 {d L t : Nat} {s l : Nat → Int → Int} {kd pl nm : Int → Int} {tn a : Int} (hR : RD s kd pl nm tn) (hA : s 580 4 = a) (a0 : 0 ≤ a ∧ a ≤ 400) : mm_Ev mm_ct mm_CM (d + 1) 53 [.ref 580] (MX L t s l) (some (.int (iI (kdA kd tn a))), MX L t s l) := by
  have hc : (mm_CM 53).2.2.2.2.2.2.2 = mm_cf cd_53 := by rw [cm_53]; rfl
  refine ev_of (mx := 1) (by rw [cm_53]; decide) (by rw [cm_53]; rfl) (by show 1 ≤ _; decide) ?_
  show mm_wp _ _ (0, [some (.ref 580)], [], MX L t s l) (fun r => r = (some (.int (iI (kdA kd tn a))), MX L t s l))
  have hR2 := hR.2.1
  refine wi_a1 hc rfl rfl ?_
  refine wi_gfv (kz := 4) rfl hc rfl rfl (by decide) (Nat.le_of_ble_eq_true rfl) rfl (v := a) (hA) ?_
  refine wi_a1 hc rfl rfl ?_
  refine wi_gfv (kz := 3) rfl hc rfl rfl (by decide) (Nat.le_of_ble_eq_true rfl) rfl (v := tn) (hR.1) ?_
  refine wi_cge hc rfl ⟨by omega, by omega⟩ ⟨by omega, by omega⟩ (fun h1_ => ?_) (fun h1_ => ?_)
  · refine wi_bi hc rfl rfl ?_
    refine wi_ri hc rfl (by rw [cm_53]; rfl) ?_
    have hR9 : kdA kd tn a = 43 := by unfold kdA; rw [if_neg (by omega)]
    rw [hR9]
  · have hra := hR.2.2 a (by omega) (by omega)
    refine wi_a1 hc rfl rfl ?_
    refine wi_gr (w := 581) hc rfl rfl (by decide) (Nat.le_of_ble_eq_true rfl) rfl ?_
    refine wi_a1 hc rfl rfl ?_
    refine wi_gfv (kz := 4) rfl hc rfl rfl (by decide) (Nat.le_of_ble_eq_true rfl) rfl (v := a) (hA) ?_
    refine wi_ildv (N := 301) hc rfl rfl (by decide) (by decide) (by omega) (by omega) (v := kd a) ((hR.2.2 _ (by omega) (by omega)).1) ?_
    refine wi_go hc rfl ?_
    refine wi_ri hc rfl (by rw [cm_53]; rfl) ?_
    have hR9 : kdA kd tn a = kd a := by unfold kdA; rw [if_pos (by omega)]
    rw [hR9]
theorem sp_54 {d L t : Nat} {s l : Nat → Int → Int} {kd pl nm : Int → Int} {tn a : Int} (hR : RD s kd pl nm tn) (hA : s 580 4 = a) (a0 : 0 ≤ a ∧ a ≤ 400) {n : Int} (hn : rI n) : ∃ s1, mm_Ev mm_ct mm_CM (d + 1) 54 [.ref 580, .int (iI n)] (MX L t s l) (some (.int (iI 0)), MX L t s1 l) ∧ (∀ c, c ≠ 580 → s1 c = s c) ∧ ∀ k, s1 580 k = if k = 9 then plA pl tn a else if k = 8 then n else s 580 k := by
  have hc : (mm_CM 54).2.2.2.2.2.2.2 = mm_cf cd_54 := by rw [cm_54]; rfl
  refine ev_xs ?_
  refine ev_to (mx := 2) (by rw [cm_54]; decide) (by rw [cm_54]; rfl) (by show 2 ≤ _; decide) ?_
  show mm_wp _ _ (0, [some (.ref 580), some (.int (iI n))], [], MX L t s l) (fun res => ∃ s1, res = (some (.int (iI 0)), MX L t s1 l) ∧ (∀ c, c ≠ 580 → s1 c = s c) ∧ ∀ k, s1 580 k = if k = 9 then plA pl tn a else if k = 8 then n else s 580 k)
  have hR2 := hR.2.1
  refine wi_a1 hc rfl rfl ?_
  refine wi_i1 hc rfl rfl ?_
  refine wi_pf (kz := 8) rfl hc rfl rfl (by decide) (Nat.le_of_ble_eq_true rfl) rfl (Nat.le_of_ble_eq_true rfl) ⟨rfl, rfl⟩ rfl ?_
  obtain ⟨s1_, es1_⟩ : ∃ q, q = up s 580 8 n := ⟨_, rfl⟩
  rw [← es1_]
  refine wi_a1 hc rfl rfl ?_
  refine wi_a1 hc rfl rfl ?_
  refine wi_gfv (kz := 4) rfl hc rfl rfl (by decide) (Nat.le_of_ble_eq_true rfl) rfl (v := a) (((congrFun (congrFun es1_ _) _).trans (up_k (by omega))).trans (hA)) ?_
  refine wi_a1 hc rfl rfl ?_
  refine wi_gfv (kz := 3) rfl hc rfl rfl (by decide) (Nat.le_of_ble_eq_true rfl) rfl (v := tn) (((congrFun (congrFun es1_ _) _).trans (up_k (by omega))).trans (hR.1)) ?_
  refine wi_cge hc rfl ⟨by omega, by omega⟩ ⟨by omega, by omega⟩ (fun h1_ => ?_) (fun h1_ => ?_)
  · refine wi_ic hc rfl ?_
    refine wi_pf (kz := 9) rfl hc rfl rfl (by decide) (Nat.le_of_ble_eq_true rfl) rfl (Nat.le_of_ble_eq_true rfl) ⟨rfl, rfl⟩ rfl ?_
    obtain ⟨s2_, es2_⟩ : ∃ q, q = up s1_ 580 9 (-1) := ⟨_, rfl⟩
    rw [← es2_]
    refine wi_ic hc rfl ?_
    refine wi_r0 hc rfl (by rw [cm_54]; rfl) ?_
    have hR9 : plA pl tn a = (-1) := by unfold plA; rw [if_neg (by omega)]
    refine ⟨s2_, rfl, fun c q => by rw [es2_, up_cc q, es1_, up_cc q], fun k => ?_⟩
    rw [hR9]
    by_cases q : k = 9
    · rw [if_pos q, es2_, up_e q]
    · rw [if_neg q, es2_, up_k q]
      by_cases q2 : k = 8
      · rw [if_pos q2, es1_, up_e q2]
      · rw [if_neg q2, es1_, up_k q2]
  · have hra := hR.2.2 a (by omega) (by omega)
    refine wi_a1 hc rfl rfl ?_
    refine wi_gr (w := 582) hc rfl rfl (by decide) (Nat.le_of_ble_eq_true rfl) rfl ?_
    refine wi_a1 hc rfl rfl ?_
    refine wi_gfv (kz := 4) rfl hc rfl rfl (by decide) (Nat.le_of_ble_eq_true rfl) rfl (v := a) (((congrFun (congrFun es1_ _) _).trans (up_k (by omega))).trans (hA)) ?_
    refine wi_ildv (N := 301) hc rfl rfl (by decide) (by decide) (by omega) (by omega) (v := pl a) (((congrFun (congrFun es1_ _) _).trans (up_c (by decide))).trans ((hR.2.2 _ (by omega) (by omega)).2.1)) ?_
    refine wi_go hc rfl ?_
    refine wi_pf (kz := 9) rfl hc rfl rfl (by decide) (Nat.le_of_ble_eq_true rfl) rfl (Nat.le_of_ble_eq_true rfl) ⟨rfl, rfl⟩ rfl ?_
    obtain ⟨s3_, es3_⟩ : ∃ q, q = up s1_ 580 9 (pl a) := ⟨_, rfl⟩
    rw [← es3_]
    refine wi_ic hc rfl ?_
    refine wi_r0 hc rfl (by rw [cm_54]; rfl) ?_
    have hR9 : plA pl tn a = pl a := by unfold plA; rw [if_pos (by omega)]
    refine ⟨s3_, rfl, fun c q => by rw [es3_, up_cc q, es1_, up_cc q], fun k => ?_⟩
    rw [hR9]
    by_cases q : k = 9
    · rw [if_pos q, es3_, up_e q]
    · rw [if_neg q, es3_, up_k q]
      by_cases q2 : k = 8
      · rw [if_pos q2, es1_, up_e q2]
      · rw [if_neg q2, es1_, up_k q2]
theorem sp_55n {d L t : Nat} {s l : Nat → Int → Int} {kd pl nm : Int → Int} {tn a : Int} (hR : RD s kd pl nm tn) (hA : s 580 4 = a) (a0 : 0 ≤ a ∧ a ≤ 400) {q : Int} (hq : rI q) (hne : kdA kd tn a ≠ q) (hkr : rI (kdA kd tn a)) : ∃ s1, mm_Ev mm_ct mm_CM (d + 2) 55 [.ref 580, .int (iI q)] (MX L t s l) (some (.int (iI 0)), MX L t s1 l) ∧ (∀ c, c ≠ 580 → s1 c = s c) ∧ ∀ k, s1 580 k = if k = 9 then plA pl tn a else if k = 8 then 1 else s 580 k := by
  have hc : (mm_CM 55).2.2.2.2.2.2.2 = mm_cf cd_55 := by rw [cm_55]; rfl
  refine ev_xs ?_
  refine ev_to (mx := 2) (by rw [cm_55]; decide) (by rw [cm_55]; rfl) (by show 2 ≤ _; decide) ?_
  show mm_wp _ _ (0, [some (.ref 580), some (.int (iI q))], [], MX L t s l) (fun res => ∃ s1, res = (some (.int (iI 0)), MX L t s1 l) ∧ (∀ c, c ≠ 580 → s1 c = s c) ∧ ∀ k, s1 580 k = if k = 9 then plA pl tn a else if k = 8 then 1 else s 580 k)
  have hR2 := hR.2.1
  refine wi_a1 hc rfl rfl ?_
  refine wp_cv (b := 580) (As := []) (r := []) hc rfl (by rw [cm_53]; rfl) rfl (Nat.le_of_ble_eq_true rfl) (show 580 < 621 by decide) (by rw [cm_53]; rfl) (ev_mono (sp_53 (d := 0) hR hA a0) (by omega)) ?_
  show mm_wp _ _ (4, [some (.ref 580), some (.int (iI q))], [.int (iI (kdA kd tn a))], MX L t s l) _
  refine wi_i1 hc rfl rfl ?_
  refine wi_ceq hc rfl hkr hq (fun h1_ => (by exfalso; omega)) (fun h1_ => ?_)
  refine wi_a1 hc rfl rfl ?_
  refine wi_ic hc rfl ?_
  obtain ⟨s1_, hE1_, hF1_, hG1_⟩ := sp_54 (d := 0) (L := L) (t := t) (l := l) hR hA a0 (n := 1) ⟨by decide, by decide⟩
  refine wp_cv (b := 580) (As := [.int (iI 1)]) (r := []) hc rfl (by rw [cm_54]; rfl) rfl (Nat.le_of_ble_eq_true rfl) (show 580 < 621 by decide) (by rw [cm_54]; rfl) (ev_mono hE1_ (by omega)) ?_
  show mm_wp _ _ (13, [some (.ref 580), some (.int (iI q))], [.int (iI 0)], MX L t s1_ l) _
  refine wi_r0 hc rfl (by rw [cm_55]; rfl) ?_
  exact ⟨s1_, rfl, hF1_, hG1_⟩
theorem sp_55y {d L t : Nat} {s l : Nat → Int → Int} {kd pl nm : Int → Int} {tn a : Int} (hR : RD s kd pl nm tn) (hA : s 580 4 = a) (a0 : 0 ≤ a ∧ a ≤ 400) {q : Int} (hq : rI q) (heq : kdA kd tn a = q) (hkr : rI (kdA kd tn a)) : ∃ s1, mm_Ev mm_ct mm_CM (d + 2) 55 [.ref 580, .int (iI q)] (MX L t s l) (some (.int (iI 1)), MX L t s1 l) ∧ (∀ c, c ≠ 580 → s1 c = s c) ∧ ∀ k, s1 580 k = if k = 4 then a + 1 else s 580 k := by
  have hc : (mm_CM 55).2.2.2.2.2.2.2 = mm_cf cd_55 := by rw [cm_55]; rfl
  refine ev_xs ?_
  refine ev_to (mx := 2) (by rw [cm_55]; decide) (by rw [cm_55]; rfl) (by show 2 ≤ _; decide) ?_
  show mm_wp _ _ (0, [some (.ref 580), some (.int (iI q))], [], MX L t s l) (fun res => ∃ s1, res = (some (.int (iI 1)), MX L t s1 l) ∧ (∀ c, c ≠ 580 → s1 c = s c) ∧ ∀ k, s1 580 k = if k = 4 then a + 1 else s 580 k)
  have hR2 := hR.2.1
  refine wi_a1 hc rfl rfl ?_
  refine wp_cv (b := 580) (As := []) (r := []) hc rfl (by rw [cm_53]; rfl) rfl (Nat.le_of_ble_eq_true rfl) (show 580 < 621 by decide) (by rw [cm_53]; rfl) (ev_mono (sp_53 (d := 0) hR hA a0) (by omega)) ?_
  show mm_wp _ _ (4, [some (.ref 580), some (.int (iI q))], [.int (iI (kdA kd tn a))], MX L t s l) _
  refine wi_i1 hc rfl rfl ?_
  refine wi_ceq hc rfl hkr hq (fun h1_ => ?_) (fun h1_ => (by exfalso; omega))
  refine wi_a1 hc rfl rfl ?_
  refine wi_dupr hc rfl ?_
  refine wi_gfv (kz := 4) rfl hc rfl rfl (by decide) (Nat.le_of_ble_eq_true rfl) rfl (v := a) (hA) ?_
  refine wi_ic hc rfl ?_
  refine wi_add hc rfl ?_
  refine wi_pf (kz := 4) rfl hc rfl rfl (by decide) (Nat.le_of_ble_eq_true rfl) rfl (Nat.le_of_ble_eq_true rfl) ⟨rfl, rfl⟩ rfl ?_
  obtain ⟨s1_, es1_⟩ : ∃ q, q = up s 580 4 (a + 1) := ⟨_, rfl⟩
  rw [← es1_]
  refine wi_ic hc rfl ?_
  refine wi_r1 hc rfl (by rw [cm_55]; rfl) ?_
  refine ⟨s1_, rfl, fun c q => by rw [es1_, up_cc q], fun k => ?_⟩
  by_cases q2 : k = 4
  · rw [if_pos q2, es1_, up_e q2]
  · rw [if_neg q2, es1_, up_k q2]
