/-! The model judges. -/
/-- the model's row is A, its texts T; what names hold is bounded -/
def JM (s : Nat → Int → Int) (A T : Int → Int) : Prop := s 599 = A ∧ s 601 = T ∧ ∀ v, 0 ≤ v → v < 15 → -1000000 ≤ s 604 v ∧ s 604 v ≤ 1000000
theorem JM.of {s s1 : Nat → Int → Int} {A T : Int → Int} (h : JM s A T) (h1 : s1 599 = s 599) (h2 : s1 601 = s 601) (h3 : s1 604 = s 604) : JM s1 A T := ⟨h1.trans h.1, h2.trans h.2.1, by rw [h3]; exact h.2.2⟩
theorem clF_hit {T : Int → Int} {b so la k : Int} {n : Nat} (hn : 0 < n) (h : T (b + 1 + 4 * k) = so ∧ (so ≠ 0 ∨ T (b + 2 + 4 * k) = la)) : clF T b so la n k = k := by
  obtain ⟨m, rfl⟩ : ∃ m, n = m + 1 := ⟨n - 1, by omega⟩
  unfold clF
  rw [if_pos h]
theorem clF_miss {T : Int → Int} {b so la k : Int} {n : Nat} (hn : 0 < n) (h : ¬ (T (b + 1 + 4 * k) = so ∧ (so ≠ 0 ∨ T (b + 2 + 4 * k) = la))) : clF T b so la n k = clF T b so la (n - 1) (k + 1) := by
  obtain ⟨m, rfl⟩ : ∃ m, n = m + 1 := ⟨n - 1, by omega⟩
  rw [clF, if_neg h]
  rfl
theorem vmT_congr {T : Int → Int} {B k so : Int} {nm nm' : Int → Int} (h : okL T B k so) (e : ∀ v, 0 ≤ v → v < 15 → okNm so v → nm v = nm' v) : vmT T B k nm = vmT T B k nm' := by
  obtain ⟨N, h1, h2, h3, h4, h5, h6, h7⟩ := h
  have e1 : (T (B + 4 + 4 * k) - T (B + 3 + 4 * k)).toNat = N := by omega
  unfold vmT
  rw [e1]
  refine vmR_congr (m := N) (fun j hj ho => ?_) N (Nat.le_refl _)
  have g := h5 j hj
  rw [ho] at g
  unfold okO at g
  exact e _ (by omega) (by omega) (h6 j hj ho)
theorem clP_b {A T : Int → Int} (h : VJ A T) (so la : Int) : -1 ≤ clP A T so la ∧ clP A T so la < 24 := by
  rcases clP_r h so la with h1 | ⟨h1, h2, h3, h4, h5⟩
  · omega
  · have := (h.text h1).1
    omega
theorem sg_153 {d L t : Nat} {s l : Nat → Int → Int} {A : Int → Int} (hA : s 599 = A) {b w : Int} (h0 : 0 ≤ b) (h1 : b < 10) (h2 : 0 ≤ w) (h3 : w < 6) : mm_Ev mm_ct mm_CM (d + 1) 153 [.ref 598, .int (iI b), .int (iI w)] (MX L t s l) (some (.int (iI (A (46 + 6 * b + w)))), MX L t s l) := by subst hA; exact sp_153 h0 h1 h2 h3
theorem sg_155 {d L t : Nat} {s l : Nat → Int → Int} {A : Int → Int} (hA : s 599 = A) {x p : Int} (h0 : 0 ≤ x) (h1 : x ≤ 2) (h2 : 0 ≤ p) (h3 : p < 10) : mm_Ev mm_ct mm_CM (d + 1) 155 [.ref 598, .int (iI x), .int (iI p)] (MX L t s l) (some (.int (iI (A (16 + 10 * x + p)))), MX L t s l) := by subst hA; exact sp_155 h0 h1 h2 h3
theorem sg_151 {d L t : Nat} {s l : Nat → Int → Int} {A : Int → Int} (hA : s 599 = A) {x : Int} (hx : rI x) (hb0 : 0 ≤ A 0) (hb1 : A 0 ≤ 10) : mm_Ev mm_ct mm_CM (d + 2) 151 [.ref 598, .int (iI x)] (MX L t s l) (some (.int (iI (bI (0 ≤ x ∧ x < A 0)))), MX L t s l) := by subst hA; exact sp_151 hx hb0 hb1
theorem sp_204 {d L t : Nat} {s l : Nat → Int → Int} {A T : Int → Int} (hJ : JM s A T) (hV : VJ A T) {so la : Int} (hso : rI so) (hla : rI la) : mm_Ev mm_ct mm_CM (d + 1) 204 [.ref 598, .int (iI so), .int (iI la)] (MX L t s l) (some (.int (iI (clP A T so la))), MX L t s l) := by
  have hc : (mm_CM 204).2.2.2.2.2.2.2 = mm_cf cd_204 := by rw [cm_204]; rfl
  refine ev_of (mx := 5) (by rw [cm_204]; decide) (by rw [cm_204]; rfl) (by show 3 ≤ _; decide) ?_
  show mm_wp _ _ (0, [some (.ref 598), some (.int (iI so)), some (.int (iI la)), none, none], [], MX L t s l) (fun r => r = (some (.int (iI (clP A T so la))), MX L t s l))
  have ⟨hA, hT, hN⟩ := hJ
  have g0 := hV.1
  have g2 := hV.2.1
  have g3 := hV.2.2.1
  have g5 := hV.2.2.2.1
  have g6 := hV.2.2.2.2.1
  refine wi_ic hc rfl ?_
  refine wi_is1 (L' := [some (.ref 598), some (.int (iI so)), some (.int (iI la)), some (.int (iI 0)), none]) hc rfl (Nat.le_of_ble_eq_true rfl) rfl ?_
  have loop2_ : ∀ k : Int, k ≤ 25 → 0 ≤ k → (A 6 < 0 → k = 0) → (0 ≤ A 6 → k ≤ T (705 * A 6) ∧ clP A T so la = clF T (705 * A 6) so la (T (705 * A 6) - k).toNat k) → ∀ (q4 : Option Value), mm_wp (mm_Ev mm_ct mm_CM d) 204 (2, [some (.ref 598), some (.int (iI so)), some (.int (iI la)), some (.int (iI k)), q4], [], MX L t s l) (fun r => r = (some (.int (iI (clP A T so la))), MX L t s l)) := by
    refine up_ind ?_
    intro k hk ih hk0 hi1 hi2 q4
    refine wi_a1 hc rfl rfl ?_
    refine wi_gr (w := 599) hc rfl rfl (by decide) (Nat.le_of_ble_eq_true rfl) rfl ?_
    refine wi_bi hc rfl rfl ?_
    refine wi_ildv (N := 3642) hc rfl rfl (by decide) (by decide) (by omega) (by omega) (v := A 6) (congrFun (hA) _) ?_
    refine wi_zlt hc rfl ⟨by omega, by omega⟩ (fun h1_ => ?_) (fun h1_ => ?_)
    · refine wi_ic hc rfl ?_
      refine wi_ri hc rfl (by rw [cm_204]; rfl) ?_
      rw [show clP A T so la = -1 from ?_]
      by_cases q : A 6 < 0
      · unfold clP; rw [if_pos q]
      · have := (hV.text (by omega)).1
        rw [(hi2 (by omega)).2, show (T (705 * A 6) - k).toNat = 0 by omega]
        rfl
    · have ht := (hV.text (by omega)).1
      refine wi_i1 hc rfl rfl ?_
      refine wi_a1 hc rfl rfl ?_
      refine wi_gr (w := 601) hc rfl rfl (by decide) (Nat.le_of_ble_eq_true rfl) rfl ?_
      refine wi_si hc rfl rfl ?_
      refine wi_a1 hc rfl rfl ?_
      refine wi_gr (w := 599) hc rfl rfl (by decide) (Nat.le_of_ble_eq_true rfl) rfl ?_
      refine wi_bi hc rfl rfl ?_
      refine wi_ildv (N := 3642) hc rfl rfl (by decide) (by decide) (by omega) (by omega) (v := A 6) (congrFun (hA) _) ?_
      refine wi_mul hc rfl ?_
      refine wi_ildv (N := 2820) hc rfl rfl (by decide) (by decide) (by omega) (by omega) (v := T (705 * A 6)) ((congrFun (hT) _).trans (congrArg T (by omega))) ?_
      refine wi_cge hc rfl ⟨by omega, by omega⟩ ⟨by omega, by omega⟩ (fun h2_ => ?_) (fun h2_ => ?_)
      · refine wi_ic hc rfl ?_
        refine wi_ri hc rfl (by rw [cm_204]; rfl) ?_
        rw [show clP A T so la = -1 from ?_]
        by_cases q : A 6 < 0
        · unfold clP; rw [if_pos q]
        · have := (hV.text (by omega)).1
          rw [(hi2 (by omega)).2, show (T (705 * A 6) - k).toNat = 0 by omega]
          rfl
      · refine wi_si hc rfl rfl ?_
        refine wi_a1 hc rfl rfl ?_
        refine wi_gr (w := 599) hc rfl rfl (by decide) (Nat.le_of_ble_eq_true rfl) rfl ?_
        refine wi_bi hc rfl rfl ?_
        refine wi_ildv (N := 3642) hc rfl rfl (by decide) (by decide) (by omega) (by omega) (v := A 6) (congrFun (hA) _) ?_
        refine wi_mul hc rfl ?_
        refine wi_ic hc rfl ?_
        refine wi_add hc rfl ?_
        refine wi_ic hc rfl ?_
        refine wi_i1 hc rfl rfl ?_
        refine wi_mul hc rfl ?_
        refine wi_add hc rfl ?_
        refine wi_is2 (L' := [some (.ref 598), some (.int (iI so)), some (.int (iI la)), some (.int (iI k)), some (.int (iI (((705 * (A 6)) + 1) + (4 * k))))]) hc rfl (Nat.le_of_ble_eq_true rfl) rfl ?_
        have hk9 := (hV.text (by omega)).2 k (by omega) (by omega)
        refine wi_a1 hc rfl rfl ?_
        refine wi_gr (w := 601) hc rfl rfl (by decide) (Nat.le_of_ble_eq_true rfl) rfl ?_
        refine wi_i2 hc rfl rfl ?_
        refine wi_ildv (N := 2820) hc rfl rfl (by decide) (by decide) (by omega) (by omega) (v := T (705 * A 6 + 1 + 4 * k)) ((congrFun (hT) _).trans (congrArg T (by omega))) ?_
        refine wi_i1 hc rfl rfl ?_
        refine wi_cne hc rfl ⟨by omega, by omega⟩ hso (fun h3_ => ?_) (fun h3_ => ?_)
        · refine wi_inc (L' := [some (.ref 598), some (.int (iI so)), some (.int (iI la)), some (.int (iI (k + 1))), some (.int (iI (((705 * (A 6)) + 1) + (4 * k))))]) hc rfl rfl rfl ?_
          refine wi_go hc rfl ?_
          refine ih (by omega) (by omega) (by omega) (fun q => ⟨by omega, ?_⟩) _
          rw [(hi2 q).2, clF_miss (by omega) (by omega)]
          congr 1
          omega
        · refine wi_i1 hc rfl rfl ?_
          refine wi_zne hc rfl hso (fun h4_ => ?_) (fun h4_ => ?_)
          · refine wi_i1 hc rfl rfl ?_
            refine wi_ri hc rfl (by rw [cm_204]; rfl) ?_
            rw [show clP A T so la = k from by rw [(hi2 (by omega)).2, clF_hit (by omega) (by omega)]]
          · refine wi_a1 hc rfl rfl ?_
            refine wi_gr (w := 601) hc rfl rfl (by decide) (Nat.le_of_ble_eq_true rfl) rfl ?_
            refine wi_i2 hc rfl rfl ?_
            refine wi_ic hc rfl ?_
            refine wi_add hc rfl ?_
            refine wi_ildv (N := 2820) hc rfl rfl (by decide) (by decide) (by omega) (by omega) (v := T (705 * A 6 + 2 + 4 * k)) ((congrFun (hT) _).trans (congrArg T (by omega))) ?_
            refine wi_i1 hc rfl rfl ?_
            refine wi_cne hc rfl ⟨by omega, by omega⟩ hla (fun h5_ => ?_) (fun h5_ => ?_)
            · refine wi_inc (L' := [some (.ref 598), some (.int (iI so)), some (.int (iI la)), some (.int (iI (k + 1))), some (.int (iI (((705 * (A 6)) + 1) + (4 * k))))]) hc rfl rfl rfl ?_
              refine wi_go hc rfl ?_
              refine ih (by omega) (by omega) (by omega) (fun q => ⟨by omega, ?_⟩) _
              rw [(hi2 q).2, clF_miss (by omega) (by omega)]
              congr 1
              omega
            · refine wi_i1 hc rfl rfl ?_
              refine wi_ri hc rfl (by rw [cm_204]; rfl) ?_
              rw [show clP A T so la = k from by rw [(hi2 (by omega)).2, clF_hit (by omega) (by omega)]]
  refine loop2_ 0 (by omega) (by omega) (fun _ => rfl) (fun q => ⟨(hV.text q).1.1, ?_⟩) none
  unfold clP
  rw [if_neg (by omega)]
  congr 2
  omega
theorem sp_205 {d L t : Nat} {s l : Nat → Int → Int} {A T : Int → Int} (hJ : JM s A T) (hV : VJ A T) : mm_Ev mm_ct mm_CM (d + 2) 205 [.ref 598] (MX L t s l) (some (.int (iI (needP A T))), MX L t s l) := by
  have hc : (mm_CM 205).2.2.2.2.2.2.2 = mm_cf cd_205 := by rw [cm_205]; rfl
  refine ev_of (mx := 2) (by rw [cm_205]; decide) (by rw [cm_205]; rfl) (by show 1 ≤ _; decide) ?_
  show mm_wp _ _ (0, [some (.ref 598), none], [], MX L t s l) (fun r => r = (some (.int (iI (needP A T))), MX L t s l))
  have ⟨hA, hT, hN⟩ := hJ
  have g0 := hV.1
  have g2 := hV.2.1
  have g3 := hV.2.2.1
  have g5 := hV.2.2.2.1
  have g6 := hV.2.2.2.2.1
  have hc3 := clP_r hV 3 0
  have hc3b := clP_b hV 3 0
  refine wi_a1 hc rfl rfl ?_
  refine wi_ic hc rfl ?_
  refine wi_ic hc rfl ?_
  refine wp_cv (b := 598) (As := [.int (iI 3), .int (iI 0)]) (r := []) hc rfl (by rw [cm_204]; rfl) rfl (Nat.le_of_ble_eq_true rfl) (show 598 < 621 by decide) (by rw [cm_204]; rfl) (ev_mono (sp_204 (d := 0) hJ hV ⟨by decide, by decide⟩ ⟨by decide, by decide⟩) (by omega)) ?_
  show mm_wp _ _ (6, [some (.ref 598), none], [.int (iI (clP A T 3 0))], MX L t s l) _
  refine wi_is1 (L' := [some (.ref 598), some (.int (iI (clP A T 3 0)))]) hc rfl (Nat.le_of_ble_eq_true rfl) rfl ?_
  refine wi_i1 hc rfl rfl ?_
  refine wi_zge hc rfl ⟨by omega, by omega⟩ (fun h1_ => ?_) (fun h1_ => ?_)
  · have ht := (hV.text (by omega)).1
    refine wi_a1 hc rfl rfl ?_
    refine wi_gr (w := 601) hc rfl rfl (by decide) (Nat.le_of_ble_eq_true rfl) rfl ?_
    refine wi_si hc rfl rfl ?_
    refine wi_a1 hc rfl rfl ?_
    refine wi_gr (w := 599) hc rfl rfl (by decide) (Nat.le_of_ble_eq_true rfl) rfl ?_
    refine wi_bi hc rfl rfl ?_
    refine wi_ildv (N := 3642) hc rfl rfl (by decide) (by decide) (by omega) (by omega) (v := A 6) (congrFun (hA) _) ?_
    refine wi_mul hc rfl ?_
    refine wi_ic hc rfl ?_
    refine wi_add hc rfl ?_
    refine wi_ic hc rfl ?_
    refine wi_i1 hc rfl rfl ?_
    refine wi_mul hc rfl ?_
    refine wi_add hc rfl ?_
    refine wi_ildv (N := 2820) hc rfl rfl (by decide) (by decide) (by omega) (by omega) (v := T (705 * A 6 + 2 + 4 * clP A T 3 0)) ((congrFun (hT) _).trans (congrArg T (by omega))) ?_
    refine wi_ri hc rfl (by rw [cm_205]; rfl) ?_
    rw [show needP A T = T (705 * A 6 + 2 + 4 * clP A T 3 0) from by unfold needP; rw [if_neg (by omega)]]
  · refine wi_a1 hc rfl rfl ?_
    refine wi_gr (w := 599) hc rfl rfl (by decide) (Nat.le_of_ble_eq_true rfl) rfl ?_
    refine wi_ic hc rfl ?_
    refine wi_ildv (N := 3642) hc rfl rfl (by decide) (by decide) (by omega) (by omega) (v := A 3) (congrFun (hA) _) ?_
    refine wi_go hc rfl ?_
    refine wi_ri hc rfl (by rw [cm_205]; rfl) ?_
    rw [show needP A T = A 3 from by unfold needP; rw [if_pos (by omega)]]
theorem sp_206 {d L t : Nat} {s l : Nat → Int → Int} {A T : Int → Int} (hJ : JM s A T) (hV : VJ A T) {b : Int} (hb0 : 0 ≤ b) (hb1 : b < A 0) : ∃ s1, mm_Ev mm_ct mm_CM (d + 2) 206 [.ref 598, .int (iI b)] (MX L t s l) (none, MX L t s1 l) ∧ (∀ c, c ≠ 604 → s1 c = s c) ∧ (∀ j, 0 ≤ j → s1 604 j = nmA A b (s 604) j) ∧ JM s1 A T := by
  have hc : (mm_CM 206).2.2.2.2.2.2.2 = mm_cf cd_206 := by rw [cm_206]; rfl
  refine ev_xs ?_
  refine ev_to (mx := 3) (by rw [cm_206]; decide) (by rw [cm_206]; rfl) (by show 2 ≤ _; decide) ?_
  show mm_wp _ _ (0, [some (.ref 598), some (.int (iI b)), none], [], MX L t s l) (fun res => ∃ s1, res = (none, MX L t s1 l) ∧ (∀ c, c ≠ 604 → s1 c = s c) ∧ (∀ j, 0 ≤ j → s1 604 j = nmA A b (s 604) j) ∧ JM s1 A T)
  have ⟨hA, hT, hN⟩ := hJ
  have g0 := hV.1
  have g2 := hV.2.1
  have g3 := hV.2.2.1
  have g5 := hV.2.2.2.1
  have g6 := hV.2.2.2.2.1
  refine wi_a1 hc rfl rfl ?_
  refine wi_gr (w := 604) hc rfl rfl (by decide) (Nat.le_of_ble_eq_true rfl) rfl ?_
  refine wi_ic hc rfl ?_
  refine wi_i1 hc rfl rfl ?_
  refine wi_ist (N := 15) hc rfl rfl (by decide) (by decide) (by omega) (by omega) ?_
  obtain ⟨s1_, es1_⟩ : ∃ q, q = up s 604 0 b := ⟨_, rfl⟩
  rw [← es1_]
  refine wi_ic hc rfl ?_
  refine wi_is1 (L' := [some (.ref 598), some (.int (iI b)), some (.int (iI 0))]) hc rfl (Nat.le_of_ble_eq_true rfl) rfl ?_
  have loop9_ : ∀ k : Int, k ≤ 4 → 0 ≤ k → ∀ s2 : Nat → Int → Int, (∀ c, c ≠ 604 → s2 c = s c) → (∀ j, 0 ≤ j → s2 604 j = if j = 0 then b else if j < 1 + k then A (46 + 6 * b + (j - 1)) else s 604 j) → mm_wp (mm_Ev mm_ct mm_CM (d + 1)) 206 (9, [some (.ref 598), some (.int (iI b)), some (.int (iI k))], [], MX L t s2 l) (fun res => ∃ s1, res = (none, MX L t s1 l) ∧ (∀ c, c ≠ 604 → s1 c = s c) ∧ (∀ j, 0 ≤ j → s1 604 j = nmA A b (s 604) j) ∧ JM s1 A T) := by
    refine up_ind ?_
    intro k hk ih hk0 s2 hF hI
    refine wi_i1 hc rfl rfl ?_
    refine wi_ic hc rfl ?_
    refine wi_cge hc rfl ⟨by omega, by omega⟩ ⟨by decide, by decide⟩ (fun h1_ => ?_) (fun h1_ => ?_)
    · refine wi_a1 hc rfl rfl ?_
      refine wi_gr (w := 604) hc rfl rfl (by decide) (Nat.le_of_ble_eq_true rfl) rfl ?_
      refine wi_ic hc rfl ?_
      refine wi_a1 hc rfl rfl ?_
      refine wi_gr (w := 599) hc rfl rfl (by decide) (Nat.le_of_ble_eq_true rfl) rfl ?_
      refine wi_ic hc rfl ?_
      refine wi_ildv (N := 3642) hc rfl rfl (by decide) (by decide) (by omega) (by omega) (v := A 2) ((congrFun (hF 599 (by decide)) _).trans (congrFun (hA) _)) ?_
      refine wi_ist (N := 15) hc rfl rfl (by decide) (by decide) (by omega) (by omega) ?_
      obtain ⟨s2_, es2_⟩ : ∃ q, q = up s2 604 5 (A 2) := ⟨_, rfl⟩
      rw [← es2_]
      refine wi_rv hc rfl (by rw [cm_206]; rfl) ?_
      have hM : ∀ j, 0 ≤ j → s2_ 604 j = nmA A b (s 604) j := fun j hj => by
        have hj2 := hI j hj
        rw [es2_]
        unfold nmA
        by_cases q : j = 5
        · rw [up_e q, if_neg (by omega), if_neg (by omega), if_pos q]
        · rw [up_k q, hj2]
          (repeat' split) <;> first | rfl | omega
      refine ⟨s2_, rfl, fun c hc9_ => ((congrFun es2_ c).trans (up_cc (by omega))).trans (hF c (by omega)), hM, ((congrFun es2_ _).trans (up_cc (by decide))).trans ((hF 599 (by decide)).trans (hA)), ((congrFun es2_ _).trans (up_cc (by decide))).trans ((hF 601 (by decide)).trans (hT)), fun v hv hv2 => ?_⟩
      rw [hM v hv]
      exact nmA_r hV hb0 hb1 (fun j h1 h2 => hN j (by omega) h2) v hv hv2
    · refine wi_a1 hc rfl rfl ?_
      refine wi_gr (w := 604) hc rfl rfl (by decide) (Nat.le_of_ble_eq_true rfl) rfl ?_
      refine wi_ic hc rfl ?_
      refine wi_i1 hc rfl rfl ?_
      refine wi_add hc rfl ?_
      refine wi_a1 hc rfl rfl ?_
      refine wi_i1 hc rfl rfl ?_
      refine wi_i1 hc rfl rfl ?_
      refine wp_cv (b := 598) (As := [.int (iI b), .int (iI k)]) (r := [.int (iI (1 + k)), .ref 604]) hc rfl (by rw [cm_153]; rfl) rfl (Nat.le_of_ble_eq_true rfl) (show 598 < 621 by decide) (by rw [cm_153]; rfl) (ev_mono (sg_153 (d := 0) ((hF 599 (by decide)).trans (hA)) (by omega) (by omega) (by omega) (by omega)) (by omega)) ?_
      show mm_wp _ _ (27, [some (.ref 598), some (.int (iI b)), some (.int (iI k))], [.int (iI (A (46 + 6 * b + k))), .int (iI (1 + k)), .ref 604], MX L t s2 l) _
      refine wi_ist (N := 15) hc rfl rfl (by decide) (by decide) (by omega) (by omega) ?_
      obtain ⟨s3_, es3_⟩ : ∃ q, q = up s2 604 (1 + k) (A (46 + 6 * b + k)) := ⟨_, rfl⟩
      rw [← es3_]
      refine wi_inc (L' := [some (.ref 598), some (.int (iI b)), some (.int (iI (k + 1)))]) hc rfl rfl rfl ?_
      refine wi_go hc rfl ?_
      refine ih (by omega) (by omega) s3_ (fun c hc9_ => ((congrFun es3_ c).trans (up_cc (by omega))).trans (hF c (by omega))) (fun j hj => ?_)
      have hj2 := hI j hj
      rw [es3_]
      by_cases q : j = 1 + k
      · rw [up_e q, if_neg (by omega), if_pos (by omega), show j - 1 = k by omega]
      · rw [up_k q, hj2]
        (repeat' split) <;> first | rfl | omega
  refine loop9_ 0 (by omega) (by omega) s1_ (fun c hc9_ => (congrFun es1_ c).trans (up_cc (by omega))) (fun j hj => ?_)
  rw [es1_]
  by_cases q : j = 0
  · rw [up_e q, if_pos q]
  · rw [up_k q, if_neg q, if_neg (by omega)]
theorem sw_203 {d L t : Nat} {s l : Nat → Int → Int} {A T : Int → Int} (hJ : JM s A T) (hV : VJ A T) {k so : Int} (hk : okL T (705 * A 6) k so) (h6 : 0 ≤ A 6) (h0 : 0 ≤ k) (h1 : k < 24) : ∃ s1 l1, mm_Ev mm_ct mm_CM (d + 3) 203 [.ref 598, .int (iI k)] (MX L t s l) (none, MX L t s1 l1) ∧ (∀ c, c ≠ 606 → s1 c = s c) ∧ (∀ c, c ≠ 605 → l1 c = l c) ∧ (so = 2 → l1 605 0 = (vmT T (705 * A 6) k (s 604)).1 0) ∧ (so ≠ 2 → s1 606 0 = (vmT T (705 * A 6) k (s 604)).2 0) ∧ JM s1 A T := by
  obtain ⟨hA, hT, hN⟩ := hJ
  have g5 := hV.2.2.2.1
  have g6 := hV.2.2.2.2.1
  obtain ⟨N, q1, q2, q3, q4, q5, q6, q7⟩ := hk
  subst hA
  subst hT
  have e1 : (s 601 (705 * s 599 6 + 4 + 4 * k) - s 601 (705 * s 599 6 + 3 + 4 * k)).toNat = N := by omega
  obtain ⟨res, hE, s1, l1, rfl, hF, hG, r1, r2⟩ := sp_203 (d := d) (L := L) (t := t) (s := s) (l := l) (c := k) (fr := s 601 (705 * s 599 6 + 3 + 4 * k)) (N := N) (by omega) (by omega) h0 h1 q1 (by omega) (by congr 1; omega) (by rw [show 705 * s 599 6 + 1 + 4 * k + 3 = 705 * s 599 6 + 4 + 4 * k by omega, q3]) q5 hN
  have q8 : cNK (opM s) (s 601 (705 * s 599 6 + 3 + 4 * k)) N = if so = 2 then (1, 0) else (0, 1) := q7
  refine ⟨s1, l1, hE, hF, hG, fun h => ?_, fun h => ?_, hF 599 (by decide), hF 601 (by decide), ?_⟩
  · rw [q8, if_pos h] at r1
    unfold vmT
    rw [e1]
    exact r1 0 (by decide) (by show (0 : Int) < 1; decide)
  · rw [q8, if_neg h] at r2
    unfold vmT
    rw [e1]
    exact r2 0 (by decide) (by show (0 : Int) < 1; decide)
  · rw [hF 604 (by decide)]
    exact hN
theorem sp_207 {d L t : Nat} {s l : Nat → Int → Int} {A T : Int → Int} (hJ : JM s A T) (hV : VJ A T) {b : Int} (hb0 : 0 ≤ b) (hb1 : b < A 0) : ∃ s1 l1, mm_Ev mm_ct mm_CM (d + 4) 207 [.ref 598, .int (iI b)] (MX L t s l) (some (.int (iI (thickP A T b))), MX L t s1 l1) ∧ (∀ c, c ≠ 604 ∧ c ≠ 606 → s1 c = s c) ∧ (∀ c, c ≠ 605 → l1 c = l c) ∧ JM s1 A T := by
  have hc : (mm_CM 207).2.2.2.2.2.2.2 = mm_cf cd_207 := by rw [cm_207]; rfl
  refine ev_xsl ?_
  refine ev_to (mx := 3) (by rw [cm_207]; decide) (by rw [cm_207]; rfl) (by show 2 ≤ _; decide) ?_
  show mm_wp _ _ (0, [some (.ref 598), some (.int (iI b)), none], [], MX L t s l) (fun res => ∃ s1 l1, res = (some (.int (iI (thickP A T b))), MX L t s1 l1) ∧ (∀ c, c ≠ 604 ∧ c ≠ 606 → s1 c = s c) ∧ (∀ c, c ≠ 605 → l1 c = l c) ∧ JM s1 A T)
  have ⟨hA, hT, hN⟩ := hJ
  have g0 := hV.1
  have g2 := hV.2.1
  have g3 := hV.2.2.1
  have g5 := hV.2.2.2.1
  have g6 := hV.2.2.2.2.1
  have hc2 := clP_r hV 2 0
  have hc2b := clP_b hV 2 0
  have hvb := fun h => vmT_r (clP_ok hV (so := 2) (la := 0) (by decide) (by decide) h) (nmS_r hV hb0 hb1)
  refine wi_a1 hc rfl rfl ?_
  refine wi_gr (w := 599) hc rfl rfl (by decide) (Nat.le_of_ble_eq_true rfl) rfl ?_
  refine wi_ic hc rfl ?_
  refine wi_ildv (N := 3642) hc rfl rfl (by decide) (by decide) (by omega) (by omega) (v := A 2) (congrFun (hA) _) ?_
  refine wi_ic hc rfl ?_
  refine wi_cne hc rfl ⟨by omega, by omega⟩ ⟨by decide, by decide⟩ (fun h1_ => ?_) (fun h1_ => ?_)
  · refine wi_ic hc rfl ?_
    refine wi_is1 (L' := [some (.ref 598), some (.int (iI b)), some (.int (iI (-1)))]) hc rfl (Nat.le_of_ble_eq_true rfl) rfl ?_
    refine wi_i1 hc rfl rfl ?_
    refine wi_zge hc rfl ⟨by decide, by decide⟩ (fun q => absurd q (by decide)) (fun _ => ?_)
    refine wi_a1 hc rfl rfl ?_
    refine wi_i1 hc rfl rfl ?_
    refine wi_ic hc rfl ?_
    refine wp_cv (b := 598) (As := [.int (iI b), .int (iI 2)]) (r := []) hc rfl (by rw [cm_153]; rfl) rfl (Nat.le_of_ble_eq_true rfl) (show 598 < 621 by decide) (by rw [cm_153]; rfl) (ev_mono (sg_153 (d := 0) (hA) (by omega) (by omega) (by omega) (by omega)) (by omega)) ?_
    show mm_wp _ _ (31, [some (.ref 598), some (.int (iI b)), some (.int (iI (-1)))], [.int (iI (A (46 + 6 * b + 2)))], MX L t s l) _
    refine wi_ri hc rfl (by rw [cm_207]; rfl) ?_
    refine ⟨s, l, ?_, fun c hc9_ => rfl, fun c hc9_ => rfl, hJ⟩
    rw [show thickP A T b = A (46 + 6 * b + 2) from by unfold thickP; rw [if_neg (by omega)]; omega]
  · refine wi_a1 hc rfl rfl ?_
    refine wi_ic hc rfl ?_
    refine wi_ic hc rfl ?_
    refine wp_cv (b := 598) (As := [.int (iI 2), .int (iI 0)]) (r := []) hc rfl (by rw [cm_204]; rfl) rfl (Nat.le_of_ble_eq_true rfl) (show 598 < 621 by decide) (by rw [cm_204]; rfl) (ev_mono (sp_204 (d := 0) hJ hV ⟨by decide, by decide⟩ ⟨by decide, by decide⟩) (by omega)) ?_
    show mm_wp _ _ (16, [some (.ref 598), some (.int (iI b)), none], [.int (iI (clP A T 2 0))], MX L t s l) _
    refine wi_go hc rfl ?_
    refine wi_is1 (L' := [some (.ref 598), some (.int (iI b)), some (.int (iI (clP A T 2 0)))]) hc rfl (Nat.le_of_ble_eq_true rfl) rfl ?_
    refine wi_i1 hc rfl rfl ?_
    refine wi_zge hc rfl ⟨by omega, by omega⟩ (fun h3_ => ?_) (fun h3_ => ?_)
    · have ht := (hV.text (by omega)).1
      refine wi_a1 hc rfl rfl ?_
      refine wi_i1 hc rfl rfl ?_
      obtain ⟨s1_, hE1_, hF1_, hM1_, hJ1_⟩ := sp_206 (d := 0) (L := L) (t := t) (l := l) hJ hV (b := b) (by omega) (by omega)
      refine wp_cv (b := 598) (As := [.int (iI b)]) (r := []) hc rfl (by rw [cm_206]; rfl) rfl (Nat.le_of_ble_eq_true rfl) (show 598 < 621 by decide) (by rw [cm_206]; rfl) (ev_mono hE1_ (by omega)) ?_
      show mm_wp _ _ (37, [some (.ref 598), some (.int (iI b)), some (.int (iI (clP A T 2 0)))], [], MX L t s1_ l) _
      refine wi_a1 hc rfl rfl ?_
      refine wi_i1 hc rfl rfl ?_
      obtain ⟨s2_, l2_, hE2_, hF2_, hG2_, hv2_, ht2_, hJ2_⟩ := sw_203 (d := 0) (L := L) (t := t) (l := l) hJ1_ hV (k := (clP A T 2 0)) (clP_ok hV (so := 2) (by decide) (by decide) (by omega)) (by omega) (by omega) (by omega)
      refine wp_cv (b := 598) (As := [.int (iI (clP A T 2 0))]) (r := []) hc rfl (by rw [cm_203]; rfl) rfl (Nat.le_of_ble_eq_true rfl) (show 598 < 621 by decide) (by rw [cm_203]; rfl) (ev_mono hE2_ (by omega)) ?_
      have hv := hv2_ rfl
      show mm_wp _ _ (42, [some (.ref 598), some (.int (iI b)), some (.int (iI (clP A T 2 0)))], [], MX L t s2_ l2_) _
      refine wi_a1 hc rfl rfl ?_
      refine wi_i1 hc rfl rfl ?_
      refine wi_ic hc rfl ?_
      refine wp_cv (b := 598) (As := [.int (iI b), .int (iI 2)]) (r := []) hc rfl (by rw [cm_153]; rfl) rfl (Nat.le_of_ble_eq_true rfl) (show 598 < 621 by decide) (by rw [cm_153]; rfl) (ev_mono (sg_153 (d := 0) (hJ2_.1) (by omega) (by omega) (by omega) (by omega)) (by omega)) ?_
      show mm_wp _ _ (48, [some (.ref 598), some (.int (iI b)), some (.int (iI (clP A T 2 0)))], [.int (iI (A (46 + 6 * b + 2)))], MX L t s2_ l2_) _
      refine wi_a1 hc rfl rfl ?_
      have hcg0 : vmT T (705 * A 6) (clP A T 2 0) (nmS A b) = vmT T (705 * A 6) (clP A T 2 0) (s1_ 604) := vmT_congr (clP_ok hV (so := 2) (by decide) (by decide) (by omega)) (fun v hv0 hv1 hv2 => by unfold okNm at hv2; rw [hM1_ v hv0]; unfold nmS nmA; (repeat' split) <;> first | rfl | omega)
      have hvb2 := (hvb (by omega)).1
      rw [hcg0, ← hv] at hvb2
      refine wi_gr (w := 605) hc rfl rfl (by decide) (Nat.le_of_ble_eq_true rfl) rfl ?_
      refine wi_ic hc rfl ?_
      refine wi_lld (N := 330) hc rfl rfl (by decide) (by decide) (by omega) (by omega) ?_
      refine wl_ic (z := 0) hc ⟨_, rfl, rfl⟩ ?_
      have h4_ := cmpI_spec (l2_ 605 0) 0
      refine wl_cmp hc rfl ⟨by omega, by omega⟩ ⟨by decide, by decide⟩ ?_
      refine wi_zge hc rfl (cmpI_r _ _) (fun h5_ => ?_) (fun h5_ => ?_)
      · refine wi_a1 hc rfl rfl ?_
        refine wi_gr (w := 605) hc rfl rfl (by decide) (Nat.le_of_ble_eq_true rfl) rfl ?_
        refine wi_ic hc rfl ?_
        refine wi_lld (N := 330) hc rfl rfl (by decide) (by decide) (by omega) (by omega) ?_
        refine wl_ld (z := 9) hc rfl rfl ?_
        have h6_ := cmpI_spec (l2_ 605 0) 9
        refine wl_cmp hc rfl ⟨by omega, by omega⟩ ⟨by decide, by decide⟩ ?_
        refine wi_zle hc rfl (cmpI_r _ _) (fun h7_ => ?_) (fun h7_ => ?_)
        · refine wi_a1 hc rfl rfl ?_
          refine wi_gr (w := 605) hc rfl rfl (by decide) (Nat.le_of_ble_eq_true rfl) rfl ?_
          refine wi_ic hc rfl ?_
          refine wi_lld (N := 330) hc rfl rfl (by decide) (by decide) (by omega) (by omega) ?_
          refine wl_l2i hc rfl ?_
          refine wi_add hc rfl ?_
          refine wi_ri hc rfl (by rw [cm_207]; rfl) ?_
          refine ⟨s2_, l2_, ?_, fun c hc9_ => (hF2_ c (by omega)).trans (hF1_ c (by omega)), fun c hc9_ => hG2_ c (by omega), hJ2_⟩
          have hcg : vmT T (705 * A 6) (clP A T 2 0) (nmS A b) = vmT T (705 * A 6) (clP A T 2 0) (s1_ 604) := vmT_congr (clP_ok hV (so := 2) (by decide) (by decide) (by omega)) (fun v hv0 hv1 hv2 => by unfold okNm at hv2; rw [hM1_ v hv0]; unfold nmS nmA; (repeat' split) <;> first | rfl | omega)
          rw [show thickP A T b = (A (46 + 6 * b + 2)) + (l2_ 605 0) from by unfold thickP; rw [if_pos ⟨by omega, by omega⟩, hcg, ← hv]; unfold c09; (repeat' split) <;> omega]
        · refine wi_bi hc rfl rfl ?_
          refine wi_go hc rfl ?_
          refine wi_add hc rfl ?_
          refine wi_ri hc rfl (by rw [cm_207]; rfl) ?_
          refine ⟨s2_, l2_, ?_, fun c hc9_ => (hF2_ c (by omega)).trans (hF1_ c (by omega)), fun c hc9_ => hG2_ c (by omega), hJ2_⟩
          have hcg : vmT T (705 * A 6) (clP A T 2 0) (nmS A b) = vmT T (705 * A 6) (clP A T 2 0) (s1_ 604) := vmT_congr (clP_ok hV (so := 2) (by decide) (by decide) (by omega)) (fun v hv0 hv1 hv2 => by unfold okNm at hv2; rw [hM1_ v hv0]; unfold nmS nmA; (repeat' split) <;> first | rfl | omega)
          rw [show thickP A T b = (A (46 + 6 * b + 2)) + 9 from by unfold thickP; rw [if_pos ⟨by omega, by omega⟩, hcg, ← hv]; unfold c09; (repeat' split) <;> omega]
      · refine wi_ic hc rfl ?_
        refine wi_go hc rfl ?_
        refine wi_add hc rfl ?_
        refine wi_ri hc rfl (by rw [cm_207]; rfl) ?_
        refine ⟨s2_, l2_, ?_, fun c hc9_ => (hF2_ c (by omega)).trans (hF1_ c (by omega)), fun c hc9_ => hG2_ c (by omega), hJ2_⟩
        have hcg : vmT T (705 * A 6) (clP A T 2 0) (nmS A b) = vmT T (705 * A 6) (clP A T 2 0) (s1_ 604) := vmT_congr (clP_ok hV (so := 2) (by decide) (by decide) (by omega)) (fun v hv0 hv1 hv2 => by unfold okNm at hv2; rw [hM1_ v hv0]; unfold nmS nmA; (repeat' split) <;> first | rfl | omega)
        rw [show thickP A T b = (A (46 + 6 * b + 2)) + 0 from by unfold thickP; rw [if_pos ⟨by omega, by omega⟩, hcg, ← hv]; unfold c09; (repeat' split) <;> omega]
    · refine wi_a1 hc rfl rfl ?_
      refine wi_i1 hc rfl rfl ?_
      refine wi_ic hc rfl ?_
      refine wp_cv (b := 598) (As := [.int (iI b), .int (iI 2)]) (r := []) hc rfl (by rw [cm_153]; rfl) rfl (Nat.le_of_ble_eq_true rfl) (show 598 < 621 by decide) (by rw [cm_153]; rfl) (ev_mono (sg_153 (d := 0) (hA) (by omega) (by omega) (by omega) (by omega)) (by omega)) ?_
      show mm_wp _ _ (31, [some (.ref 598), some (.int (iI b)), some (.int (iI (clP A T 2 0)))], [.int (iI (A (46 + 6 * b + 2)))], MX L t s l) _
      refine wi_ri hc rfl (by rw [cm_207]; rfl) ?_
      refine ⟨s, l, ?_, fun c hc9_ => rfl, fun c hc9_ => rfl, hJ⟩
      rw [show thickP A T b = A (46 + 6 * b + 2) from by unfold thickP; rw [if_neg (by omega)]; omega]
theorem sp_208 {d L t : Nat} {s l : Nat → Int → Int} {A T : Int → Int} (hJ : JM s A T) (hV : VJ A T) {x : Int} (hx0 : 0 ≤ x) (hx1 : x ≤ 2) (hm0 : 0 ≤ A (13 + x)) (hm1 : A (13 + x) ≤ 10) (hbk : ∀ p, 0 ≤ p → p < A (13 + x) → 0 ≤ A (16 + 10 * x + p) ∧ A (16 + 10 * x + p) < A 0) : ∃ s1 l1, mm_Ev mm_ct mm_CM (d + 5) 208 [.ref 598, .int (iI x)] (MX L t s l) (some (.int (iI (fullP A T x))), MX L t s1 l1) ∧ (∀ c, c ≠ 604 ∧ c ≠ 606 → s1 c = s c) ∧ (∀ c, c ≠ 605 → l1 c = l c) ∧ JM s1 A T := by
  have hc : (mm_CM 208).2.2.2.2.2.2.2 = mm_cf cd_208 := by rw [cm_208]; rfl
  refine ev_xsl ?_
  refine ev_to (mx := 4) (by rw [cm_208]; decide) (by rw [cm_208]; rfl) (by show 2 ≤ _; decide) ?_
  show mm_wp _ _ (0, [some (.ref 598), some (.int (iI x)), none, none], [], MX L t s l) (fun res => ∃ s1 l1, res = (some (.int (iI (fullP A T x))), MX L t s1 l1) ∧ (∀ c, c ≠ 604 ∧ c ≠ 606 → s1 c = s c) ∧ (∀ c, c ≠ 605 → l1 c = l c) ∧ JM s1 A T)
  have ⟨hA, hT, hN⟩ := hJ
  have g0 := hV.1
  have g2 := hV.2.1
  have g3 := hV.2.2.1
  have g5 := hV.2.2.2.1
  have g6 := hV.2.2.2.2.1
  refine wi_ic hc rfl ?_
  refine wi_is1 (L' := [some (.ref 598), some (.int (iI x)), some (.int (iI 0)), none]) hc rfl (Nat.le_of_ble_eq_true rfl) rfl ?_
  refine wi_ic hc rfl ?_
  refine wi_is1 (L' := [some (.ref 598), some (.int (iI x)), some (.int (iI 0)), some (.int (iI 0))]) hc rfl (Nat.le_of_ble_eq_true rfl) rfl ?_
  have loop4_ : ∀ p : Int, p ≤ A (13 + x) → 0 ≤ p → ∀ (f : Int) (s2 l2 : Nat → Int → Int), f = fullN A T x p.toNat → 0 ≤ f → f ≤ 18 * p → (∀ c, c ≠ 604 ∧ c ≠ 606 → s2 c = s c) → (∀ c, c ≠ 605 → l2 c = l c) → JM s2 A T → mm_wp (mm_Ev mm_ct mm_CM (d + 4)) 208 (4, [some (.ref 598), some (.int (iI x)), some (.int (iI f)), some (.int (iI p))], [], MX L t s2 l2) (fun res => ∃ s1 l1, res = (some (.int (iI (fullP A T x))), MX L t s1 l1) ∧ (∀ c, c ≠ 604 ∧ c ≠ 606 → s1 c = s c) ∧ (∀ c, c ≠ 605 → l1 c = l c) ∧ JM s1 A T) := by
    refine up_ind ?_
    intro p hp ih hp0 f s2 l2 hf hf0 hf1 hF hG hJ2
    refine wi_i1 hc rfl rfl ?_
    refine wi_a1 hc rfl rfl ?_
    refine wi_gr (w := 599) hc rfl rfl (by decide) (Nat.le_of_ble_eq_true rfl) rfl ?_
    refine wi_bi hc rfl rfl ?_
    refine wi_i1 hc rfl rfl ?_
    refine wi_add hc rfl ?_
    refine wi_ildv (N := 3642) hc rfl rfl (by decide) (by decide) (by omega) (by omega) (v := A (13 + x)) (congrFun (hJ2.1) _) ?_
    refine wi_cge hc rfl ⟨by omega, by omega⟩ ⟨by omega, by omega⟩ (fun h1_ => ?_) (fun h1_ => ?_)
    · refine wi_i1 hc rfl rfl ?_
      refine wi_ri hc rfl (by rw [cm_208]; rfl) ?_
      have e9 : p = A (13 + x) := by omega
      refine ⟨s2, l2, ?_, hF, hG, hJ2⟩
      rw [show fullP A T x = f from by rw [hf, e9]; rfl]
    · have hb9 := hbk p (by omega) (by omega)
      refine wi_i1 hc rfl rfl ?_
      refine wi_a1 hc rfl rfl ?_
      refine wi_a1 hc rfl rfl ?_
      refine wi_i1 hc rfl rfl ?_
      refine wi_i1 hc rfl rfl ?_
      refine wp_cv (b := 598) (As := [.int (iI x), .int (iI p)]) (r := [.ref 598, .int (iI f)]) hc rfl (by rw [cm_155]; rfl) rfl (Nat.le_of_ble_eq_true rfl) (show 598 < 621 by decide) (by rw [cm_155]; rfl) (ev_mono (sg_155 (d := 0) (hJ2.1) (by omega) (by omega) (by omega) (by omega)) (by omega)) ?_
      show mm_wp _ _ (25, [some (.ref 598), some (.int (iI x)), some (.int (iI f)), some (.int (iI p))], [.int (iI (A (16 + 10 * x + p))), .ref 598, .int (iI f)], MX L t s2 l2) _
      obtain ⟨s1_, l1_, hE1_, hF1_, hG1_, hJ1_⟩ := sp_207 (d := 0) (L := L) (t := t) (l := l2) hJ2 hV (b := (A (16 + 10 * x + p))) (by omega) (by omega)
      refine wp_cv (b := 598) (As := [.int (iI (A (16 + 10 * x + p)))]) (r := [.int (iI f)]) hc rfl (by rw [cm_207]; rfl) rfl (Nat.le_of_ble_eq_true rfl) (show 598 < 621 by decide) (by rw [cm_207]; rfl) (ev_mono hE1_ (by omega)) ?_
      show mm_wp _ _ (28, [some (.ref 598), some (.int (iI x)), some (.int (iI f)), some (.int (iI p))], [.int (iI (thickP A T (A (16 + 10 * x + p)))), .int (iI f)], MX L t s1_ l1_) _
      have ht9 := thickP_r hV hb9.1 hb9.2
      refine wi_add hc rfl ?_
      refine wi_is1 (L' := [some (.ref 598), some (.int (iI x)), some (.int (iI (f + (thickP A T (A (16 + 10 * x + p)))))), some (.int (iI p))]) hc rfl (Nat.le_of_ble_eq_true rfl) rfl ?_
      refine wi_inc (L' := [some (.ref 598), some (.int (iI x)), some (.int (iI (f + (thickP A T (A (16 + 10 * x + p)))))), some (.int (iI (p + 1)))]) hc rfl rfl rfl ?_
      refine wi_go hc rfl ?_
      refine ih (by omega) (by omega) _ s1_ l1_ ?_ (by omega) (by omega) (fun c hc9_ => (hF1_ c (by omega)).trans (hF c (by omega))) (fun c hc9_ => (hG1_ c (by omega)).trans (hG c (by omega))) hJ1_
      rw [show (p + 1).toNat = p.toNat + 1 by omega, fullN, hf, show ((p.toNat : Nat) : Int) = p by omega]
  exact loop4_ 0 (by omega) (by omega) 0 s l rfl (by decide) (by decide) (fun c _ => rfl) (fun c _ => rfl) hJ
theorem sp_209 {d L t : Nat} {s l : Nat → Int → Int} {A T : Int → Int} (hJ : JM s A T) (hV : VJ A T) {la b o right : Int} (hla : rI la) (hb0 : 0 ≤ b) (hb1 : b < A 0) (ho0 : 0 ≤ o) (ho1 : o < A 0) (hr : right = 0 ∨ right = 1) : ∃ s1 l1, mm_Ev mm_ct mm_CM (d + 4) 209 [.ref 598, .int (iI la), .int (iI b), .int (iI o), .int (iI right)] (MX L t s l) (some (.int (iI (pushP A T la b o right))), MX L t s1 l1) ∧ (∀ c, c ≠ 604 ∧ c ≠ 606 → s1 c = s c) ∧ (∀ c, c ≠ 605 → l1 c = l c) ∧ JM s1 A T := by
  have hc : (mm_CM 209).2.2.2.2.2.2.2 = mm_cf cd_209 := by rw [cm_209]; rfl
  refine ev_xsl ?_
  refine ev_to (mx := 7) (by rw [cm_209]; decide) (by rw [cm_209]; rfl) (by show 5 ≤ _; decide) ?_
  show mm_wp _ _ (0, [some (.ref 598), some (.int (iI la)), some (.int (iI b)), some (.int (iI o)), some (.int (iI right)), none, none], [], MX L t s l) (fun res => ∃ s1 l1, res = (some (.int (iI (pushP A T la b o right))), MX L t s1 l1) ∧ (∀ c, c ≠ 604 ∧ c ≠ 606 → s1 c = s c) ∧ (∀ c, c ≠ 605 → l1 c = l c) ∧ JM s1 A T)
  have ⟨hA, hT, hN⟩ := hJ
  have g0 := hV.1
  have g2 := hV.2.1
  have g3 := hV.2.2.1
  have g5 := hV.2.2.2.1
  have g6 := hV.2.2.2.2.1
  have hc0 := clP_r hV 0 la
  have hc0b := clP_b hV 0 la
  refine wi_a1 hc rfl rfl ?_
  refine wi_ic hc rfl ?_
  refine wi_i1 hc rfl rfl ?_
  refine wp_cv (b := 598) (As := [.int (iI 0), .int (iI la)]) (r := []) hc rfl (by rw [cm_204]; rfl) rfl (Nat.le_of_ble_eq_true rfl) (show 598 < 621 by decide) (by rw [cm_204]; rfl) (ev_mono (sp_204 (d := 0) hJ hV ⟨by decide, by decide⟩ hla) (by omega)) ?_
  show mm_wp _ _ (6, [some (.ref 598), some (.int (iI la)), some (.int (iI b)), some (.int (iI o)), some (.int (iI right)), none, none], [.int (iI (clP A T 0 la))], MX L t s l) _
  refine wi_is2 (L' := [some (.ref 598), some (.int (iI la)), some (.int (iI b)), some (.int (iI o)), some (.int (iI right)), some (.int (iI (clP A T 0 la))), none]) hc rfl (Nat.le_of_ble_eq_true rfl) rfl ?_
  refine wi_i2 hc rfl rfl ?_
  refine wi_zge hc rfl ⟨by omega, by omega⟩ (fun h1_ => ?_) (fun h1_ => ?_)
  · have ht := (hV.text (by omega)).1
    refine wi_a1 hc rfl rfl ?_
    refine wi_i1 hc rfl rfl ?_
    obtain ⟨s1_, hE1_, hF1_, hM1_, hJ1_⟩ := sp_206 (d := 0) (L := L) (t := t) (l := l) hJ hV (b := b) (by omega) (by omega)
    refine wp_cv (b := 598) (As := [.int (iI b)]) (r := []) hc rfl (by rw [cm_206]; rfl) rfl (Nat.le_of_ble_eq_true rfl) (show 598 < 621 by decide) (by rw [cm_206]; rfl) (ev_mono hE1_ (by omega)) ?_
    show mm_wp _ _ (20, [some (.ref 598), some (.int (iI la)), some (.int (iI b)), some (.int (iI o)), some (.int (iI right)), some (.int (iI (clP A T 0 la))), none], [], MX L t s1_ l) _
    refine wi_a1 hc rfl rfl ?_
    refine wi_gr (w := 604) hc rfl rfl (by decide) (Nat.le_of_ble_eq_true rfl) rfl ?_
    refine wi_bi hc rfl rfl ?_
    refine wi_i2 hc rfl rfl ?_
    refine wi_b01 hc rfl rfl rfl rfl (by omega) ?_
    refine wi_ist (N := 15) hc rfl rfl (by decide) (by decide) (by omega) (by omega) ?_
    obtain ⟨s2_, es2_⟩ : ∃ q, q = up s1_ 604 6 right := ⟨_, rfl⟩
    rw [← es2_]
    refine wi_a1 hc rfl rfl ?_
    refine wi_gr (w := 604) hc rfl rfl (by decide) (Nat.le_of_ble_eq_true rfl) rfl ?_
    refine wi_bi hc rfl rfl ?_
    refine wi_i1 hc rfl rfl ?_
    refine wi_ist (N := 15) hc rfl rfl (by decide) (by decide) (by omega) (by omega) ?_
    obtain ⟨s3_, es3_⟩ : ∃ q, q = up s2_ 604 7 o := ⟨_, rfl⟩
    rw [← es3_]
    refine wi_ic hc rfl ?_
    refine wi_is2 (L' := [some (.ref 598), some (.int (iI la)), some (.int (iI b)), some (.int (iI o)), some (.int (iI right)), some (.int (iI (clP A T 0 la))), some (.int (iI 0))]) hc rfl (Nat.le_of_ble_eq_true rfl) rfl ?_
    have loop48_ : ∀ k : Int, k ≤ 4 → 0 ≤ k → ∀ s2 : Nat → Int → Int, (∀ c, c ≠ 604 → s2 c = s c) → (∀ j, 0 ≤ j → s2 604 j = nmA A b (fun j => if j = 6 then right else if j = 7 then o else if 8 ≤ j ∧ j < 8 + k then A (46 + 6 * o + (j - 8)) else s 604 j) j) → mm_wp (mm_Ev mm_ct mm_CM (d + 3)) 209 (48, [some (.ref 598), some (.int (iI la)), some (.int (iI b)), some (.int (iI o)), some (.int (iI right)), some (.int (iI (clP A T 0 la))), some (.int (iI k))], [], MX L t s2 l) (fun res => ∃ s1 l1, res = (some (.int (iI (pushP A T la b o right))), MX L t s1 l1) ∧ (∀ c, c ≠ 604 ∧ c ≠ 606 → s1 c = s c) ∧ (∀ c, c ≠ 605 → l1 c = l c) ∧ JM s1 A T) := by
      refine up_ind ?_
      intro k hk ih hk0 s2 hF hI
      have g1 := (hV.2.2.2.2.2.1 o ho0 ho1).1
      refine wi_i2 hc rfl rfl ?_
      refine wi_ic hc rfl ?_
      refine wi_cge hc rfl ⟨by omega, by omega⟩ ⟨by decide, by decide⟩ (fun h2_ => ?_) (fun h2_ => ?_)
      · have hkk : k = 4 := by omega
        have hJ2 : JM s2 A T := ⟨(hF 599 (by decide)).trans hA, (hF 601 (by decide)).trans hT, fun v hv hv2 => by
          rw [hI v hv]
          refine nmA_r hV hb0 hb1 (fun j h1 h2 => ?_) v hv hv2
          have := hN j (by omega) h2
          have := g1 (j - 8)
          (repeat' split) <;> omega⟩
        refine wi_a1 hc rfl rfl ?_
        refine wi_i2 hc rfl rfl ?_
        obtain ⟨s4_, l4_, hE4_, hF4_, hG4_, hv4_, ht4_, hJ4_⟩ := sw_203 (d := 0) (L := L) (t := t) (l := l) hJ2 hV (k := (clP A T 0 la)) (clP_ok hV (so := 0) (by decide) (by decide) (by omega)) (by omega) (by omega) (by omega)
        refine wp_cv (b := 598) (As := [.int (iI (clP A T 0 la))]) (r := []) hc rfl (by rw [cm_203]; rfl) rfl (Nat.le_of_ble_eq_true rfl) (show 598 < 621 by decide) (by rw [cm_203]; rfl) (ev_mono hE4_ (by omega)) ?_
        have hv := ht4_ (by decide)
        show mm_wp _ _ (83, [some (.ref 598), some (.int (iI la)), some (.int (iI b)), some (.int (iI o)), some (.int (iI right)), some (.int (iI (clP A T 0 la))), some (.int (iI k))], [], MX L t s4_ l4_) _
        have hpv : pushP A T la b o right = s4_ 606 0 := by
          unfold pushP
          rw [if_neg (by omega), hv]
          refine congrArg (fun q : (Int → Int) × (Int → Int) => q.2 0) (vmT_congr (clP_ok hV (so := 0) (by decide) (by decide) (by omega)) (fun v hv0 hv1 hv2 => ?_))
          unfold okNm at hv2
          rw [hI v hv0]
          unfold nmL nmA; dsimp only
          (repeat' split) <;> first | rfl | omega
        have hp01 := pushP_01 hV (la := la) hb0 hb1 ho0 ho1 hr
        refine wi_a1 hc rfl rfl ?_
        refine wi_gr (w := 606) hc rfl rfl (by decide) (Nat.le_of_ble_eq_true rfl) rfl ?_
        refine wi_ic hc rfl ?_
        refine wi_bld (N := 330) hc rfl rfl (by decide) (by decide) (by omega) (by omega) ?_
        refine wi_rx (by omega) hc rfl (by rw [cm_209]; rfl) ?_
        refine ⟨s4_, l4_, ?_, fun c hc9_ => (hF4_ c (by omega)).trans (hF c (by omega)), fun c hc9_ => hG4_ c (by omega), hJ4_⟩
        rw [hpv]
      · refine wi_a1 hc rfl rfl ?_
        refine wi_gr (w := 604) hc rfl rfl (by decide) (Nat.le_of_ble_eq_true rfl) rfl ?_
        refine wi_bi hc rfl rfl ?_
        refine wi_i2 hc rfl rfl ?_
        refine wi_add hc rfl ?_
        refine wi_a1 hc rfl rfl ?_
        refine wi_i1 hc rfl rfl ?_
        refine wi_i2 hc rfl rfl ?_
        refine wp_cv (b := 598) (As := [.int (iI o), .int (iI k)]) (r := [.int (iI (8 + k)), .ref 604]) hc rfl (by rw [cm_153]; rfl) rfl (Nat.le_of_ble_eq_true rfl) (show 598 < 621 by decide) (by rw [cm_153]; rfl) (ev_mono (sg_153 (d := 0) ((hF 599 (by decide)).trans (hA)) (by omega) (by omega) (by omega) (by omega)) (by omega)) ?_
        show mm_wp _ _ (70, [some (.ref 598), some (.int (iI la)), some (.int (iI b)), some (.int (iI o)), some (.int (iI right)), some (.int (iI (clP A T 0 la))), some (.int (iI k))], [.int (iI (A (46 + 6 * o + k))), .int (iI (8 + k)), .ref 604], MX L t s2 l) _
        refine wi_ist (N := 15) hc rfl rfl (by decide) (by decide) (by omega) (by omega) ?_
        obtain ⟨s5_, es5_⟩ : ∃ q, q = up s2 604 (8 + k) (A (46 + 6 * o + k)) := ⟨_, rfl⟩
        rw [← es5_]
        refine wi_inc (L' := [some (.ref 598), some (.int (iI la)), some (.int (iI b)), some (.int (iI o)), some (.int (iI right)), some (.int (iI (clP A T 0 la))), some (.int (iI (k + 1)))]) hc rfl rfl rfl ?_
        refine wi_go hc rfl ?_
        refine ih (by omega) (by omega) s5_ (fun c hc9_ => ((congrFun es5_ c).trans (up_cc (by omega))).trans (hF c (by omega))) (fun j hj => ?_)
        have hj2 := hI j hj
        rw [es5_]
        by_cases q : j = 8 + k
        · rw [up_e q]
          unfold nmA; dsimp only
          rw [if_neg (by omega), if_neg (by omega), if_neg (by omega), if_neg (by omega), if_neg (by omega), if_pos (by omega), show j - 8 = k by omega]
        · rw [up_k q, hj2]
          unfold nmA; dsimp only
          (repeat' split) <;> first | rfl | omega
    refine loop48_ 0 (by omega) (by omega) s3_ (fun c hc9_ => ((congrFun es3_ c).trans (up_cc (by omega))).trans (((congrFun es2_ c).trans (up_cc (by omega))).trans (hF1_ c (by omega)))) (fun j hj => ?_)
    have hj2 := hM1_ j hj
    rw [es3_, es2_]
    by_cases q : j = 7
    · rw [up_e q]; unfold nmA; dsimp only; (repeat' split) <;> first | rfl | omega
    · rw [up_k q]
      by_cases q2 : j = 6
      · rw [up_e q2]; unfold nmA; dsimp only; (repeat' split) <;> first | rfl | omega
      · rw [up_k q2, hj2]; unfold nmA; dsimp only; (repeat' split) <;> first | rfl | omega
  · refine wi_ic hc rfl ?_
    refine wi_r0 hc rfl (by rw [cm_209]; rfl) ?_
    refine ⟨s, l, ?_, fun c hc9_ => rfl, fun c hc9_ => rfl, hJ⟩
    rw [show pushP A T la b o right = 0 from by unfold pushP; rw [if_pos (by omega)]]
theorem sp_210 {d L t : Nat} {s l : Nat → Int → Int} {A T : Int → Int} (hJ : JM s A T) (hV : VJ A T) {b o right : Int} (hb0 : 0 ≤ b) (hb1 : b < A 0) (ho0 : 0 ≤ o) (ho1 : o < A 0) (hr : right = 0 ∨ right = 1) : ∃ s1 l1, mm_Ev mm_ct mm_CM (d + 5) 210 [.ref 598, .int (iI b), .int (iI o), .int (iI right)] (MX L t s l) (some (.int (iI (pushP A T (A (46 + 6 * b + 4)) b o right))), MX L t s1 l1) ∧ (∀ c, c ≠ 604 ∧ c ≠ 606 → s1 c = s c) ∧ (∀ c, c ≠ 605 → l1 c = l c) ∧ JM s1 A T := by
  have hc : (mm_CM 210).2.2.2.2.2.2.2 = mm_cf cd_210 := by rw [cm_210]; rfl
  refine ev_xsl ?_
  refine ev_to (mx := 4) (by rw [cm_210]; decide) (by rw [cm_210]; rfl) (by show 4 ≤ _; decide) ?_
  show mm_wp _ _ (0, [some (.ref 598), some (.int (iI b)), some (.int (iI o)), some (.int (iI right))], [], MX L t s l) (fun res => ∃ s1 l1, res = (some (.int (iI (pushP A T (A (46 + 6 * b + 4)) b o right))), MX L t s1 l1) ∧ (∀ c, c ≠ 604 ∧ c ≠ 606 → s1 c = s c) ∧ (∀ c, c ≠ 605 → l1 c = l c) ∧ JM s1 A T)
  have ⟨hA, hT, hN⟩ := hJ
  have g0 := hV.1
  have g2 := hV.2.1
  have g3 := hV.2.2.1
  have g5 := hV.2.2.2.1
  have g6 := hV.2.2.2.2.1
  have gb := hV.2.2.2.2.2.1 b hb0 hb1
  have hp01 := pushP_01 hV (la := A (46 + 6 * b + 4)) hb0 hb1 ho0 ho1 hr
  refine wi_a1 hc rfl rfl ?_
  refine wi_a1 hc rfl rfl ?_
  refine wi_i1 hc rfl rfl ?_
  refine wi_ic hc rfl ?_
  refine wp_cv (b := 598) (As := [.int (iI b), .int (iI 4)]) (r := [.ref 598]) hc rfl (by rw [cm_153]; rfl) rfl (Nat.le_of_ble_eq_true rfl) (show 598 < 621 by decide) (by rw [cm_153]; rfl) (ev_mono (sg_153 (d := 0) (hA) (by omega) (by omega) (by omega) (by omega)) (by omega)) ?_
  show mm_wp _ _ (7, [some (.ref 598), some (.int (iI b)), some (.int (iI o)), some (.int (iI right))], [.int (iI (A (46 + 6 * b + 4))), .ref 598], MX L t s l) _
  refine wi_i1 hc rfl rfl ?_
  refine wi_i1 hc rfl rfl ?_
  refine wi_i1 hc rfl rfl ?_
  obtain ⟨s1_, l1_, hE1_, hF1_, hG1_, hJ1_⟩ := sp_209 (d := 0) (L := L) (t := t) (l := l) hJ hV (la := (A (46 + 6 * b + 4))) (b := b) (o := o) (right := right) ⟨by omega, by omega⟩ (by omega) (by omega) (by omega) (by omega) (by omega)
  refine wp_cv (b := 598) (As := [.int (iI (A (46 + 6 * b + 4))), .int (iI b), .int (iI o), .int (iI right)]) (r := []) hc rfl (by rw [cm_209]; rfl) rfl (Nat.le_of_ble_eq_true rfl) (show 598 < 621 by decide) (by rw [cm_209]; rfl) (ev_mono hE1_ (by omega)) ?_
  show mm_wp _ _ (13, [some (.ref 598), some (.int (iI b)), some (.int (iI o)), some (.int (iI right))], [.int (iI (pushP A T (A (46 + 6 * b + 4)) b o right))], MX L t s1_ l1_) _
  refine wi_rx (by omega) hc rfl (by rw [cm_210]; rfl) ?_
  refine ⟨s1_, l1_, ?_, fun c hc9_ => hF1_ c (by omega), fun c hc9_ => hG1_ c (by omega), hJ1_⟩
  rfl
/-- whether two that stand beside each other change: 0 or 1 -/
def chgI (A T : Int → Int) (x y : Int) : Int := bI (needP A T ≤ pushP A T (A (46 + 6 * x + 4)) x y 1 + pushP A T (A (46 + 6 * y + 4)) y x 0)
theorem chgI_01 (A T : Int → Int) (x y : Int) : chgI A T x y = 0 ∨ chgI A T x y = 1 := bI_01 _
theorem sp_211 {d L t : Nat} {s l : Nat → Int → Int} {A T : Int → Int} (hJ : JM s A T) (hV : VJ A T) {x y : Int} (hx0 : 0 ≤ x) (hx1 : x < A 0) (hy0 : 0 ≤ y) (hy1 : y < A 0) : ∃ s1 l1, mm_Ev mm_ct mm_CM (d + 6) 211 [.ref 598, .int (iI x), .int (iI y)] (MX L t s l) (some (.int (iI (chgI A T x y))), MX L t s1 l1) ∧ (∀ c, c ≠ 604 ∧ c ≠ 606 → s1 c = s c) ∧ (∀ c, c ≠ 605 → l1 c = l c) ∧ JM s1 A T := by
  have hc : (mm_CM 211).2.2.2.2.2.2.2 = mm_cf cd_211 := by rw [cm_211]; rfl
  refine ev_xsl ?_
  refine ev_to (mx := 4) (by rw [cm_211]; decide) (by rw [cm_211]; rfl) (by show 3 ≤ _; decide) ?_
  show mm_wp _ _ (0, [some (.ref 598), some (.int (iI x)), some (.int (iI y)), none], [], MX L t s l) (fun res => ∃ s1 l1, res = (some (.int (iI (chgI A T x y))), MX L t s1 l1) ∧ (∀ c, c ≠ 604 ∧ c ≠ 606 → s1 c = s c) ∧ (∀ c, c ≠ 605 → l1 c = l c) ∧ JM s1 A T)
  have ⟨hA, hT, hN⟩ := hJ
  have g0 := hV.1
  have g2 := hV.2.1
  have g3 := hV.2.2.1
  have g5 := hV.2.2.2.1
  have g6 := hV.2.2.2.2.1
  have hp1 := pushP_01 hV (la := A (46 + 6 * x + 4)) hx0 hx1 hy0 hy1 (Or.inr rfl)
  have hp2 := pushP_01 hV (la := A (46 + 6 * y + 4)) hy0 hy1 hx0 hx1 (Or.inl rfl)
  have hn9 := needP_r hV
  refine wi_a1 hc rfl rfl ?_
  refine wi_i1 hc rfl rfl ?_
  refine wi_i1 hc rfl rfl ?_
  refine wi_ic hc rfl ?_
  obtain ⟨s1_, l1_, hE1_, hF1_, hG1_, hJ1_⟩ := sp_210 (d := 0) (L := L) (t := t) (l := l) hJ hV (b := x) (o := y) (right := 1) (by omega) (by omega) (by omega) (by omega) (by omega)
  refine wp_cv (b := 598) (As := [.int (iI x), .int (iI y), .int (iI 1)]) (r := []) hc rfl (by rw [cm_210]; rfl) rfl (Nat.le_of_ble_eq_true rfl) (show 598 < 621 by decide) (by rw [cm_210]; rfl) (ev_mono hE1_ (by omega)) ?_
  show mm_wp _ _ (7, [some (.ref 598), some (.int (iI x)), some (.int (iI y)), none], [.int (iI (pushP A T (A (46 + 6 * x + 4)) x y 1))], MX L t s1_ l1_) _
  refine wi_b01 hc rfl rfl rfl rfl (by omega) ?_
  refine wi_a1 hc rfl rfl ?_
  refine wi_i1 hc rfl rfl ?_
  refine wi_i1 hc rfl rfl ?_
  refine wi_ic hc rfl ?_
  obtain ⟨s2_, l2_, hE2_, hF2_, hG2_, hJ2_⟩ := sp_210 (d := 0) (L := L) (t := t) (l := l1_) hJ1_ hV (b := y) (o := x) (right := 0) (by omega) (by omega) (by omega) (by omega) (by omega)
  refine wp_cv (b := 598) (As := [.int (iI y), .int (iI x), .int (iI 0)]) (r := [.int (iI (pushP A T (A (46 + 6 * x + 4)) x y 1))]) hc rfl (by rw [cm_210]; rfl) rfl (Nat.le_of_ble_eq_true rfl) (show 598 < 621 by decide) (by rw [cm_210]; rfl) (ev_mono hE2_ (by omega)) ?_
  show mm_wp _ _ (22, [some (.ref 598), some (.int (iI x)), some (.int (iI y)), none], [.int (iI (pushP A T (A (46 + 6 * y + 4)) y x 0)), .int (iI (pushP A T (A (46 + 6 * x + 4)) x y 1))], MX L t s2_ l2_) _
  refine wi_b01 hc rfl rfl rfl rfl (by omega) ?_
  refine wi_add hc rfl ?_
  refine wi_is1 (L' := [some (.ref 598), some (.int (iI x)), some (.int (iI y)), some (.int (iI ((pushP A T (A (46 + 6 * x + 4)) x y 1) + (pushP A T (A (46 + 6 * y + 4)) y x 0))))]) hc rfl (Nat.le_of_ble_eq_true rfl) rfl ?_
  refine wi_i1 hc rfl rfl ?_
  refine wi_a1 hc rfl rfl ?_
  refine wp_cv (b := 598) (As := []) (r := [.int (iI ((pushP A T (A (46 + 6 * x + 4)) x y 1) + (pushP A T (A (46 + 6 * y + 4)) y x 0)))]) hc rfl (by rw [cm_205]; rfl) rfl (Nat.le_of_ble_eq_true rfl) (show 598 < 621 by decide) (by rw [cm_205]; rfl) (ev_mono (sp_205 (d := 0) hJ2_ hV) (by omega)) ?_
  show mm_wp _ _ (37, [some (.ref 598), some (.int (iI x)), some (.int (iI y)), some (.int (iI ((pushP A T (A (46 + 6 * x + 4)) x y 1) + (pushP A T (A (46 + 6 * y + 4)) y x 0))))], [.int (iI (needP A T)), .int (iI ((pushP A T (A (46 + 6 * x + 4)) x y 1) + (pushP A T (A (46 + 6 * y + 4)) y x 0)))], MX L t s2_ l2_) _
  refine wi_clt hc rfl ⟨by omega, by omega⟩ ⟨by omega, by omega⟩ (fun h1_ => ?_) (fun h1_ => ?_)
  · refine wi_ic hc rfl ?_
    refine wi_r0 hc rfl (by rw [cm_211]; rfl) ?_
    refine ⟨s2_, l2_, ?_, fun c hc9_ => (hF2_ c (by omega)).trans (hF1_ c (by omega)), fun c hc9_ => (hG2_ c (by omega)).trans (hG1_ c (by omega)), hJ2_⟩
    rw [show chgI A T x y = 0 from bI_f (by omega)]
  · refine wi_ic hc rfl ?_
    refine wi_go hc rfl ?_
    refine wi_r1 hc rfl (by rw [cm_211]; rfl) ?_
    refine ⟨s2_, l2_, ?_, fun c hc9_ => (hF2_ c (by omega)).trans (hF1_ c (by omega)), fun c hc9_ => (hG2_ c (by omega)).trans (hG1_ c (by omega)), hJ2_⟩
    rw [show chgI A T x y = 1 from bI_t (by omega)]
