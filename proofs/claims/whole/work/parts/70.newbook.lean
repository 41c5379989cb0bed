/-! A new book, on both sides. -/
theorem sp_126 {d L t : Nat} {s l : Nat → Int → Int} {x : Int} (hx : rI x) : mm_Ev mm_ct mm_CM (d + 1) 126 [.int (iI x)] (MX L t s l) (some (.int (iI (bI (0 ≤ x ∧ x ≤ 9)))), MX L t s l) := by
  have hc : (mm_CM 126).2.2.2.2.2.2.2 = mm_cf cd_126 := by rw [cm_126]; rfl
  refine ev_of (mx := 1) (by rw [cm_126]; decide) (by rw [cm_126]; rfl) (by show 1 ≤ _; decide) ?_
  show mm_wp _ _ (0, [some (.int (iI x))], [], MX L t s l) (fun r => r = (some (.int (iI (bI (0 ≤ x ∧ x ≤ 9)))), MX L t s l))
  refine wi_i1 hc rfl rfl ?_
  refine wi_zlt hc rfl hx (fun h1_ => ?_) (fun h1_ => ?_)
  · refine wi_ic hc rfl ?_
    refine wi_r0 hc rfl (by rw [cm_126]; rfl) ?_
    rw [bI_f (p := 0 ≤ x ∧ x ≤ 9) (by omega)]
  · refine wi_i1 hc rfl rfl ?_
    refine wi_bi hc rfl rfl ?_
    refine wi_cgt hc rfl hx ⟨by decide, by decide⟩ (fun h2_ => ?_) (fun h2_ => ?_)
    · refine wi_ic hc rfl ?_
      refine wi_r0 hc rfl (by rw [cm_126]; rfl) ?_
      rw [bI_f (p := 0 ≤ x ∧ x ≤ 9) (by omega)]
    · refine wi_ic hc rfl ?_
      refine wi_go hc rfl ?_
      refine wi_r1 hc rfl (by rw [cm_126]; rfl) ?_
      rw [bI_t (p := 0 ≤ x ∧ x ≤ 9) (by omega)]
theorem sp_86 {d L t : Nat} {s l : Nat → Int → Int} {A T : Int → Int} (hJ : JC s A T) (hK : KA A T) {a b c d9 e : Int} (ha : rI a) (hb : rI b) (hc2 : rI c) (hd : rI d9) (he : rI e) : ∃ s1, mm_Ev mm_ct mm_CM (d + 2) 86 [.ref 0, .int (iI a), .int (iI b), .int (iI c), .int (iI d9), .int (iI e)] (MX L t s l) (some (.int (iI (bookR A a b c d9 e).2)), MX L t s1 l) ∧ (∀ c, c ≠ 1 ∧ ¬ (13 ≤ c ∧ c ≤ 22) → s1 c = s c) ∧ JC s1 (bookR A a b c d9 e).1 T := by
  have hc : (mm_CM 86).2.2.2.2.2.2.2 = mm_cf cd_86 := by rw [cm_86]; rfl
  refine ev_xs ?_
  refine ev_to (mx := 7) (by rw [cm_86]; decide) (by rw [cm_86]; rfl) (by show 6 ≤ _; decide) ?_
  show mm_wp _ _ (0, [some (.ref 0), some (.int (iI a)), some (.int (iI b)), some (.int (iI c)), some (.int (iI d9)), some (.int (iI e)), none], [], MX L t s l) (fun res => ∃ s1, res = (some (.int (iI (bookR A a b c d9 e).2)), MX L t s1 l) ∧ (∀ c, c ≠ 1 ∧ ¬ (13 ≤ c ∧ c ≤ 22) → s1 c = s c) ∧ JC s1 (bookR A a b c d9 e).1 T)
  have hB := hK.2.1
  have g0 := hB.1
  refine wi_a1 hc rfl rfl ?_
  refine wi_gr (w := 1) hc rfl rfl (by decide) (Nat.le_of_ble_eq_true rfl) rfl ?_
  refine wi_gfv (kz := 8) rfl hc rfl rfl (by decide) (Nat.le_of_ble_eq_true rfl) rfl (v := A 0) (lb_books hJ.1) ?_
  refine wi_bi hc rfl rfl ?_
  refine wi_cge hc rfl ⟨by omega, by omega⟩ ⟨by decide, by decide⟩ (fun h1_ => ?_) (fun h1_ => ?_)
  · refine wi_ic hc rfl ?_
    refine wi_ri hc rfl (by rw [cm_86]; rfl) ?_
    have hR : bookR A a b c d9 e = (A, -1) := by unfold bookR; rw [if_neg (by omega)]
    rw [hR]
    exact ⟨s, rfl, fun c _ => rfl, hJ⟩
  · refine wi_i1 hc rfl rfl ?_
    refine wp_cs (As := [.int (iI a)]) (r := []) hc rfl (by rw [cm_126]; rfl) rfl (Nat.le_of_ble_eq_true rfl) (ev_mono (sp_126 (d := 0) ha) (by omega)) ?_
    show mm_wp _ _ (16, [some (.ref 0), some (.int (iI a)), some (.int (iI b)), some (.int (iI c)), some (.int (iI d9)), some (.int (iI e)), none], [.int (iI (bI (0 ≤ a ∧ a ≤ 9)))], MX L t s l) _
    refine wi_beq hc rfl (fun h2_ => ?_) (fun h2_ => ?_)
    · refine wi_ic hc rfl ?_
      refine wi_ri hc rfl (by rw [cm_86]; rfl) ?_
      have hR : bookR A a b c d9 e = (A, -1) := by unfold bookR; rw [if_neg (by omega)]
      rw [hR]
      exact ⟨s, rfl, fun c _ => rfl, hJ⟩
    · refine wi_i1 hc rfl rfl ?_
      refine wp_cs (As := [.int (iI b)]) (r := []) hc rfl (by rw [cm_126]; rfl) rfl (Nat.le_of_ble_eq_true rfl) (ev_mono (sp_126 (d := 0) hb) (by omega)) ?_
      show mm_wp _ _ (23, [some (.ref 0), some (.int (iI a)), some (.int (iI b)), some (.int (iI c)), some (.int (iI d9)), some (.int (iI e)), none], [.int (iI (bI (0 ≤ b ∧ b ≤ 9)))], MX L t s l) _
      refine wi_beq hc rfl (fun h3_ => ?_) (fun h3_ => ?_)
      · refine wi_ic hc rfl ?_
        refine wi_ri hc rfl (by rw [cm_86]; rfl) ?_
        have hR : bookR A a b c d9 e = (A, -1) := by unfold bookR; rw [if_neg (by omega)]
        rw [hR]
        exact ⟨s, rfl, fun c _ => rfl, hJ⟩
      · refine wi_i2 hc rfl rfl ?_
        refine wp_cs (As := [.int (iI d9)]) (r := []) hc rfl (by rw [cm_126]; rfl) rfl (Nat.le_of_ble_eq_true rfl) (ev_mono (sp_126 (d := 0) hd) (by omega)) ?_
        show mm_wp _ _ (31, [some (.ref 0), some (.int (iI a)), some (.int (iI b)), some (.int (iI c)), some (.int (iI d9)), some (.int (iI e)), none], [.int (iI (bI (0 ≤ d9 ∧ d9 ≤ 9)))], MX L t s l) _
        refine wi_bne hc rfl (fun h4_ => ?_) (fun h4_ => ?_)
        · refine wi_i1 hc rfl rfl ?_
          refine wi_ic hc rfl ?_
          refine wi_clt hc rfl hc2 ⟨by decide, by decide⟩ (fun h5_ => ?_) (fun h5_ => ?_)
          · refine wi_ic hc rfl ?_
            refine wi_ri hc rfl (by rw [cm_86]; rfl) ?_
            have hR : bookR A a b c d9 e = (A, -1) := by unfold bookR; rw [if_neg (by omega)]
            rw [hR]
            exact ⟨s, rfl, fun c _ => rfl, hJ⟩
          · refine wi_i1 hc rfl rfl ?_
            refine wp_cs (As := [.int (iI c)]) (r := []) hc rfl (by rw [cm_126]; rfl) rfl (Nat.le_of_ble_eq_true rfl) (ev_mono (sp_126 (d := 0) hc2) (by omega)) ?_
            show mm_wp _ _ (45, [some (.ref 0), some (.int (iI a)), some (.int (iI b)), some (.int (iI c)), some (.int (iI d9)), some (.int (iI e)), none], [.int (iI (bI (0 ≤ c ∧ c ≤ 9)))], MX L t s l) _
            refine wi_beq hc rfl (fun h6_ => ?_) (fun h6_ => ?_)
            · refine wi_ic hc rfl ?_
              refine wi_ri hc rfl (by rw [cm_86]; rfl) ?_
              have hR : bookR A a b c d9 e = (A, -1) := by unfold bookR; rw [if_neg (by omega)]
              rw [hR]
              exact ⟨s, rfl, fun c _ => rfl, hJ⟩
            · refine wi_i2 hc rfl rfl ?_
              refine wi_zlt hc rfl he (fun h7_ => ?_) (fun h7_ => ?_)
              · refine wi_ic hc rfl ?_
                refine wi_ri hc rfl (by rw [cm_86]; rfl) ?_
                have hR : bookR A a b c d9 e = (A, -1) := by unfold bookR; rw [if_neg (by omega)]
                rw [hR]
                exact ⟨s, rfl, fun c _ => rfl, hJ⟩
              · refine wi_i2 hc rfl rfl ?_
                refine wi_bi hc rfl rfl ?_
                refine wi_clt hc rfl he ⟨by decide, by decide⟩ (fun h8_ => ?_) (fun h8_ => ?_)
                · refine wi_a1 hc rfl rfl ?_
                  refine wi_gr (w := 1) hc rfl rfl (by decide) (Nat.le_of_ble_eq_true rfl) rfl ?_
                  refine wi_gr (w := 12) hc rfl rfl (by decide) (Nat.le_of_ble_eq_true rfl) rfl ?_
                  refine wi_a1 hc rfl rfl ?_
                  refine wi_gr (w := 1) hc rfl rfl (by decide) (Nat.le_of_ble_eq_true rfl) rfl ?_
                  refine wi_gfv (kz := 8) rfl hc rfl rfl (by decide) (Nat.le_of_ble_eq_true rfl) rfl (v := A 0) (lb_books hJ.1) ?_
                  refine wi_ald (w := 13 + (A 0).toNat) (N := 10) hc rfl (Nat.le_of_ble_eq_true rfl) (Nat.le_of_ble_eq_true rfl) (by decide) rfl (by decide) (by omega) (by omega) (sh_trait12 (by omega) (by omega)) ?_
                  refine wi_as2 (L' := [some (.ref 0), some (.int (iI a)), some (.int (iI b)), some (.int (iI c)), some (.int (iI d9)), some (.int (iI e)), some (.ref (13 + (A 0).toNat))]) hc rfl (Nat.le_of_ble_eq_true rfl) rfl ?_
                  refine wi_a2 hc rfl rfl ?_
                  refine wi_ic hc rfl ?_
                  refine wi_i1 hc rfl rfl ?_
                  refine wi_ist (N := 5) hc rfl (sh_traits (by omega) (by omega)) (by omega) (by decide) (by omega) (by omega) ?_
                  obtain ⟨s1_, es1_⟩ : ∃ q, q = up s (13 + (A 0).toNat) 0 a := ⟨_, rfl⟩
                  rw [← es1_]
                  refine wi_a2 hc rfl rfl ?_
                  refine wi_ic hc rfl ?_
                  refine wi_i1 hc rfl rfl ?_
                  refine wi_ist (N := 5) hc rfl (sh_traits (by omega) (by omega)) (by omega) (by decide) (by omega) (by omega) ?_
                  obtain ⟨s2_, es2_⟩ : ∃ q, q = up s1_ (13 + (A 0).toNat) 1 b := ⟨_, rfl⟩
                  rw [← es2_]
                  refine wi_a2 hc rfl rfl ?_
                  refine wi_ic hc rfl ?_
                  refine wi_i1 hc rfl rfl ?_
                  refine wi_ist (N := 5) hc rfl (sh_traits (by omega) (by omega)) (by omega) (by decide) (by omega) (by omega) ?_
                  obtain ⟨s3_, es3_⟩ : ∃ q, q = up s2_ (13 + (A 0).toNat) 2 c := ⟨_, rfl⟩
                  rw [← es3_]
                  refine wi_a2 hc rfl rfl ?_
                  refine wi_ic hc rfl ?_
                  refine wi_i2 hc rfl rfl ?_
                  refine wi_ist (N := 5) hc rfl (sh_traits (by omega) (by omega)) (by omega) (by decide) (by omega) (by omega) ?_
                  obtain ⟨s4_, es4_⟩ : ∃ q, q = up s3_ (13 + (A 0).toNat) 3 d9 := ⟨_, rfl⟩
                  rw [← es4_]
                  refine wi_a2 hc rfl rfl ?_
                  refine wi_ic hc rfl ?_
                  refine wi_i2 hc rfl rfl ?_
                  refine wi_ist (N := 5) hc rfl (sh_traits (by omega) (by omega)) (by omega) (by decide) (by omega) (by omega) ?_
                  obtain ⟨s5_, es5_⟩ : ∃ q, q = up s4_ (13 + (A 0).toNat) 4 e := ⟨_, rfl⟩
                  rw [← es5_]
                  refine wi_a1 hc rfl rfl ?_
                  refine wi_gr (w := 1) hc rfl rfl (by decide) (Nat.le_of_ble_eq_true rfl) rfl ?_
                  refine wi_dupr hc rfl ?_
                  refine wi_gfv (kz := 8) rfl hc rfl rfl (by decide) (Nat.le_of_ble_eq_true rfl) rfl (v := A 0) (((congrFun (congrFun es5_ _) _).trans (up_c (by omega))).trans (((congrFun (congrFun es4_ _) _).trans (up_c (by omega))).trans (((congrFun (congrFun es3_ _) _).trans (up_c (by omega))).trans (((congrFun (congrFun es2_ _) _).trans (up_c (by omega))).trans (((congrFun (congrFun es1_ _) _).trans (up_c (by omega))).trans (lb_books hJ.1)))))) ?_
                  refine wi_ic hc rfl ?_
                  refine wi_add hc rfl ?_
                  refine wi_pf (kz := 8) rfl hc rfl rfl (by decide) (Nat.le_of_ble_eq_true rfl) rfl (Nat.le_of_ble_eq_true rfl) ⟨rfl, rfl⟩ rfl ?_
                  obtain ⟨s6_, es6_⟩ : ∃ q, q = up s5_ 1 8 ((A 0) + 1) := ⟨_, rfl⟩
                  rw [← es6_]
                  refine wi_a1 hc rfl rfl ?_
                  refine wi_gr (w := 1) hc rfl rfl (by decide) (Nat.le_of_ble_eq_true rfl) rfl ?_
                  refine wi_gfv (kz := 8) rfl hc rfl rfl (by decide) (Nat.le_of_ble_eq_true rfl) rfl (v := (A 0) + 1) ((congrFun (congrFun es6_ _) _).trans (up_e (by omega))) ?_
                  refine wi_ic hc rfl ?_
                  refine wi_sub hc rfl ?_
                  refine wi_ri hc rfl (by rw [cm_86]; rfl) ?_
                  have hR : bookR A a b c d9 e = (bookF A a b c d9 e, A 0) := by unfold bookR; rw [if_pos (by omega)]
                  rw [hR]
                  have hs1 : ∀ k, s6_ 1 k = if k = 8 then A 0 + 1 else s 1 k := fun k => by
                    by_cases q : k = 8
                    · rw [if_pos q, es6_, up_e q]
                    · rw [if_neg q, es6_, up_k q, es5_, up_cc (by omega), es4_, up_cc (by omega), es3_, up_cc (by omega), es2_, up_cc (by omega), es1_, up_cc (by omega)]
                  have hcc : ∀ q, q ≠ 1 → q ≠ 13 + (A 0).toNat → s6_ q = s q := fun q a1 a2 => by rw [es6_, up_cc a1, es5_, up_cc a2, es4_, up_cc a2, es3_, up_cc a2, es2_, up_cc a2, es1_, up_cc a2]
                  refine ⟨s6_, by rw [show ((A 0) + 1) - 1 = A 0 by omega], fun q hq => hcc q (by omega) (by omega), lb_newbook hJ.1 hK (by omega) hcc hs1 (by rw [es6_, up_cc (by omega), es5_, up_k (by decide), es4_, up_k (by decide), es3_, up_k (by decide), es2_, up_k (by decide), es1_, up_e rfl]) (by rw [es6_, up_cc (by omega), es5_, up_k (by decide), es4_, up_k (by decide), es3_, up_k (by decide), es2_, up_e rfl]) (by rw [es6_, up_cc (by omega), es5_, up_k (by decide), es4_, up_k (by decide), es3_, up_e rfl]) (by rw [es6_, up_cc (by omega), es5_, up_k (by decide), es4_, up_e rfl]) (by rw [es6_, up_cc (by omega), es5_, up_e rfl]), by rw [hcc 578 (by decide) (by omega)]; exact hJ.2⟩
                · refine wi_ic hc rfl ?_
                  refine wi_ri hc rfl (by rw [cm_86]; rfl) ?_
                  have hR : bookR A a b c d9 e = (A, -1) := by unfold bookR; rw [if_neg (by omega)]
                  rw [hR]
                  exact ⟨s, rfl, fun c _ => rfl, hJ⟩
        · refine wi_ic hc rfl ?_
          refine wi_ri hc rfl (by rw [cm_86]; rfl) ?_
          have hR : bookR A a b c d9 e = (A, -1) := by unfold bookR; rw [if_neg (by omega)]
          rw [hR]
          exact ⟨s, rfl, fun c _ => rfl, hJ⟩
theorem sp_158 {d L t : Nat} {s l : Nat → Int → Int} {A T : Int → Int} (hJ : JM s A T) (hK : KA A T) {a b c d9 e : Int} (ha : rI a) (hb : rI b) (hc2 : rI c) (hd : rI d9) (he : rI e) : ∃ s1, mm_Ev mm_ct mm_CM (d + 2) 158 [.ref 598, .int (iI a), .int (iI b), .int (iI c), .int (iI d9), .int (iI e)] (MX L t s l) (some (.int (iI (bookR A a b c d9 e).2)), MX L t s1 l) ∧ (∀ c, c ≠ 599 → s1 c = s c) ∧ JM s1 (bookR A a b c d9 e).1 T := by
  have hc : (mm_CM 158).2.2.2.2.2.2.2 = mm_cf cd_158 := by rw [cm_158]; rfl
  refine ev_xs ?_
  refine ev_to (mx := 7) (by rw [cm_158]; decide) (by rw [cm_158]; rfl) (by show 6 ≤ _; decide) ?_
  show mm_wp _ _ (0, [some (.ref 598), some (.int (iI a)), some (.int (iI b)), some (.int (iI c)), some (.int (iI d9)), some (.int (iI e)), none], [], MX L t s l) (fun res => ∃ s1, res = (some (.int (iI (bookR A a b c d9 e).2)), MX L t s1 l) ∧ (∀ c, c ≠ 599 → s1 c = s c) ∧ JM s1 (bookR A a b c d9 e).1 T)
  have hB := hK.2.1
  have g0 := hB.1
  refine wi_i1 hc rfl rfl ?_
  refine wi_ic hc rfl ?_
  refine wi_bi hc rfl rfl ?_
  refine wp_cs (As := [.int (iI a), .int (iI 0), .int (iI 9)]) (r := []) hc rfl (by rw [cm_148]; rfl) rfl (Nat.le_of_ble_eq_true rfl) (ev_mono (sp_148 (d := 0) ha ⟨by decide, by decide⟩ ⟨by decide, by decide⟩) (by omega)) ?_
  show mm_wp _ _ (7, [some (.ref 598), some (.int (iI a)), some (.int (iI b)), some (.int (iI c)), some (.int (iI d9)), some (.int (iI e)), none], [.int (iI (bI (0 ≤ a ∧ a ≤ 9)))], MX L t s l) _
  refine wi_beq hc rfl (fun h1_ => ?_) (fun h1_ => ?_)
  · refine wi_ic hc rfl ?_
    refine wi_ri hc rfl (by rw [cm_158]; rfl) ?_
    have hR : bookR A a b c d9 e = (A, -1) := by unfold bookR; rw [if_neg (by omega)]
    rw [hR]
    exact ⟨s, rfl, fun c _ => rfl, hJ⟩
  · refine wi_i1 hc rfl rfl ?_
    refine wi_ic hc rfl ?_
    refine wi_bi hc rfl rfl ?_
    refine wp_cs (As := [.int (iI b), .int (iI 0), .int (iI 9)]) (r := []) hc rfl (by rw [cm_148]; rfl) rfl (Nat.le_of_ble_eq_true rfl) (ev_mono (sp_148 (d := 0) hb ⟨by decide, by decide⟩ ⟨by decide, by decide⟩) (by omega)) ?_
    show mm_wp _ _ (17, [some (.ref 598), some (.int (iI a)), some (.int (iI b)), some (.int (iI c)), some (.int (iI d9)), some (.int (iI e)), none], [.int (iI (bI (0 ≤ b ∧ b ≤ 9)))], MX L t s l) _
    refine wi_beq hc rfl (fun h2_ => ?_) (fun h2_ => ?_)
    · refine wi_ic hc rfl ?_
      refine wi_ri hc rfl (by rw [cm_158]; rfl) ?_
      have hR : bookR A a b c d9 e = (A, -1) := by unfold bookR; rw [if_neg (by omega)]
      rw [hR]
      exact ⟨s, rfl, fun c _ => rfl, hJ⟩
    · refine wi_i1 hc rfl rfl ?_
      refine wi_ic hc rfl ?_
      refine wi_bi hc rfl rfl ?_
      refine wp_cs (As := [.int (iI c), .int (iI 1), .int (iI 9)]) (r := []) hc rfl (by rw [cm_148]; rfl) rfl (Nat.le_of_ble_eq_true rfl) (ev_mono (sp_148 (d := 0) hc2 ⟨by decide, by decide⟩ ⟨by decide, by decide⟩) (by omega)) ?_
      show mm_wp _ _ (27, [some (.ref 598), some (.int (iI a)), some (.int (iI b)), some (.int (iI c)), some (.int (iI d9)), some (.int (iI e)), none], [.int (iI (bI (1 ≤ c ∧ c ≤ 9)))], MX L t s l) _
      refine wi_beq hc rfl (fun h3_ => ?_) (fun h3_ => ?_)
      · refine wi_ic hc rfl ?_
        refine wi_ri hc rfl (by rw [cm_158]; rfl) ?_
        have hR : bookR A a b c d9 e = (A, -1) := by unfold bookR; rw [if_neg (by omega)]
        rw [hR]
        exact ⟨s, rfl, fun c _ => rfl, hJ⟩
      · refine wi_i2 hc rfl rfl ?_
        refine wi_ic hc rfl ?_
        refine wi_bi hc rfl rfl ?_
        refine wp_cs (As := [.int (iI d9), .int (iI 0), .int (iI 9)]) (r := []) hc rfl (by rw [cm_148]; rfl) rfl (Nat.le_of_ble_eq_true rfl) (ev_mono (sp_148 (d := 0) hd ⟨by decide, by decide⟩ ⟨by decide, by decide⟩) (by omega)) ?_
        show mm_wp _ _ (38, [some (.ref 598), some (.int (iI a)), some (.int (iI b)), some (.int (iI c)), some (.int (iI d9)), some (.int (iI e)), none], [.int (iI (bI (0 ≤ d9 ∧ d9 ≤ 9)))], MX L t s l) _
        refine wi_beq hc rfl (fun h4_ => ?_) (fun h4_ => ?_)
        · refine wi_ic hc rfl ?_
          refine wi_ri hc rfl (by rw [cm_158]; rfl) ?_
          have hR : bookR A a b c d9 e = (A, -1) := by unfold bookR; rw [if_neg (by omega)]
          rw [hR]
          exact ⟨s, rfl, fun c _ => rfl, hJ⟩
        · refine wi_i2 hc rfl rfl ?_
          refine wi_ic hc rfl ?_
          refine wi_ic hc rfl ?_
          refine wp_cs (As := [.int (iI e), .int (iI 0), .int (iI 5)]) (r := []) hc rfl (by rw [cm_148]; rfl) rfl (Nat.le_of_ble_eq_true rfl) (ev_mono (sp_148 (d := 0) he ⟨by decide, by decide⟩ ⟨by decide, by decide⟩) (by omega)) ?_
          show mm_wp _ _ (48, [some (.ref 598), some (.int (iI a)), some (.int (iI b)), some (.int (iI c)), some (.int (iI d9)), some (.int (iI e)), none], [.int (iI (bI (0 ≤ e ∧ e ≤ 5)))], MX L t s l) _
          refine wi_beq hc rfl (fun h5_ => ?_) (fun h5_ => ?_)
          · refine wi_ic hc rfl ?_
            refine wi_ri hc rfl (by rw [cm_158]; rfl) ?_
            have hR : bookR A a b c d9 e = (A, -1) := by unfold bookR; rw [if_neg (by omega)]
            rw [hR]
            exact ⟨s, rfl, fun c _ => rfl, hJ⟩
          · refine wi_a1 hc rfl rfl ?_
            refine wi_gr (w := 599) hc rfl rfl (by decide) (Nat.le_of_ble_eq_true rfl) rfl ?_
            refine wi_ic hc rfl ?_
            refine wi_ildv (N := 3642) hc rfl rfl (by decide) (by decide) (by omega) (by omega) (v := A 0) (congrFun (hJ.1) _) ?_
            refine wi_bi hc rfl rfl ?_
            refine wi_cne hc rfl ⟨by omega, by omega⟩ ⟨by decide, by decide⟩ (fun h6_ => ?_) (fun h6_ => ?_)
            · refine wi_a1 hc rfl rfl ?_
              refine wi_gr (w := 599) hc rfl rfl (by decide) (Nat.le_of_ble_eq_true rfl) rfl ?_
              refine wi_ic hc rfl ?_
              refine wi_ildv (N := 3642) hc rfl rfl (by decide) (by decide) (by omega) (by omega) (v := A 0) (congrFun (hJ.1) _) ?_
              refine wi_is2 (L' := [some (.ref 598), some (.int (iI a)), some (.int (iI b)), some (.int (iI c)), some (.int (iI d9)), some (.int (iI e)), some (.int (iI (A 0)))]) hc rfl (Nat.le_of_ble_eq_true rfl) rfl ?_
              refine wi_a1 hc rfl rfl ?_
              refine wi_i2 hc rfl rfl ?_
              refine wi_ic hc rfl ?_
              refine wi_i1 hc rfl rfl ?_
              refine wp_cv (b := 598) (As := [.int (iI (A 0)), .int (iI 0), .int (iI a)]) (r := []) hc rfl (by rw [cm_154]; rfl) rfl (Nat.le_of_ble_eq_true rfl) (show 598 < 621 by decide) (by rw [cm_154]; rfl) (ev_mono (sp_154 (d := 0) (L := L) (t := t) (s := s) (l := l) (by omega) (by omega) (by omega) (by omega)) (by omega)) ?_
              obtain ⟨s1_, es1_⟩ : ∃ q, q = up s 599 (46 + 6 * (A 0) + 0) a := ⟨_, rfl⟩
              rw [← es1_]
              show mm_wp _ _ (80, [some (.ref 598), some (.int (iI a)), some (.int (iI b)), some (.int (iI c)), some (.int (iI d9)), some (.int (iI e)), some (.int (iI (A 0)))], [], MX L t s1_ l) _
              refine wi_a1 hc rfl rfl ?_
              refine wi_i2 hc rfl rfl ?_
              refine wi_ic hc rfl ?_
              refine wi_i1 hc rfl rfl ?_
              refine wp_cv (b := 598) (As := [.int (iI (A 0)), .int (iI 1), .int (iI b)]) (r := []) hc rfl (by rw [cm_154]; rfl) rfl (Nat.le_of_ble_eq_true rfl) (show 598 < 621 by decide) (by rw [cm_154]; rfl) (ev_mono (sp_154 (d := 0) (L := L) (t := t) (s := s1_) (l := l) (by omega) (by omega) (by omega) (by omega)) (by omega)) ?_
              obtain ⟨s2_, es2_⟩ : ∃ q, q = up s1_ 599 (46 + 6 * (A 0) + 1) b := ⟨_, rfl⟩
              rw [← es2_]
              show mm_wp _ _ (88, [some (.ref 598), some (.int (iI a)), some (.int (iI b)), some (.int (iI c)), some (.int (iI d9)), some (.int (iI e)), some (.int (iI (A 0)))], [], MX L t s2_ l) _
              refine wi_a1 hc rfl rfl ?_
              refine wi_i2 hc rfl rfl ?_
              refine wi_ic hc rfl ?_
              refine wi_i1 hc rfl rfl ?_
              refine wp_cv (b := 598) (As := [.int (iI (A 0)), .int (iI 2), .int (iI c)]) (r := []) hc rfl (by rw [cm_154]; rfl) rfl (Nat.le_of_ble_eq_true rfl) (show 598 < 621 by decide) (by rw [cm_154]; rfl) (ev_mono (sp_154 (d := 0) (L := L) (t := t) (s := s2_) (l := l) (by omega) (by omega) (by omega) (by omega)) (by omega)) ?_
              obtain ⟨s3_, es3_⟩ : ∃ q, q = up s2_ 599 (46 + 6 * (A 0) + 2) c := ⟨_, rfl⟩
              rw [← es3_]
              show mm_wp _ _ (96, [some (.ref 598), some (.int (iI a)), some (.int (iI b)), some (.int (iI c)), some (.int (iI d9)), some (.int (iI e)), some (.int (iI (A 0)))], [], MX L t s3_ l) _
              refine wi_a1 hc rfl rfl ?_
              refine wi_i2 hc rfl rfl ?_
              refine wi_ic hc rfl ?_
              refine wi_i2 hc rfl rfl ?_
              refine wp_cv (b := 598) (As := [.int (iI (A 0)), .int (iI 3), .int (iI d9)]) (r := []) hc rfl (by rw [cm_154]; rfl) rfl (Nat.le_of_ble_eq_true rfl) (show 598 < 621 by decide) (by rw [cm_154]; rfl) (ev_mono (sp_154 (d := 0) (L := L) (t := t) (s := s3_) (l := l) (by omega) (by omega) (by omega) (by omega)) (by omega)) ?_
              obtain ⟨s4_, es4_⟩ : ∃ q, q = up s3_ 599 (46 + 6 * (A 0) + 3) d9 := ⟨_, rfl⟩
              rw [← es4_]
              show mm_wp _ _ (105, [some (.ref 598), some (.int (iI a)), some (.int (iI b)), some (.int (iI c)), some (.int (iI d9)), some (.int (iI e)), some (.int (iI (A 0)))], [], MX L t s4_ l) _
              refine wi_a1 hc rfl rfl ?_
              refine wi_i2 hc rfl rfl ?_
              refine wi_ic hc rfl ?_
              refine wi_i2 hc rfl rfl ?_
              refine wp_cv (b := 598) (As := [.int (iI (A 0)), .int (iI 4), .int (iI e)]) (r := []) hc rfl (by rw [cm_154]; rfl) rfl (Nat.le_of_ble_eq_true rfl) (show 598 < 621 by decide) (by rw [cm_154]; rfl) (ev_mono (sp_154 (d := 0) (L := L) (t := t) (s := s4_) (l := l) (by omega) (by omega) (by omega) (by omega)) (by omega)) ?_
              obtain ⟨s5_, es5_⟩ : ∃ q, q = up s4_ 599 (46 + 6 * (A 0) + 4) e := ⟨_, rfl⟩
              rw [← es5_]
              show mm_wp _ _ (114, [some (.ref 598), some (.int (iI a)), some (.int (iI b)), some (.int (iI c)), some (.int (iI d9)), some (.int (iI e)), some (.int (iI (A 0)))], [], MX L t s5_ l) _
              refine wi_a1 hc rfl rfl ?_
              refine wi_i2 hc rfl rfl ?_
              refine wi_ic hc rfl ?_
              refine wi_ic hc rfl ?_
              refine wp_cv (b := 598) (As := [.int (iI (A 0)), .int (iI 5), .int (iI 3)]) (r := []) hc rfl (by rw [cm_154]; rfl) rfl (Nat.le_of_ble_eq_true rfl) (show 598 < 621 by decide) (by rw [cm_154]; rfl) (ev_mono (sp_154 (d := 0) (L := L) (t := t) (s := s5_) (l := l) (by omega) (by omega) (by omega) (by omega)) (by omega)) ?_
              obtain ⟨s6_, es6_⟩ : ∃ q, q = up s5_ 599 (46 + 6 * (A 0) + 5) 3 := ⟨_, rfl⟩
              rw [← es6_]
              show mm_wp _ _ (122, [some (.ref 598), some (.int (iI a)), some (.int (iI b)), some (.int (iI c)), some (.int (iI d9)), some (.int (iI e)), some (.int (iI (A 0)))], [], MX L t s6_ l) _
              refine wi_a1 hc rfl rfl ?_
              refine wi_gr (w := 599) hc rfl rfl (by decide) (Nat.le_of_ble_eq_true rfl) rfl ?_
              refine wi_ic hc rfl ?_
              refine wi_dup2 hc rfl ?_
              refine wi_ildv (N := 3642) hc rfl rfl (by decide) (by decide) (by omega) (by omega) (v := A 0) (((congrFun (congrFun es6_ _) _).trans (up_k (by omega))).trans (((congrFun (congrFun es5_ _) _).trans (up_k (by omega))).trans (((congrFun (congrFun es4_ _) _).trans (up_k (by omega))).trans (((congrFun (congrFun es3_ _) _).trans (up_k (by omega))).trans (((congrFun (congrFun es2_ _) _).trans (up_k (by omega))).trans (((congrFun (congrFun es1_ _) _).trans (up_k (by omega))).trans (congrFun (hJ.1) _))))))) ?_
              refine wi_ic hc rfl ?_
              refine wi_add hc rfl ?_
              refine wi_ist (N := 3642) hc rfl rfl (by decide) (by decide) (by omega) (by omega) ?_
              obtain ⟨s7_, es7_⟩ : ∃ q, q = up s6_ 599 0 ((A 0) + 1) := ⟨_, rfl⟩
              rw [← es7_]
              refine wi_i2 hc rfl rfl ?_
              refine wi_ri hc rfl (by rw [cm_158]; rfl) ?_
              have hR : bookR A a b c d9 e = (bookF A a b c d9 e, A 0) := by unfold bookR; rw [if_pos (by omega)]
              rw [hR]
              obtain ⟨f0, f1, f2, f3, f4, f5, f6⟩ := bookF_at (A := A) (a := a) (b := b) (c := c) (d := d9) (e := e) g0.1
              refine ⟨s7_, by rw [show A 0 = A 0 by omega], fun c hc9_ => ((congrFun es7_ c).trans (up_cc (by omega))).trans (((congrFun es6_ c).trans (up_cc (by omega))).trans (((congrFun es5_ c).trans (up_cc (by omega))).trans (((congrFun es4_ c).trans (up_cc (by omega))).trans (((congrFun es3_ c).trans (up_cc (by omega))).trans (((congrFun es2_ c).trans (up_cc (by omega))).trans ((congrFun es1_ c).trans (up_cc (by omega)))))))), ?_, (((congrFun es7_ 601).trans (up_cc (by decide))).trans (((congrFun es6_ 601).trans (up_cc (by decide))).trans (((congrFun es5_ 601).trans (up_cc (by decide))).trans (((congrFun es4_ 601).trans (up_cc (by decide))).trans (((congrFun es3_ 601).trans (up_cc (by decide))).trans (((congrFun es2_ 601).trans (up_cc (by decide))).trans ((congrFun es1_ 601).trans (up_cc (by decide))))))))).trans hJ.2.1, by rw [((congrFun es7_ 604).trans (up_cc (by decide))).trans (((congrFun es6_ 604).trans (up_cc (by decide))).trans (((congrFun es5_ 604).trans (up_cc (by decide))).trans (((congrFun es4_ 604).trans (up_cc (by decide))).trans (((congrFun es3_ 604).trans (up_cc (by decide))).trans (((congrFun es2_ 604).trans (up_cc (by decide))).trans ((congrFun es1_ 604).trans (up_cc (by decide))))))))]; exact hJ.2.2⟩
              funext k
              by_cases qs7_ : k = 0
              · rw [es7_, up_e qs7_]; rw [qs7_]; exact f0.symm
              rw [es7_, up_k qs7_]
              by_cases qs6_ : k = 46 + 6 * (A 0) + 5
              · rw [es6_, up_e qs6_]; rw [qs6_]; exact f6.symm
              rw [es6_, up_k qs6_]
              by_cases qs5_ : k = 46 + 6 * (A 0) + 4
              · rw [es5_, up_e qs5_]; rw [qs5_]; exact f5.symm
              rw [es5_, up_k qs5_]
              by_cases qs4_ : k = 46 + 6 * (A 0) + 3
              · rw [es4_, up_e qs4_]; rw [qs4_]; exact f4.symm
              rw [es4_, up_k qs4_]
              by_cases qs3_ : k = 46 + 6 * (A 0) + 2
              · rw [es3_, up_e qs3_]; rw [qs3_]; exact f3.symm
              rw [es3_, up_k qs3_]
              by_cases qs2_ : k = 46 + 6 * (A 0) + 1
              · rw [es2_, up_e qs2_]; rw [qs2_]; exact f2.symm
              rw [es2_, up_k qs2_]
              by_cases qs1_ : k = 46 + 6 * (A 0) + 0
              · rw [es1_, up_e qs1_]; rw [show k = 46 + 6 * A 0 by omega]; exact f1.symm
              rw [es1_, up_k qs1_]
              rw [congrFun hJ.1 k]
              exact (bookF_ne (by omega) (by omega)).symm
            · refine wi_ic hc rfl ?_
              refine wi_ri hc rfl (by rw [cm_158]; rfl) ?_
              have hR : bookR A a b c d9 e = (A, -1) := by unfold bookR; rw [if_neg (by omega)]
              rw [hR]
              exact ⟨s, rfl, fun c _ => rfl, hJ⟩
