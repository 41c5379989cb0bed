/-! DUST on both sides. -/
theorem or_hi {x y : Int} (n : Nat) (a : Nat) (h0 : 0 ≤ x) (h1 : x < 2 ^ n) (hy : y = ((2 ^ n * a : Nat) : Int)) : orI x y = x + y := by
  unfold orI
  have hx : x.toNat < 2 ^ n := by rw [p2c] at h1; omega
  have h := Nat.two_pow_add_eq_or_of_lt (b := x.toNat) (i := n) hx a
  rw [hy, Int.toNat_natCast, Nat.or_comm, ← h]
  omega
theorem or_0 {x : Int} (h0 : 0 ≤ x) : orI x 0 = x := by
  unfold orI
  show ((x.toNat ||| 0 : Nat) : Int) = x
  rw [Nat.or_zero]
  omega
theorem sp_118 {d L t : Nat} {s l : Nat → Int → Int} {A T : Int → Int} (hJ : JC s A T) (hK : KA A T) {b o r p : Int} (hb : rI b) (ho : rI o) (hr : r = 0 ∨ r = 1) (hp : p = 0 ∨ p = 1) : ∃ s1, mm_Ev mm_ct mm_CM (d + 2) 118 [.ref 0, .int (iI b), .int (iI o), .int (iI r), .int (iI p)] (MX L t s l) (some (.int (iI (dustR A b o r p).2)), MX L t s1 l) ∧ (∀ c, c ≠ 1 ∧ c ≠ 24 → s1 c = s c) ∧ JC s1 (dustR A b o r p).1 T := by
  have hc : (mm_CM 118).2.2.2.2.2.2.2 = mm_cf cd_118 := by rw [cm_118]; rfl
  refine ev_xs ?_
  refine ev_to (mx := 5) (by rw [cm_118]; decide) (by rw [cm_118]; rfl) (by show 5 ≤ _; decide) ?_
  show mm_wp _ _ (0, [some (.ref 0), some (.int (iI b)), some (.int (iI o)), some (.int (iI r)), some (.int (iI p))], [], MX L t s l) (fun res => ∃ s1, res = (some (.int (iI (dustR A b o r p).2)), MX L t s1 l) ∧ (∀ c, c ≠ 1 ∧ c ≠ 24 → s1 c = s c) ∧ JC s1 (dustR A b o r p).1 T)
  have hV := hK.1
  have hB := hK.2.1
  have g0 := hB.1
  have h8 := hK.2.2.1.2.2.2.1
  refine wi_i1 hc rfl rfl ?_
  refine wi_ic hc rfl ?_
  refine wi_cne hc rfl hb ⟨by decide, by decide⟩ (fun h1_ => ?_) (fun h1_ => ?_)
  · refine wi_a1 hc rfl rfl ?_
    refine wi_i1 hc rfl rfl ?_
    refine wp_cv (b := 0) (As := [.int (iI b)]) (r := []) hc rfl (by rw [cm_129]; rfl) rfl (Nat.le_of_ble_eq_true rfl) (show 0 < 621 by decide) (by rw [cm_129]; rfl) (ev_mono (sg_129 (d := 0) hJ.1 hb hK.2.1.1) (by omega)) ?_
    show mm_wp _ _ (20, [some (.ref 0), some (.int (iI b)), some (.int (iI o)), some (.int (iI r)), some (.int (iI p))], [.int (iI (bI (0 ≤ b ∧ b < A 0)))], MX L t s l) _
    refine wi_beq hc rfl (fun h2_ => ?_) (fun h2_ => ?_)
    · refine wi_bi hc rfl rfl ?_
      refine wi_ri hc rfl (by rw [cm_118]; rfl) ?_
      have hR : dustR A b o r p = (A, -2) := by unfold dustR; rw [if_neg (by omega), if_neg (by omega)]
      rw [hR]
      exact ⟨s, rfl, fun c _ => rfl, hJ⟩
    · refine wi_a1 hc rfl rfl ?_
      refine wi_i1 hc rfl rfl ?_
      refine wp_cv (b := 0) (As := [.int (iI o)]) (r := []) hc rfl (by rw [cm_129]; rfl) rfl (Nat.le_of_ble_eq_true rfl) (show 0 < 621 by decide) (by rw [cm_129]; rfl) (ev_mono (sg_129 (d := 0) hJ.1 ho hK.2.1.1) (by omega)) ?_
      show mm_wp _ _ (28, [some (.ref 0), some (.int (iI b)), some (.int (iI o)), some (.int (iI r)), some (.int (iI p))], [.int (iI (bI (0 ≤ o ∧ o < A 0)))], MX L t s l) _
      refine wi_beq hc rfl (fun h3_ => ?_) (fun h3_ => ?_)
      · refine wi_bi hc rfl rfl ?_
        refine wi_ri hc rfl (by rw [cm_118]; rfl) ?_
        have hR : dustR A b o r p = (A, -2) := by unfold dustR; rw [if_neg (by omega), if_neg (by omega)]
        rw [hR]
        exact ⟨s, rfl, fun c _ => rfl, hJ⟩
      · refine wi_i1 hc rfl rfl ?_
        refine wi_i1 hc rfl rfl ?_
        refine wi_ceq hc rfl hb ho (fun h4_ => ?_) (fun h4_ => ?_)
        · refine wi_bi hc rfl rfl ?_
          refine wi_ri hc rfl (by rw [cm_118]; rfl) ?_
          have hR : dustR A b o r p = (A, -2) := by unfold dustR; rw [if_neg (by omega), if_neg (by omega)]
          rw [hR]
          exact ⟨s, rfl, fun c _ => rfl, hJ⟩
        · refine wi_a1 hc rfl rfl ?_
          refine wi_gr (w := 1) hc rfl rfl (by decide) (Nat.le_of_ble_eq_true rfl) rfl ?_
          refine wi_gfv (kz := 12) rfl hc rfl rfl (by decide) (Nat.le_of_ble_eq_true rfl) rfl (v := A 8) (lb_dc hJ.1) ?_
          refine wi_bi hc rfl rfl ?_
          refine wi_clt hc rfl ⟨by omega, by omega⟩ ⟨by decide, by decide⟩ (fun h5_ => ?_) (fun h5_ => ?_)
          · refine wi_a1 hc rfl rfl ?_
            refine wi_gr (w := 1) hc rfl rfl (by decide) (Nat.le_of_ble_eq_true rfl) rfl ?_
            refine wi_gr (w := 24) hc rfl rfl (by decide) (Nat.le_of_ble_eq_true rfl) rfl ?_
            refine wi_a1 hc rfl rfl ?_
            refine wi_gr (w := 1) hc rfl rfl (by decide) (Nat.le_of_ble_eq_true rfl) rfl ?_
            refine wi_gfv (kz := 12) rfl hc rfl rfl (by decide) (Nat.le_of_ble_eq_true rfl) rfl (v := A 8) (lb_dc hJ.1) ?_
            refine wi_i1 hc rfl rfl ?_
            refine wi_i1 hc rfl rfl ?_
            refine wi_ic hc rfl ?_
            refine wi_shl 16 rfl hc rfl (by omega) (by omega) ?_
            refine wi_or hc rfl (by omega) (by omega) ?_
            rw [or_hi (x := b) (y := o * 16) 4 o.toNat (by omega) (by omega) (by omega)]
            refine wi_i1 hc rfl rfl ?_
            refine wi_zeq hc rfl ⟨by omega, by omega⟩ (fun h6_ => ?_) (fun h6_ => ?_)
            · refine wi_ic hc rfl ?_
              refine wi_or hc rfl (by omega) (by omega) ?_
              rw [or_0 (x := b + o * 16) (by omega)]
              refine wi_i2 hc rfl rfl ?_
              refine wi_zeq hc rfl ⟨by omega, by omega⟩ (fun h7_ => ?_) (fun h7_ => ?_)
              · refine wi_ic hc rfl ?_
                refine wi_or hc rfl (by omega) (by omega) ?_
                rw [or_0 (x := b + o * 16) (by omega)]
                refine wi_ist (N := 12) hc rfl rfl (by decide) (by decide) (by omega) (by omega) ?_
                obtain ⟨s1_, es1_⟩ : ∃ q, q = up s 24 (A 8) (b + o * 16) := ⟨_, rfl⟩
                rw [← es1_]
                refine wi_a1 hc rfl rfl ?_
                refine wi_gr (w := 1) hc rfl rfl (by decide) (Nat.le_of_ble_eq_true rfl) rfl ?_
                refine wi_dupr hc rfl ?_
                refine wi_gfv (kz := 12) rfl hc rfl rfl (by decide) (Nat.le_of_ble_eq_true rfl) rfl (v := A 8) (((congrFun (congrFun es1_ _) _).trans (up_c (by decide))).trans (lb_dc hJ.1)) ?_
                refine wi_ic hc rfl ?_
                refine wi_add hc rfl ?_
                refine wi_pf (kz := 12) rfl hc rfl rfl (by decide) (Nat.le_of_ble_eq_true rfl) rfl (Nat.le_of_ble_eq_true rfl) ⟨rfl, rfl⟩ rfl ?_
                obtain ⟨s2_, es2_⟩ : ∃ q, q = up s1_ 1 12 ((A 8) + 1) := ⟨_, rfl⟩
                rw [← es2_]
                refine wi_a1 hc rfl rfl ?_
                refine wi_gr (w := 1) hc rfl rfl (by decide) (Nat.le_of_ble_eq_true rfl) rfl ?_
                refine wi_gfv (kz := 12) rfl hc rfl rfl (by decide) (Nat.le_of_ble_eq_true rfl) rfl (v := (A 8) + 1) ((congrFun (congrFun es2_ _) _).trans (up_e (by omega))) ?_
                refine wi_ri hc rfl (by rw [cm_118]; rfl) ?_
                have hR : dustR A b o r p = (dustF A b o r p, A 8 + 1) := by unfold dustR; rw [if_neg (by omega), if_pos (by omega)]
                rw [hR]
                have d8 := dustF_8 A b o r p
                have da := dustF_at (A := A) (b := b) (o := o) (r := r) (p := p) (by omega)
                refine ⟨s2_, by rw [show (A 8) + 1 = A 8 + 1 by omega], fun c hc9_ => ((congrFun es2_ c).trans (up_cc (by omega))).trans ((congrFun es1_ c).trans (up_cc (by omega))), lb_dusts hJ.1 hK (fun k a c => dustF_ne a (by omega)) (fun c q q2 => by rw [es2_, up_cc q, es1_, up_cc q2]) (fun k => ?_) (fun i a c => ?_), by rw [es2_, up_cc (by decide), es1_, up_cc (by decide)]; exact hJ.2⟩
                · show _ = if k = 12 then dustF A b o r p 8 else s 1 k
                  rw [es2_, d8]
                  by_cases q : k = 12
                  · rw [up_e q, if_pos q]
                  · rw [up_k q, if_neg q, es1_, up_cc (by decide)]
                · have c : i < dustF A b o r p 8 := c
                  show _ = dustF A b o r p (106 + 4 * i) + 16 * dustF A b o r p (107 + 4 * i) + 256 * dustF A b o r p (108 + 4 * i) + 512 * dustF A b o r p (109 + 4 * i)
                  rw [d8] at c
                  rw [es2_, up_cc (by decide), es1_]
                  by_cases q : i = A 8
                  · rw [up_e q, q, da.1, da.2.1, da.2.2.1, da.2.2.2]; omega
                  · rw [up_k q, dustF_ne (by omega) (by omega), dustF_ne (by omega) (by omega), dustF_ne (by omega) (by omega), dustF_ne (by omega) (by omega)]; exact hJ.1.2.2.2.1 i a (by omega)
              · refine wi_si hc rfl rfl ?_
                refine wi_go hc rfl ?_
                refine wi_or hc rfl (by omega) (by omega) ?_
                rw [or_hi (x := b + o * 16) (y := 512) 9 1 (by omega) (by omega) rfl]
                refine wi_ist (N := 12) hc rfl rfl (by decide) (by decide) (by omega) (by omega) ?_
                obtain ⟨s3_, es3_⟩ : ∃ q, q = up s 24 (A 8) (b + o * 16 + 512) := ⟨_, rfl⟩
                rw [← es3_]
                refine wi_a1 hc rfl rfl ?_
                refine wi_gr (w := 1) hc rfl rfl (by decide) (Nat.le_of_ble_eq_true rfl) rfl ?_
                refine wi_dupr hc rfl ?_
                refine wi_gfv (kz := 12) rfl hc rfl rfl (by decide) (Nat.le_of_ble_eq_true rfl) rfl (v := A 8) (((congrFun (congrFun es3_ _) _).trans (up_c (by decide))).trans (lb_dc hJ.1)) ?_
                refine wi_ic hc rfl ?_
                refine wi_add hc rfl ?_
                refine wi_pf (kz := 12) rfl hc rfl rfl (by decide) (Nat.le_of_ble_eq_true rfl) rfl (Nat.le_of_ble_eq_true rfl) ⟨rfl, rfl⟩ rfl ?_
                obtain ⟨s4_, es4_⟩ : ∃ q, q = up s3_ 1 12 ((A 8) + 1) := ⟨_, rfl⟩
                rw [← es4_]
                refine wi_a1 hc rfl rfl ?_
                refine wi_gr (w := 1) hc rfl rfl (by decide) (Nat.le_of_ble_eq_true rfl) rfl ?_
                refine wi_gfv (kz := 12) rfl hc rfl rfl (by decide) (Nat.le_of_ble_eq_true rfl) rfl (v := (A 8) + 1) ((congrFun (congrFun es4_ _) _).trans (up_e (by omega))) ?_
                refine wi_ri hc rfl (by rw [cm_118]; rfl) ?_
                have hR : dustR A b o r p = (dustF A b o r p, A 8 + 1) := by unfold dustR; rw [if_neg (by omega), if_pos (by omega)]
                rw [hR]
                have d8 := dustF_8 A b o r p
                have da := dustF_at (A := A) (b := b) (o := o) (r := r) (p := p) (by omega)
                refine ⟨s4_, by rw [show (A 8) + 1 = A 8 + 1 by omega], fun c hc9_ => ((congrFun es4_ c).trans (up_cc (by omega))).trans ((congrFun es3_ c).trans (up_cc (by omega))), lb_dusts hJ.1 hK (fun k a c => dustF_ne a (by omega)) (fun c q q2 => by rw [es4_, up_cc q, es3_, up_cc q2]) (fun k => ?_) (fun i a c => ?_), by rw [es4_, up_cc (by decide), es3_, up_cc (by decide)]; exact hJ.2⟩
                · show _ = if k = 12 then dustF A b o r p 8 else s 1 k
                  rw [es4_, d8]
                  by_cases q : k = 12
                  · rw [up_e q, if_pos q]
                  · rw [up_k q, if_neg q, es3_, up_cc (by decide)]
                · have c : i < dustF A b o r p 8 := c
                  show _ = dustF A b o r p (106 + 4 * i) + 16 * dustF A b o r p (107 + 4 * i) + 256 * dustF A b o r p (108 + 4 * i) + 512 * dustF A b o r p (109 + 4 * i)
                  rw [d8] at c
                  rw [es4_, up_cc (by decide), es3_]
                  by_cases q : i = A 8
                  · rw [up_e q, q, da.1, da.2.1, da.2.2.1, da.2.2.2]; omega
                  · rw [up_k q, dustF_ne (by omega) (by omega), dustF_ne (by omega) (by omega), dustF_ne (by omega) (by omega), dustF_ne (by omega) (by omega)]; exact hJ.1.2.2.2.1 i a (by omega)
            · refine wi_si hc rfl rfl ?_
              refine wi_go hc rfl ?_
              refine wi_or hc rfl (by omega) (by omega) ?_
              rw [or_hi (x := b + o * 16) (y := 256) 8 1 (by omega) (by omega) rfl]
              refine wi_i2 hc rfl rfl ?_
              refine wi_zeq hc rfl ⟨by omega, by omega⟩ (fun h8_ => ?_) (fun h8_ => ?_)
              · refine wi_ic hc rfl ?_
                refine wi_or hc rfl (by omega) (by omega) ?_
                rw [or_0 (x := b + o * 16 + 256) (by omega)]
                refine wi_ist (N := 12) hc rfl rfl (by decide) (by decide) (by omega) (by omega) ?_
                obtain ⟨s5_, es5_⟩ : ∃ q, q = up s 24 (A 8) (b + o * 16 + 256) := ⟨_, rfl⟩
                rw [← es5_]
                refine wi_a1 hc rfl rfl ?_
                refine wi_gr (w := 1) hc rfl rfl (by decide) (Nat.le_of_ble_eq_true rfl) rfl ?_
                refine wi_dupr hc rfl ?_
                refine wi_gfv (kz := 12) rfl hc rfl rfl (by decide) (Nat.le_of_ble_eq_true rfl) rfl (v := A 8) (((congrFun (congrFun es5_ _) _).trans (up_c (by decide))).trans (lb_dc hJ.1)) ?_
                refine wi_ic hc rfl ?_
                refine wi_add hc rfl ?_
                refine wi_pf (kz := 12) rfl hc rfl rfl (by decide) (Nat.le_of_ble_eq_true rfl) rfl (Nat.le_of_ble_eq_true rfl) ⟨rfl, rfl⟩ rfl ?_
                obtain ⟨s6_, es6_⟩ : ∃ q, q = up s5_ 1 12 ((A 8) + 1) := ⟨_, rfl⟩
                rw [← es6_]
                refine wi_a1 hc rfl rfl ?_
                refine wi_gr (w := 1) hc rfl rfl (by decide) (Nat.le_of_ble_eq_true rfl) rfl ?_
                refine wi_gfv (kz := 12) rfl hc rfl rfl (by decide) (Nat.le_of_ble_eq_true rfl) rfl (v := (A 8) + 1) ((congrFun (congrFun es6_ _) _).trans (up_e (by omega))) ?_
                refine wi_ri hc rfl (by rw [cm_118]; rfl) ?_
                have hR : dustR A b o r p = (dustF A b o r p, A 8 + 1) := by unfold dustR; rw [if_neg (by omega), if_pos (by omega)]
                rw [hR]
                have d8 := dustF_8 A b o r p
                have da := dustF_at (A := A) (b := b) (o := o) (r := r) (p := p) (by omega)
                refine ⟨s6_, by rw [show (A 8) + 1 = A 8 + 1 by omega], fun c hc9_ => ((congrFun es6_ c).trans (up_cc (by omega))).trans ((congrFun es5_ c).trans (up_cc (by omega))), lb_dusts hJ.1 hK (fun k a c => dustF_ne a (by omega)) (fun c q q2 => by rw [es6_, up_cc q, es5_, up_cc q2]) (fun k => ?_) (fun i a c => ?_), by rw [es6_, up_cc (by decide), es5_, up_cc (by decide)]; exact hJ.2⟩
                · show _ = if k = 12 then dustF A b o r p 8 else s 1 k
                  rw [es6_, d8]
                  by_cases q : k = 12
                  · rw [up_e q, if_pos q]
                  · rw [up_k q, if_neg q, es5_, up_cc (by decide)]
                · have c : i < dustF A b o r p 8 := c
                  show _ = dustF A b o r p (106 + 4 * i) + 16 * dustF A b o r p (107 + 4 * i) + 256 * dustF A b o r p (108 + 4 * i) + 512 * dustF A b o r p (109 + 4 * i)
                  rw [d8] at c
                  rw [es6_, up_cc (by decide), es5_]
                  by_cases q : i = A 8
                  · rw [up_e q, q, da.1, da.2.1, da.2.2.1, da.2.2.2]; omega
                  · rw [up_k q, dustF_ne (by omega) (by omega), dustF_ne (by omega) (by omega), dustF_ne (by omega) (by omega), dustF_ne (by omega) (by omega)]; exact hJ.1.2.2.2.1 i a (by omega)
              · refine wi_si hc rfl rfl ?_
                refine wi_go hc rfl ?_
                refine wi_or hc rfl (by omega) (by omega) ?_
                rw [or_hi (x := b + o * 16 + 256) (y := 512) 9 1 (by omega) (by omega) rfl]
                refine wi_ist (N := 12) hc rfl rfl (by decide) (by decide) (by omega) (by omega) ?_
                obtain ⟨s7_, es7_⟩ : ∃ q, q = up s 24 (A 8) (b + o * 16 + 256 + 512) := ⟨_, rfl⟩
                rw [← es7_]
                refine wi_a1 hc rfl rfl ?_
                refine wi_gr (w := 1) hc rfl rfl (by decide) (Nat.le_of_ble_eq_true rfl) rfl ?_
                refine wi_dupr hc rfl ?_
                refine wi_gfv (kz := 12) rfl hc rfl rfl (by decide) (Nat.le_of_ble_eq_true rfl) rfl (v := A 8) (((congrFun (congrFun es7_ _) _).trans (up_c (by decide))).trans (lb_dc hJ.1)) ?_
                refine wi_ic hc rfl ?_
                refine wi_add hc rfl ?_
                refine wi_pf (kz := 12) rfl hc rfl rfl (by decide) (Nat.le_of_ble_eq_true rfl) rfl (Nat.le_of_ble_eq_true rfl) ⟨rfl, rfl⟩ rfl ?_
                obtain ⟨s8_, es8_⟩ : ∃ q, q = up s7_ 1 12 ((A 8) + 1) := ⟨_, rfl⟩
                rw [← es8_]
                refine wi_a1 hc rfl rfl ?_
                refine wi_gr (w := 1) hc rfl rfl (by decide) (Nat.le_of_ble_eq_true rfl) rfl ?_
                refine wi_gfv (kz := 12) rfl hc rfl rfl (by decide) (Nat.le_of_ble_eq_true rfl) rfl (v := (A 8) + 1) ((congrFun (congrFun es8_ _) _).trans (up_e (by omega))) ?_
                refine wi_ri hc rfl (by rw [cm_118]; rfl) ?_
                have hR : dustR A b o r p = (dustF A b o r p, A 8 + 1) := by unfold dustR; rw [if_neg (by omega), if_pos (by omega)]
                rw [hR]
                have d8 := dustF_8 A b o r p
                have da := dustF_at (A := A) (b := b) (o := o) (r := r) (p := p) (by omega)
                refine ⟨s8_, by rw [show (A 8) + 1 = A 8 + 1 by omega], fun c hc9_ => ((congrFun es8_ c).trans (up_cc (by omega))).trans ((congrFun es7_ c).trans (up_cc (by omega))), lb_dusts hJ.1 hK (fun k a c => dustF_ne a (by omega)) (fun c q q2 => by rw [es8_, up_cc q, es7_, up_cc q2]) (fun k => ?_) (fun i a c => ?_), by rw [es8_, up_cc (by decide), es7_, up_cc (by decide)]; exact hJ.2⟩
                · show _ = if k = 12 then dustF A b o r p 8 else s 1 k
                  rw [es8_, d8]
                  by_cases q : k = 12
                  · rw [up_e q, if_pos q]
                  · rw [up_k q, if_neg q, es7_, up_cc (by decide)]
                · have c : i < dustF A b o r p 8 := c
                  show _ = dustF A b o r p (106 + 4 * i) + 16 * dustF A b o r p (107 + 4 * i) + 256 * dustF A b o r p (108 + 4 * i) + 512 * dustF A b o r p (109 + 4 * i)
                  rw [d8] at c
                  rw [es8_, up_cc (by decide), es7_]
                  by_cases q : i = A 8
                  · rw [up_e q, q, da.1, da.2.1, da.2.2.1, da.2.2.2]; omega
                  · rw [up_k q, dustF_ne (by omega) (by omega), dustF_ne (by omega) (by omega), dustF_ne (by omega) (by omega), dustF_ne (by omega) (by omega)]; exact hJ.1.2.2.2.1 i a (by omega)
          · refine wi_bi hc rfl rfl ?_
            refine wi_ri hc rfl (by rw [cm_118]; rfl) ?_
            have hR : dustR A b o r p = (A, -2) := by unfold dustR; rw [if_neg (by omega), if_neg (by omega)]
            rw [hR]
            exact ⟨s, rfl, fun c _ => rfl, hJ⟩
  · refine wi_a1 hc rfl rfl ?_
    refine wi_gr (w := 1) hc rfl rfl (by decide) (Nat.le_of_ble_eq_true rfl) rfl ?_
    refine wi_ic hc rfl ?_
    refine wi_pf (kz := 12) rfl hc rfl rfl (by decide) (Nat.le_of_ble_eq_true rfl) rfl (Nat.le_of_ble_eq_true rfl) ⟨rfl, rfl⟩ rfl ?_
    obtain ⟨s9_, es9_⟩ : ∃ q, q = up s 1 12 0 := ⟨_, rfl⟩
    rw [← es9_]
    refine wi_ic hc rfl ?_
    refine wi_ri hc rfl (by rw [cm_118]; rfl) ?_
    have hR : dustR A b o r p = (set1 A 8 0, 0) := by unfold dustR; rw [if_pos (by omega)]
    rw [hR]
    refine ⟨s9_, rfl, fun c hc9_ => (congrFun es9_ c).trans (up_cc (by omega)), lb_dusts hJ.1 hK (fun k a _ => set1_ne a) (fun c q _ => (congrFun es9_ c).trans (up_cc q)) (fun k => ?_) (fun i a c => ?_), by rw [es9_, up_cc (by decide)]; exact hJ.2⟩
    · rw [es9_]
      by_cases q : k = 12
      · rw [up_e q, if_pos q]; exact (show (0 : Int) = set1 A 8 0 8 from (if_pos rfl).symm)
      · rw [up_k q, if_neg q]
    · have c : i < set1 A 8 0 8 := c
      rw [show set1 A 8 0 8 = 0 from if_pos rfl] at c; omega
theorem sp_279 {d L t : Nat} {s l : Nat → Int → Int} {A T : Int → Int} (hJ : JM s A T) (hK : KA A T) {b o r p : Int} (hb : rI b) (ho : rI o) (hr : r = 0 ∨ r = 1) (hp : p = 0 ∨ p = 1) : ∃ s1, mm_Ev mm_ct mm_CM (d + 3) 279 [.ref 598, .int (iI b), .int (iI o), .int (iI r), .int (iI p)] (MX L t s l) (some (.int (iI (dustR A b o r p).2)), MX L t s1 l) ∧ (∀ c, c ≠ 599 → s1 c = s c) ∧ JM s1 (dustR A b o r p).1 T := by
  have hc : (mm_CM 279).2.2.2.2.2.2.2 = mm_cf cd_279 := by rw [cm_279]; rfl
  refine ev_xs ?_
  refine ev_to (mx := 6) (by rw [cm_279]; decide) (by rw [cm_279]; rfl) (by show 5 ≤ _; decide) ?_
  show mm_wp _ _ (0, [some (.ref 598), some (.int (iI b)), some (.int (iI o)), some (.int (iI r)), some (.int (iI p)), none], [], MX L t s l) (fun res => ∃ s1, res = (some (.int (iI (dustR A b o r p).2)), MX L t s1 l) ∧ (∀ c, c ≠ 599 → s1 c = s c) ∧ JM s1 (dustR A b o r p).1 T)
  have hV := hK.1
  have hB := hK.2.1
  have g0 := hB.1
  have h8 := hK.2.2.1.2.2.2.1
  refine wi_i1 hc rfl rfl ?_
  refine wi_ic hc rfl ?_
  refine wi_cne hc rfl hb ⟨by decide, by decide⟩ (fun h1_ => ?_) (fun h1_ => ?_)
  · refine wi_a1 hc rfl rfl ?_
    refine wi_i1 hc rfl rfl ?_
    refine wp_cv (b := 598) (As := [.int (iI b)]) (r := []) hc rfl (by rw [cm_151]; rfl) rfl (Nat.le_of_ble_eq_true rfl) (show 598 < 621 by decide) (by rw [cm_151]; rfl) (ev_mono (sg_151 (d := 0) (hJ.1) hb (by omega) (by omega)) (by omega)) ?_
    show mm_wp _ _ (20, [some (.ref 598), some (.int (iI b)), some (.int (iI o)), some (.int (iI r)), some (.int (iI p)), none], [.int (iI (bI (0 ≤ b ∧ b < A 0)))], MX L t s l) _
    refine wi_beq hc rfl (fun h2_ => ?_) (fun h2_ => ?_)
    · refine wi_bi hc rfl rfl ?_
      refine wi_ri hc rfl (by rw [cm_279]; rfl) ?_
      have hR : dustR A b o r p = (A, -2) := by unfold dustR; rw [if_neg (by omega), if_neg (by omega)]
      rw [hR]
      exact ⟨s, rfl, fun c _ => rfl, hJ⟩
    · refine wi_a1 hc rfl rfl ?_
      refine wi_i1 hc rfl rfl ?_
      refine wp_cv (b := 598) (As := [.int (iI o)]) (r := []) hc rfl (by rw [cm_151]; rfl) rfl (Nat.le_of_ble_eq_true rfl) (show 598 < 621 by decide) (by rw [cm_151]; rfl) (ev_mono (sg_151 (d := 0) (hJ.1) ho (by omega) (by omega)) (by omega)) ?_
      show mm_wp _ _ (28, [some (.ref 598), some (.int (iI b)), some (.int (iI o)), some (.int (iI r)), some (.int (iI p)), none], [.int (iI (bI (0 ≤ o ∧ o < A 0)))], MX L t s l) _
      refine wi_beq hc rfl (fun h3_ => ?_) (fun h3_ => ?_)
      · refine wi_bi hc rfl rfl ?_
        refine wi_ri hc rfl (by rw [cm_279]; rfl) ?_
        have hR : dustR A b o r p = (A, -2) := by unfold dustR; rw [if_neg (by omega), if_neg (by omega)]
        rw [hR]
        exact ⟨s, rfl, fun c _ => rfl, hJ⟩
      · refine wi_i1 hc rfl rfl ?_
        refine wi_i1 hc rfl rfl ?_
        refine wi_ceq hc rfl hb ho (fun h4_ => ?_) (fun h4_ => ?_)
        · refine wi_bi hc rfl rfl ?_
          refine wi_ri hc rfl (by rw [cm_279]; rfl) ?_
          have hR : dustR A b o r p = (A, -2) := by unfold dustR; rw [if_neg (by omega), if_neg (by omega)]
          rw [hR]
          exact ⟨s, rfl, fun c _ => rfl, hJ⟩
        · refine wi_a1 hc rfl rfl ?_
          refine wi_gr (w := 599) hc rfl rfl (by decide) (Nat.le_of_ble_eq_true rfl) rfl ?_
          refine wi_bi hc rfl rfl ?_
          refine wi_ildv (N := 3642) hc rfl rfl (by decide) (by decide) (by omega) (by omega) (v := A 8) (congrFun (hJ.1) _) ?_
          refine wi_bi hc rfl rfl ?_
          refine wi_cne hc rfl ⟨by omega, by omega⟩ ⟨by decide, by decide⟩ (fun h5_ => ?_) (fun h5_ => ?_)
          · refine wi_bi hc rfl rfl ?_
            refine wi_ic hc rfl ?_
            refine wi_a1 hc rfl rfl ?_
            refine wi_gr (w := 599) hc rfl rfl (by decide) (Nat.le_of_ble_eq_true rfl) rfl ?_
            refine wi_bi hc rfl rfl ?_
            refine wi_ildv (N := 3642) hc rfl rfl (by decide) (by decide) (by omega) (by omega) (v := A 8) (congrFun (hJ.1) _) ?_
            refine wi_mul hc rfl ?_
            refine wi_add hc rfl ?_
            refine wi_is2 (L' := [some (.ref 598), some (.int (iI b)), some (.int (iI o)), some (.int (iI r)), some (.int (iI p)), some (.int (iI (106 + (4 * (A 8)))))]) hc rfl (Nat.le_of_ble_eq_true rfl) rfl ?_
            refine wi_a1 hc rfl rfl ?_
            refine wi_gr (w := 599) hc rfl rfl (by decide) (Nat.le_of_ble_eq_true rfl) rfl ?_
            refine wi_i2 hc rfl rfl ?_
            refine wi_i1 hc rfl rfl ?_
            refine wi_ist (N := 3642) hc rfl rfl (by decide) (by decide) (by omega) (by omega) ?_
            obtain ⟨s1_, es1_⟩ : ∃ q, q = up s 599 (106 + (4 * (A 8))) b := ⟨_, rfl⟩
            rw [← es1_]
            refine wi_a1 hc rfl rfl ?_
            refine wi_gr (w := 599) hc rfl rfl (by decide) (Nat.le_of_ble_eq_true rfl) rfl ?_
            refine wi_i2 hc rfl rfl ?_
            refine wi_ic hc rfl ?_
            refine wi_add hc rfl ?_
            refine wi_i1 hc rfl rfl ?_
            refine wi_ist (N := 3642) hc rfl rfl (by decide) (by decide) (by omega) (by omega) ?_
            obtain ⟨s2_, es2_⟩ : ∃ q, q = up s1_ 599 ((106 + (4 * (A 8))) + 1) o := ⟨_, rfl⟩
            rw [← es2_]
            refine wi_a1 hc rfl rfl ?_
            refine wi_gr (w := 599) hc rfl rfl (by decide) (Nat.le_of_ble_eq_true rfl) rfl ?_
            refine wi_i2 hc rfl rfl ?_
            refine wi_ic hc rfl ?_
            refine wi_add hc rfl ?_
            refine wi_i1 hc rfl rfl ?_
            refine wi_b01 hc rfl rfl rfl rfl (by omega) ?_
            refine wi_ist (N := 3642) hc rfl rfl (by decide) (by decide) (by omega) (by omega) ?_
            obtain ⟨s3_, es3_⟩ : ∃ q, q = up s2_ 599 ((106 + (4 * (A 8))) + 2) r := ⟨_, rfl⟩
            rw [← es3_]
            refine wi_a1 hc rfl rfl ?_
            refine wi_gr (w := 599) hc rfl rfl (by decide) (Nat.le_of_ble_eq_true rfl) rfl ?_
            refine wi_i2 hc rfl rfl ?_
            refine wi_ic hc rfl ?_
            refine wi_add hc rfl ?_
            refine wi_i2 hc rfl rfl ?_
            refine wi_b01 hc rfl rfl rfl rfl (by omega) ?_
            refine wi_ist (N := 3642) hc rfl rfl (by decide) (by decide) (by omega) (by omega) ?_
            obtain ⟨s4_, es4_⟩ : ∃ q, q = up s3_ 599 ((106 + (4 * (A 8))) + 3) p := ⟨_, rfl⟩
            rw [← es4_]
            refine wi_a1 hc rfl rfl ?_
            refine wi_gr (w := 599) hc rfl rfl (by decide) (Nat.le_of_ble_eq_true rfl) rfl ?_
            refine wi_bi hc rfl rfl ?_
            refine wi_dup2 hc rfl ?_
            refine wi_ildv (N := 3642) hc rfl rfl (by decide) (by decide) (by omega) (by omega) (v := A 8) (((congrFun (congrFun es4_ _) _).trans (up_k (by omega))).trans (((congrFun (congrFun es3_ _) _).trans (up_k (by omega))).trans (((congrFun (congrFun es2_ _) _).trans (up_k (by omega))).trans (((congrFun (congrFun es1_ _) _).trans (up_k (by omega))).trans (congrFun (hJ.1) _))))) ?_
            refine wi_ic hc rfl ?_
            refine wi_add hc rfl ?_
            refine wi_ist (N := 3642) hc rfl rfl (by decide) (by decide) (by omega) (by omega) ?_
            obtain ⟨s5_, es5_⟩ : ∃ q, q = up s4_ 599 8 ((A 8) + 1) := ⟨_, rfl⟩
            rw [← es5_]
            refine wi_a1 hc rfl rfl ?_
            refine wi_gr (w := 599) hc rfl rfl (by decide) (Nat.le_of_ble_eq_true rfl) rfl ?_
            refine wi_bi hc rfl rfl ?_
            refine wi_ildv (N := 3642) hc rfl rfl (by decide) (by decide) (by omega) (by omega) (v := (A 8) + 1) ((congrFun (congrFun es5_ _) _).trans (up_e (by omega))) ?_
            refine wi_ri hc rfl (by rw [cm_279]; rfl) ?_
            have hR : dustR A b o r p = (dustF A b o r p, A 8 + 1) := by unfold dustR; rw [if_neg (by omega), if_pos (by omega)]
            rw [hR]
            have da := dustF_at (A := A) (b := b) (o := o) (r := r) (p := p) (by omega)
            refine ⟨s5_, by rw [show (A 8) + 1 = A 8 + 1 by omega], fun c hc9_ => ((congrFun es5_ c).trans (up_cc (by omega))).trans (((congrFun es4_ c).trans (up_cc (by omega))).trans (((congrFun es3_ c).trans (up_cc (by omega))).trans (((congrFun es2_ c).trans (up_cc (by omega))).trans ((congrFun es1_ c).trans (up_cc (by omega)))))), ?_, (((congrFun es5_ 601).trans (up_cc (by decide))).trans (((congrFun es4_ 601).trans (up_cc (by decide))).trans (((congrFun es3_ 601).trans (up_cc (by decide))).trans (((congrFun es2_ 601).trans (up_cc (by decide))).trans ((congrFun es1_ 601).trans (up_cc (by decide))))))).trans hJ.2.1, by rw [((congrFun es5_ 604).trans (up_cc (by decide))).trans (((congrFun es4_ 604).trans (up_cc (by decide))).trans (((congrFun es3_ 604).trans (up_cc (by decide))).trans (((congrFun es2_ 604).trans (up_cc (by decide))).trans ((congrFun es1_ 604).trans (up_cc (by decide))))))]; exact hJ.2.2⟩
            funext k
            show _ = dustF A b o r p k
            by_cases qs5_ : k = 8
            · rw [es5_, up_e qs5_]; rw [qs5_, dustF_8] <;> omega
            rw [es5_, up_k qs5_]
            by_cases qs4_ : k = (106 + (4 * (A 8))) + 3
            · rw [es4_, up_e qs4_]; rw [show k = 109 + 4 * A 8 by omega, da.2.2.2] <;> omega
            rw [es4_, up_k qs4_]
            by_cases qs3_ : k = (106 + (4 * (A 8))) + 2
            · rw [es3_, up_e qs3_]; rw [show k = 108 + 4 * A 8 by omega, da.2.2.1] <;> omega
            rw [es3_, up_k qs3_]
            by_cases qs2_ : k = (106 + (4 * (A 8))) + 1
            · rw [es2_, up_e qs2_]; rw [show k = 107 + 4 * A 8 by omega, da.2.1] <;> omega
            rw [es2_, up_k qs2_]
            by_cases qs1_ : k = 106 + (4 * (A 8))
            · rw [es1_, up_e qs1_]; rw [show k = 106 + 4 * A 8 by omega, da.1] <;> omega
            rw [es1_, up_k qs1_]
            rw [congrFun hJ.1 k]
            exact (dustF_ne (by omega) (by omega)).symm
          · refine wi_bi hc rfl rfl ?_
            refine wi_ri hc rfl (by rw [cm_279]; rfl) ?_
            have hR : dustR A b o r p = (A, -2) := by unfold dustR; rw [if_neg (by omega), if_neg (by omega)]
            rw [hR]
            exact ⟨s, rfl, fun c _ => rfl, hJ⟩
  · refine wi_a1 hc rfl rfl ?_
    refine wi_gr (w := 599) hc rfl rfl (by decide) (Nat.le_of_ble_eq_true rfl) rfl ?_
    refine wi_bi hc rfl rfl ?_
    refine wi_ic hc rfl ?_
    refine wi_ist (N := 3642) hc rfl rfl (by decide) (by decide) (by omega) (by omega) ?_
    obtain ⟨s6_, es6_⟩ : ∃ q, q = up s 599 8 0 := ⟨_, rfl⟩
    rw [← es6_]
    refine wi_ic hc rfl ?_
    refine wi_ri hc rfl (by rw [cm_279]; rfl) ?_
    have hR : dustR A b o r p = (set1 A 8 0, 0) := by unfold dustR; rw [if_pos (by omega)]
    rw [hR]
    exact ⟨s6_, rfl, fun c hc9_ => (congrFun es6_ c).trans (up_cc (by omega)), by rw [es6_]; exact up_set1 hJ.1, by rw [es6_, up_cc (by decide)]; exact hJ.2.1, by rw [es6_, up_cc (by decide)]; exact hJ.2.2⟩
