/-! The model's CALM, BASIN, NEVER. -/
theorem sp_255 {d L t : Nat} {s l : Nat → Int → Int} {A T : Int → Int} (hJ : JM s A T) (hK : KA A T) {S : Int} (S0 : 0 ≤ S) (S1 : S < 2 ^ (A 0).toNat) (m7 : mS S < 7) (hC : CHm s (cF A T) (A 0)) : ∃ s1, mm_Ev mm_ct mm_CM (d + 3) 255 [.ref 598, .int (iI S)] (MX L t s l) (none, MX L t s1 l) ∧ (∀ c, c ≠ 598 ∧ c ≠ 610 ∧ c ≠ 611 ∧ c ≠ 612 ∧ c ≠ 613 ∧ c ≠ 614 → s1 c = s c) ∧ (∀ k, k ≠ 34 → k ≠ 35 → s1 598 k = s 598 k) ∧ JM s1 A T ∧ OM (mS S) s1 ∧ EM S (mS S) s1 ∧ LM (cF A T) S (mS S) s1 ∧ CHm s1 (cF A T) (A 0) := by
  have hc : (mm_CM 255).2.2.2.2.2.2.2 = mm_cf cd_255 := by rw [cm_255]; rfl
  refine ev_xs ?_
  refine ev_to (mx := 3) (by rw [cm_255]; decide) (by rw [cm_255]; rfl) (by show 2 ≤ _; decide) ?_
  show mm_wp _ _ (0, [some (.ref 598), some (.int (iI S)), none], [], MX L t s l) (fun res => ∃ s1, res = (none, MX L t s1 l) ∧ (∀ c, c ≠ 598 ∧ c ≠ 610 ∧ c ≠ 611 ∧ c ≠ 612 ∧ c ≠ 613 ∧ c ≠ 614 → s1 c = s c) ∧ (∀ k, k ≠ 34 → k ≠ 35 → s1 598 k = s 598 k) ∧ JM s1 A T ∧ OM (mS S) s1 ∧ EM S (mS S) s1 ∧ LM (cF A T) S (mS S) s1 ∧ CHm s1 (cF A T) (A 0))
  have hV := hK.1
  have hB := hK.2.1
  have g0 := hB.1
  have hpw := pw_10 g0.1 g0.2
  refine wi_a1 hc rfl rfl ?_
  refine wi_ic hc rfl ?_
  refine wi_pf (kz := 34) rfl hc rfl rfl (by decide) (Nat.le_of_ble_eq_true rfl) rfl (Nat.le_of_ble_eq_true rfl) ⟨rfl, rfl⟩ rfl ?_
  obtain ⟨s1_, es1_⟩ : ∃ q, q = up s 598 34 0 := ⟨_, rfl⟩
  rw [← es1_]
  refine wi_ic hc rfl ?_
  refine wi_is1 (L' := [some (.ref 598), some (.int (iI S)), some (.int (iI 0))]) hc rfl (Nat.le_of_ble_eq_true rfl) rfl ?_
  have loop7_ : ∀ b : Int, b ≤ A 0 → 0 ≤ b → ∀ s2 : Nat → Int → Int, (∀ c, c ≠ 598 ∧ c ≠ 613 → s2 c = s c) → (∀ k, k ≠ 34 → s2 598 k = s 598 k) → JM s2 A T → s2 598 34 = lnB S b → ElB S b (s2 613) → mm_wp (mm_Ev mm_ct mm_CM (d + 2)) 255 (7, [some (.ref 598), some (.int (iI S)), some (.int (iI b))], [], MX L t s2 l) (fun res => ∃ s1, res = (none, MX L t s1 l) ∧ (∀ c, c ≠ 598 ∧ c ≠ 610 ∧ c ≠ 611 ∧ c ≠ 612 ∧ c ≠ 613 ∧ c ≠ 614 → s1 c = s c) ∧ (∀ k, k ≠ 34 → k ≠ 35 → s1 598 k = s 598 k) ∧ JM s1 A T ∧ OM (mS S) s1 ∧ EM S (mS S) s1 ∧ LM (cF A T) S (mS S) s1 ∧ CHm s1 (cF A T) (A 0)) := by
    refine up_ind ?_
    intro b hb9 ih b0 s2 hF2 hk2 hJ2 hn2 he2
    have hlr := lnB_r (S := S) b0
    refine wi_i1 hc rfl rfl ?_
    refine wi_a1 hc rfl rfl ?_
    refine wi_gr (w := 599) hc rfl rfl (by decide) (Nat.le_of_ble_eq_true rfl) rfl ?_
    refine wi_ic hc rfl ?_
    refine wi_ildv (N := 3642) hc rfl rfl (by decide) (by decide) (by omega) (by omega) (v := A 0) (congrFun (hJ2.1) _) ?_
    refine wi_cge hc rfl ⟨by omega, by omega⟩ ⟨by omega, by omega⟩ (fun h1_ => ?_) (fun h1_ => ?_)
    · have hbA : b = A 0 := by omega
      have hbl := blN_10 g0.1 g0.2 S0 S1
      have hM2 : s2 598 34 = ((mS S : Nat) : Int) := by
        rw [hn2, hbA]
        unfold lnB mS
        rw [hbl]
      have hE2 : EM S (mS S) s2 := fun e e0 e1 => by
        have h1 : lnB S b = ((mS S : Nat) : Int) := by rw [← hn2]; exact hM2
        rw [he2 e e0 (by omega), hbA, ← hbl]
        rfl
      refine wi_a1 hc rfl rfl ?_
      obtain ⟨s2_, hE2_, hF2_, hk2_, hO2_⟩ := sp_253 (d := 0) (L := L) (t := t) (l := l) m7 hM2
      refine wp_cv (b := 598) (As := []) (r := []) hc rfl (by rw [cm_253]; rfl) rfl (Nat.le_of_ble_eq_true rfl) (show 598 < 621 by decide) (by rw [cm_253]; rfl) (ev_mono hE2_ (by omega)) ?_
      show mm_wp _ _ (58, [some (.ref 598), some (.int (iI S)), some (.int (iI b))], [], MX L t s2_ l) _
      refine wi_a1 hc rfl rfl ?_
      have hpw := pw_10 g0.1 g0.2
      have hel : ∀ e, 0 ≤ e → e < ((mS S : Nat) : Int) → 0 ≤ elF S e ∧ elF S e < A 0 := fun e e0 e1 => by
        have h1 := elF_r (S := S) (m := mS S) rfl e0 e1
        have h2 := elF_bit (S := S) (m := mS S) S0 rfl e0 e1
        have := set_bit S0 S1 h2
        omega
      obtain ⟨s3_, hE3_, hF3_, hL3_⟩ := sp_254 (d := 0) (L := L) (t := t) (l := l) m7 hO2_ (hE2.of (hF2_ 613 (by decide))) (hC.of ((hF2_ 607 (by decide)).trans (hF2 607 (by decide)))) (cF_01 A T) hel (by omega)
      refine wp_cv (b := 598) (As := []) (r := []) hc rfl (by rw [cm_254]; rfl) rfl (Nat.le_of_ble_eq_true rfl) (show 598 < 621 by decide) (by rw [cm_254]; rfl) (ev_mono hE3_ (by omega)) ?_
      show mm_wp _ _ (62, [some (.ref 598), some (.int (iI S)), some (.int (iI b))], [], MX L t s3_ l) _
      refine wi_rv hc rfl (by rw [cm_255]; rfl) ?_
      exact ⟨s3_, rfl, fun c hc9_ => (hF3_ c (by omega)).trans ((hF2_ c (by omega)).trans (hF2 c (by omega))), fun k k1 k2 => (congrFun (hF3_ 598 (by decide)) k).trans ((hk2_ k k2).trans (hk2 k k1)), hJ2.of ((hF3_ 599 (by decide)).trans (hF2_ 599 (by decide))) ((hF3_ 601 (by decide)).trans (hF2_ 601 (by decide))) ((hF3_ 604 (by decide)).trans (hF2_ 604 (by decide))), hO2_.of (hF3_ 598 (by decide)) (hF3_ 610 (by decide)), hE2.of ((hF3_ 613 (by decide)).trans (hF2_ 613 (by decide))), hL3_, hC.of (((hF3_ 607 (by decide)).trans (hF2_ 607 (by decide))).trans (hF2 607 (by decide)))⟩
    · refine wi_i1 hc rfl rfl ?_
      refine wi_i1 hc rfl rfl ?_
      refine wp_cs (As := [.int (iI S), .int (iI b)]) (r := []) hc rfl (by rw [cm_149]; rfl) rfl (Nat.le_of_ble_eq_true rfl) (ev_mono (sp_149 (d := 0) (i := b) (rI_of (by omega) (by omega)) (by omega) (by omega)) (by omega)) ?_
      show mm_wp _ _ (22, [some (.ref 598), some (.int (iI S)), some (.int (iI b))], [.int (iI (bI (S / 2 ^ b.toNat % 2 = 1)))], MX L t s2 l) _
      refine wi_bne hc rfl (fun h2_ => ?_) (fun h2_ => ?_)
      · refine wi_a1 hc rfl rfl ?_
        refine wi_gr (w := 613) hc rfl rfl (by decide) (Nat.le_of_ble_eq_true rfl) rfl ?_
        refine wi_a1 hc rfl rfl ?_
        refine wi_gfv (kz := 34) rfl hc rfl rfl (by decide) (Nat.le_of_ble_eq_true rfl) rfl (v := lnB S b) (hn2) ?_
        refine wi_i1 hc rfl rfl ?_
        refine wi_ist (N := 10) hc rfl rfl (by decide) (by decide) (by omega) (by omega) ?_
        obtain ⟨s4_, es4_⟩ : ∃ q, q = up s2 613 (lnB S b) b := ⟨_, rfl⟩
        rw [← es4_]
        refine wi_a1 hc rfl rfl ?_
        refine wi_dupr hc rfl ?_
        refine wi_gfv (kz := 34) rfl hc rfl rfl (by decide) (Nat.le_of_ble_eq_true rfl) rfl (v := lnB S b) (((congrFun (congrFun es4_ _) _).trans (up_c (by decide))).trans (hn2)) ?_
        refine wi_ic hc rfl ?_
        refine wi_add hc rfl ?_
        refine wi_pf (kz := 34) rfl hc rfl rfl (by decide) (Nat.le_of_ble_eq_true rfl) rfl (Nat.le_of_ble_eq_true rfl) ⟨rfl, rfl⟩ rfl ?_
        obtain ⟨s5_, es5_⟩ : ∃ q, q = up s4_ 598 34 ((lnB S b) + 1) := ⟨_, rfl⟩
        rw [← es5_]
        refine wi_inc (L' := [some (.ref 598), some (.int (iI S)), some (.int (iI (b + 1)))]) hc rfl rfl rfl ?_
        refine wi_go hc rfl ?_
        exact ih (by omega) (by omega) s5_ (fun c hc9_ => ((congrFun es5_ c).trans (up_cc (by omega))).trans (((congrFun es4_ c).trans (up_cc (by omega))).trans (hF2 c (by omega)))) (fun k hk => (congrFun (congrFun es5_ _) _).trans ((up_k hk).trans ((congrFun (congrFun es4_ _) _).trans ((up_c (by decide)).trans (hk2 k hk))))) (JM.of hJ2 (((congrFun es5_ 599).trans (up_cc (by decide))).trans ((congrFun es4_ 599).trans (up_cc (by decide)))) (((congrFun es5_ 601).trans (up_cc (by decide))).trans ((congrFun es4_ 601).trans (up_cc (by decide)))) (((congrFun es5_ 604).trans (up_cc (by decide))).trans ((congrFun es4_ 604).trans (up_cc (by decide))))) (by rw [es5_, up_at, lnB_s S0 b0, if_pos (by omega)]) (he2.yes S0 b0 (by omega) (fun e => by rw [es5_, up_c (by decide), es4_, up_ite]))
      · refine wi_go hc rfl ?_
        refine wi_inc (L' := [some (.ref 598), some (.int (iI S)), some (.int (iI (b + 1)))]) hc rfl rfl rfl ?_
        refine wi_go hc rfl ?_
        exact ih (by omega) (by omega) s2 hF2 hk2 hJ2 (by rw [lnB_s S0 b0, if_neg (by omega)]; omega) (he2.no S0 b0 (by omega))
  exact loop7_ 0 (by omega) (by omega) s1_ (fun c hc9_ => (congrFun es1_ c).trans (up_cc (by omega))) (fun k hk => (congrFun (congrFun es1_ _) _).trans (up_k hk)) (JM.of hJ ((congrFun es1_ 599).trans (up_cc (by decide))) ((congrFun es1_ 601).trans (up_cc (by decide))) ((congrFun es1_ 604).trans (up_cc (by decide)))) (by rw [es1_, up_at]; rfl) (fun e e0 e1 => by have : lnB S 0 = 0 := rfl; omega)
theorem sp_257 {d L t : Nat} {s l : Nat → Int → Int} {A T : Int → Int} (hJ : JM s A T) (hK : KA A T) {S : Int} (S0 : 0 ≤ S) (S1 : S < 2 ^ (A 0).toNat) (m7 : mS S < 7) : ∃ s1 l1, mm_Ev mm_ct mm_CM (d + 8) 257 [.ref 598, .int (iI S)] (MX L t s l) (none, MX L t s1 l1) ∧ (∀ c, c ≠ 598 ∧ c ≠ 604 ∧ c ≠ 606 ∧ c ≠ 607 ∧ c ≠ 610 ∧ c ≠ 611 ∧ c ≠ 612 ∧ c ≠ 613 ∧ c ≠ 614 → s1 c = s c) ∧ (∀ c, c ≠ 605 → l1 c = l c) ∧ (∀ k, k ≠ 34 → k ≠ 35 → s1 598 k = s 598 k) ∧ JM s1 A T ∧ OM (mS S) s1 ∧ EM S (mS S) s1 ∧ LM (cF A T) S (mS S) s1 ∧ CHm s1 (cF A T) (A 0) := by
  have hc : (mm_CM 257).2.2.2.2.2.2.2 = mm_cf cd_257 := by rw [cm_257]; rfl
  refine ev_xsl ?_
  refine ev_to (mx := 2) (by rw [cm_257]; decide) (by rw [cm_257]; rfl) (by show 2 ≤ _; decide) ?_
  show mm_wp _ _ (0, [some (.ref 598), some (.int (iI S))], [], MX L t s l) (fun res => ∃ s1 l1, res = (none, MX L t s1 l1) ∧ (∀ c, c ≠ 598 ∧ c ≠ 604 ∧ c ≠ 606 ∧ c ≠ 607 ∧ c ≠ 610 ∧ c ≠ 611 ∧ c ≠ 612 ∧ c ≠ 613 ∧ c ≠ 614 → s1 c = s c) ∧ (∀ c, c ≠ 605 → l1 c = l c) ∧ (∀ k, k ≠ 34 → k ≠ 35 → s1 598 k = s 598 k) ∧ JM s1 A T ∧ OM (mS S) s1 ∧ EM S (mS S) s1 ∧ LM (cF A T) S (mS S) s1 ∧ CHm s1 (cF A T) (A 0))
  refine wi_a1 hc rfl rfl ?_
  obtain ⟨s1_, l1_, hE1_, hF1_, hG1_, hJ1_, hC1_⟩ := sp_239 (d := 0) (L := L) (t := t) (l := l) hJ hK
  refine wp_cv (b := 598) (As := []) (r := []) hc rfl (by rw [cm_239]; rfl) rfl (Nat.le_of_ble_eq_true rfl) (show 598 < 621 by decide) (by rw [cm_239]; rfl) (ev_mono hE1_ (by omega)) ?_
  show mm_wp _ _ (4, [some (.ref 598), some (.int (iI S))], [], MX L t s1_ l1_) _
  refine wi_a1 hc rfl rfl ?_
  refine wi_i1 hc rfl rfl ?_
  obtain ⟨s2_, hE2_, hF2_, hk2_, hJ2_, hO2_, hM2_, hL2_, hC2_⟩ := sp_255 (d := 0) (L := L) (t := t) (l := l1_) hJ1_ hK S0 S1 m7 hC1_
  refine wp_cv (b := 598) (As := [.int (iI S)]) (r := []) hc rfl (by rw [cm_255]; rfl) rfl (Nat.le_of_ble_eq_true rfl) (show 598 < 621 by decide) (by rw [cm_255]; rfl) (ev_mono hE2_ (by omega)) ?_
  show mm_wp _ _ (9, [some (.ref 598), some (.int (iI S))], [], MX L t s2_ l1_) _
  refine wi_rv hc rfl (by rw [cm_257]; rfl) ?_
  exact ⟨s2_, l1_, rfl, fun c hc9_ => (hF2_ c (by omega)).trans (hF1_ c (by omega)), fun c hc9_ => hG1_ c (by omega), fun k k1 k2 => (hk2_ k k1 k2).trans (congrFun (hF1_ 598 (by decide)) k), hJ2_, hO2_, hM2_, hL2_, hC2_⟩
theorem sp_258 {d L t : Nat} {s l : Nat → Int → Int} {c : Int → Int → Int} {S : Int} {m : Nat} (m7 : m < 7) (hO : OM m s) (hL : LM c S m s) {i : Int} (hi : rI i) : mm_Ev mm_ct mm_CM (d + 1) 258 [.ref 598, .int (iI i)] (MX L t s l) (some (.int (iI (fdO c S m i))), MX L t s l) := by
  have hc : (mm_CM 258).2.2.2.2.2.2.2 = mm_cf cd_258 := by rw [cm_258]; rfl
  refine ev_of (mx := 4) (by rw [cm_258]; decide) (by rw [cm_258]; rfl) (by show 2 ≤ _; decide) ?_
  show mm_wp _ _ (0, [some (.ref 598), some (.int (iI i)), none, none], [], MX L t s l) (fun r => r = (some (.int (iI (fdO c S m i))), MX L t s l))
  have hfm := fct_r m
  refine wi_ic hc rfl ?_
  refine wi_is1 (L' := [some (.ref 598), some (.int (iI i)), some (.int (iI 0)), none]) hc rfl (Nat.le_of_ble_eq_true rfl) rfl ?_
  refine wi_ic hc rfl ?_
  refine wi_is1 (L' := [some (.ref 598), some (.int (iI i)), some (.int (iI 0)), some (.int (iI 0))]) hc rfl (Nat.le_of_ble_eq_true rfl) rfl ?_
  have loop4_ : ∀ k : Int, k ≤ ((fct m : Nat) : Int) → 0 ≤ k → ∀ e : Int, 0 ≤ e → e ≤ k → fdO c S m i = fndO c S m i (((fct m : Nat) : Int) - k).toNat k e → mm_wp (mm_Ev mm_ct mm_CM d) 258 (4, [some (.ref 598), some (.int (iI i)), some (.int (iI e)), some (.int (iI k))], [], MX L t s l) (fun r => r = (some (.int (iI (fdO c S m i))), MX L t s l)) := by
    refine up_ind ?_
    intro k hk9 ih k0 e e0 e1 hfd
    have h9_ := cmO_01 c S m k
    refine wi_i1 hc rfl rfl ?_
    refine wi_a1 hc rfl rfl ?_
    refine wi_gfv (kz := 35) rfl hc rfl rfl (by decide) (Nat.le_of_ble_eq_true rfl) rfl (v := ((fct m : Nat) : Int)) (hO.2.1) ?_
    refine wi_cge hc rfl ⟨by omega, by omega⟩ ⟨by omega, by omega⟩ (fun h1_ => ?_) (fun h1_ => ?_)
    · refine wi_ic hc rfl ?_
      refine wi_ri hc rfl (by rw [cm_258]; rfl) ?_
      rw [hfd, show (((fct m : Nat) : Int) - k).toNat = 0 by omega]
      rfl
    · refine wi_a1 hc rfl rfl ?_
      refine wi_gr (w := 612) hc rfl rfl (by decide) (Nat.le_of_ble_eq_true rfl) rfl ?_
      refine wi_i1 hc rfl rfl ?_
      refine wi_bldv (N := 720) hc rfl rfl (by decide) (by decide) (by omega) (by omega) (v := cmO c S m k) (hL.2 _ (by omega) (by omega)) ?_
      refine wi_zne hc rfl ⟨by omega, by omega⟩ (fun h2_ => ?_) (fun h2_ => ?_)
      · refine wi_i1 hc rfl rfl ?_
        refine wi_i1 hc rfl rfl ?_
        refine wi_cne hc rfl ⟨by omega, by omega⟩ hi (fun h3_ => ?_) (fun h3_ => ?_)
        · refine wi_inc (L' := [some (.ref 598), some (.int (iI i)), some (.int (iI (e + 1))), some (.int (iI k))]) hc rfl rfl rfl ?_
          refine wi_inc (L' := [some (.ref 598), some (.int (iI i)), some (.int (iI (e + 1))), some (.int (iI (k + 1)))]) hc rfl rfl rfl ?_
          refine wi_go hc rfl ?_
          exact ih (by omega) (by omega) (e + 1) (by omega) (by omega) (by rw [hfd, fndO_s (by omega), if_pos (by omega), if_neg (by omega)])
        · refine wi_i1 hc rfl rfl ?_
          refine wi_ri hc rfl (by rw [cm_258]; rfl) ?_
          rw [hfd, fndO_s (by omega), if_pos (by omega), if_pos (by omega)]
      · refine wi_go hc rfl ?_
        refine wi_inc (L' := [some (.ref 598), some (.int (iI i)), some (.int (iI e)), some (.int (iI (k + 1)))]) hc rfl rfl rfl ?_
        refine wi_go hc rfl ?_
        exact ih (by omega) (by omega) e (by omega) (by omega) (by rw [hfd, fndO_s (by omega), if_neg (by omega)])
  exact loop4_ 0 (by omega) (by omega) 0 (by omega) (by omega) (by unfold fdO; rw [show (((fct m : Nat) : Int) - 0).toNat = fct m by omega])
theorem gF_s {c : Int → Int → Int} {S : Int} {m : Nat} {k u N : Int} (u1 : u < N) (u0 : 0 ≤ u) : gF c S m (N - u).toNat (2 * k + u % 2) = if cmO c S m k = 1 then k else gF c S m (N - (u + 1)).toNat (2 * rkI m (nF (cE c S) m (u % 2) (dgI m k)) + (u + 1) % 2) := by
  rw [show (N - u).toNat = (N - (u + 1)).toNat + 1 by omega, gF, show (2 * k + u % 2) / 2 = k by omega]
  split
  · rfl
  · congr 1
    unfold nxS
    rw [show (2 * k + u % 2) / 2 = k by omega, show (2 * k + u % 2) % 2 = u % 2 by omega]
    omega
theorem sp_260 {d L t : Nat} {s l : Nat → Int → Int} {c : Int → Int → Int} {S : Int} {m : Nat} (m7 : m < 7) (hO : OM m s) (hL : LM c S m s) {n : Int} (n0 : 0 ≤ n) (n1 : n < fct m) : mm_Ev mm_ct mm_CM (d + 1) 260 [.ref 598, .int (iI n)] (MX L t s l) (some (.int (iI (Gs c S m (2 * n)))), MX L t s l) := by
  have hc : (mm_CM 260).2.2.2.2.2.2.2 = mm_cf cd_260 := by rw [cm_260]; rfl
  refine ev_of (mx := 4) (by rw [cm_260]; decide) (by rw [cm_260]; rfl) (by show 2 ≤ _; decide) ?_
  show mm_wp _ _ (0, [some (.ref 598), some (.int (iI n)), none, none], [], MX L t s l) (fun r => r = (some (.int (iI (Gs c S m (2 * n)))), MX L t s l))
  have hfm := fct_r m
  refine wi_i1 hc rfl rfl ?_
  refine wi_is1 (L' := [some (.ref 598), some (.int (iI n)), some (.int (iI n)), none]) hc rfl (Nat.le_of_ble_eq_true rfl) rfl ?_
  refine wi_ic hc rfl ?_
  refine wi_is1 (L' := [some (.ref 598), some (.int (iI n)), some (.int (iI n)), some (.int (iI 0))]) hc rfl (Nat.le_of_ble_eq_true rfl) rfl ?_
  have loop4_ : ∀ u : Int, u ≤ 2 * ((fct m : Nat) : Int) + 1 → 0 ≤ u → ∀ k : Int, 0 ≤ k → k < ((fct m : Nat) : Int) → Gs c S m (2 * n) = gF c S m (2 * ((fct m : Nat) : Int) + 1 - u).toNat (2 * k + u % 2) → mm_wp (mm_Ev mm_ct mm_CM d) 260 (4, [some (.ref 598), some (.int (iI n)), some (.int (iI k)), some (.int (iI u))], [], MX L t s l) (fun r => r = (some (.int (iI (Gs c S m (2 * n)))), MX L t s l)) := by
    refine up_ind ?_
    intro u hu9 ih u0 k k0 k1 hgs
    have h9_ := cmO_01 c S m k
    refine wi_i1 hc rfl rfl ?_
    refine wi_ic hc rfl ?_
    refine wi_a1 hc rfl rfl ?_
    refine wi_gfv (kz := 35) rfl hc rfl rfl (by decide) (Nat.le_of_ble_eq_true rfl) rfl (v := ((fct m : Nat) : Int)) (hO.2.1) ?_
    refine wi_mul hc rfl ?_
    refine wi_cgt hc rfl ⟨by omega, by omega⟩ ⟨by omega, by omega⟩ (fun h1_ => ?_) (fun h1_ => ?_)
    · refine wi_ic hc rfl ?_
      refine wi_ri hc rfl (by rw [cm_260]; rfl) ?_
      rw [hgs, show (2 * ((fct m : Nat) : Int) + 1 - u).toNat = 0 by omega]
      rfl
    · refine wi_a1 hc rfl rfl ?_
      refine wi_gr (w := 612) hc rfl rfl (by decide) (Nat.le_of_ble_eq_true rfl) rfl ?_
      refine wi_i1 hc rfl rfl ?_
      refine wi_bldv (N := 720) hc rfl rfl (by decide) (by decide) (by omega) (by omega) (v := cmO c S m k) (hL.2 _ (by omega) (by omega)) ?_
      refine wi_zeq hc rfl ⟨by omega, by omega⟩ (fun h2_ => ?_) (fun h2_ => ?_)
      · refine wi_a1 hc rfl rfl ?_
        refine wi_gr (w := 611) hc rfl rfl (by decide) (Nat.le_of_ble_eq_true rfl) rfl ?_
        refine wi_ic hc rfl ?_
        refine wi_i1 hc rfl rfl ?_
        refine wi_mul hc rfl ?_
        refine wi_i1 hc rfl rfl ?_
        refine wi_ic hc rfl ?_
        refine wi_remp hc rfl ⟨by omega, by omega⟩ ⟨by decide, by decide⟩ (by omega) (by omega) ?_
        refine wi_add hc rfl ?_
        refine wi_ildv (N := 1440) hc rfl rfl (by decide) (by decide) (by omega) (by omega) (v := rkI m (nF (cE c S) m (u % 2) (dgI m k))) (hL.1 _ _ (by omega) (by omega) (by omega) (by omega)) ?_
        refine wi_is1 (L' := [some (.ref 598), some (.int (iI n)), some (.int (iI (rkI m (nF (cE c S) m (u % 2) (dgI m k))))), some (.int (iI u))]) hc rfl (Nat.le_of_ble_eq_true rfl) rfl ?_
        refine wi_inc (L' := [some (.ref 598), some (.int (iI n)), some (.int (iI (rkI m (nF (cE c S) m (u % 2) (dgI m k))))), some (.int (iI (u + 1)))]) hc rfl rfl rfl ?_
        refine wi_go hc rfl ?_
        have hdg := dg_ok m7 k0 (by omega : k < fct m)
        have hrk := (rk_ok m7 (nF_all (P := fun v => 0 ≤ v ∧ v < (m : Int)) hdg.1 (by omega : 0 ≤ u % 2)) (hdg.2.1.nF (c := cE c S) (by omega : 0 ≤ u % 2))).1
        exact ih (by omega) (by omega) _ hrk.1 hrk.2 (by rw [hgs, gF_s (by omega) u0, if_neg (by omega)])
      · refine wi_i1 hc rfl rfl ?_
        refine wi_ri hc rfl (by rw [cm_260]; rfl) ?_
        rw [hgs, gF_s (by omega) u0, if_pos (by omega)]
  exact loop4_ 0 (by omega) (by omega) n n0 n1 (by unfold Gs; rw [show (2 * ((fct m : Nat) : Int) + 1 - 0).toNat = 2 * fct m + 1 by omega, show 2 * n + 0 % 2 = 2 * n by omega])
