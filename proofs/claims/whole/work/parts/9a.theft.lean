/-! THEFT and CHEAPEST on both sides. -/
theorem sp_27 {d L t : Nat} {s l : Nat → Int → Int} {e p : Int} (h0 : 0 ≤ e) (h1 : e < 1099511627776) (p0 : 0 ≤ p) (p1 : p < 10) : mm_Ev mm_ct mm_CM (d + 1) 27 [.long (lI e), .int (iI p)] (MX L t s l) (some (.long (lI (woI e p))), MX L t s l) := by
  have hc : (mm_CM 27).2.2.2.2.2.2.2 = mm_cf cd_27 := by rw [cm_27]; rfl
  refine ev_of (mx := 5) (by rw [cm_27]; decide) (by rw [cm_27]; rfl) (by show 3 ≤ _; decide) ?_
  show mm_wp _ _ (0, [some (.long (lI e)), none, some (.int (iI p)), none, none], [], MX L t s l) (fun r => r = (some (.long (lI (woI e p))), MX L t s l))
  have hp1 : (1 : Int) ≤ 2 ^ (4 * p).toNat := by rw [p2c]; exact_mod_cast Nat.two_pow_pos _
  have hp2 : (0 : Int) ≤ 2 ^ (4 * (p + 1)).toNat := by rw [p2c]; exact Int.natCast_nonneg _
  have hd0 : 0 ≤ e / 2 ^ (4 * (p + 1)).toNat := Int.ediv_nonneg h0 hp2
  have hm0 : 0 ≤ e / (2 ^ (4 * (p + 1)).toNat) * (2 ^ (4 * p).toNat) := Int.mul_nonneg hd0 (by omega)
  have ha0 : 0 ≤ andI e (1 * (2 ^ (4 * p).toNat) - 1) := Int.natCast_nonneg _
  refine wi_l1 hc rfl rfl ?_
  refine wl_ic (z := 1) hc ⟨_, rfl, rfl⟩ ?_
  refine wi_ic hc rfl ?_
  refine wi_i1 hc rfl rfl ?_
  refine wi_mul hc rfl ?_
  refine wl_shl (2 ^ (4 * p).toNat) rfl hc rfl (by omega) (by omega) ?_
  refine wl_ic (z := 1) hc ⟨_, rfl, rfl⟩ ?_
  refine wl_sub hc rfl ?_
  refine wl_and hc rfl (by omega) (by omega) ?_
  refine wi_ls1 (L' := [some (.long (lI e)), none, some (.int (iI p)), some (.long (lI (andI e ((1 * (2 ^ (4 * p).toNat)) - 1)))), none]) hc rfl (Nat.le_of_ble_eq_true rfl) rfl ?_
  refine wi_l1 hc rfl rfl ?_
  refine wi_ic hc rfl ?_
  refine wi_i1 hc rfl rfl ?_
  refine wi_ic hc rfl ?_
  refine wi_add hc rfl ?_
  refine wi_mul hc rfl ?_
  refine wl_ushr (2 ^ (4 * (p + 1)).toNat) rfl hc rfl (by omega) (by omega) (by omega) (by omega) ?_
  refine wi_ic hc rfl ?_
  refine wi_i1 hc rfl rfl ?_
  refine wi_mul hc rfl ?_
  refine wl_shl (2 ^ (4 * p).toNat) rfl hc rfl (by omega) (by omega) ?_
  refine wi_l1 hc rfl rfl ?_
  refine wl_or hc rfl (by omega) (by omega) ?_
  refine wi_rl hc rfl (by rw [cm_27]; rfl) ?_
  rfl
theorem sp_27f {d L t : Nat} {s l : Nat → Int → Int} {f : Int → Int} {n set p : Int} (hi : inS set f n) (n0 : 0 ≤ n) (n1 : n ≤ 10) (p0 : 0 ≤ p) (p1 : p < n) : mm_Ev mm_ct mm_CM (d + 1) 27 [.long (lI (rwE f n)), .int (iI p)] (MX L t s l) (some (.long (lI (rwE (woF f p) (n - 1)))), MX L t s l) := by
  have hre := rwE_ok n0 n1 hi.r16
  have h := sp_27 (d := d) (L := L) (t := t) (s := s) (l := l) (e := rwE f n) (p := p) hre.1.1 hre.1.2 p0 (by omega)
  rw [(hre.wo p0 p1 n1).eq (by omega) (by omega) (hi.wo p0 p1).r16 (fun _ _ _ => rfl)] at h
  exact h
theorem sp_28 {d L t : Nat} {s l : Nat → Int → Int} {c : Int → Int → Int} {f : Int → Int} {n set : Int} (hC : CHc s c set) (h01 : ∀ x y, c x y = 0 ∨ c x y = 1) (hi : inS set f n) (n0 : 0 ≤ n) (n1 : n ≤ 10) {k b : Int} (k0 : rI k) (k1 : rI (k + 501)) (hj : injF f n) (hm : ∃ p, 0 ≤ p ∧ p < n ∧ f p = b) (hb : rI b) {j : Int} (hj0 : j = psF f n b) : ∃ l1, mm_Ev mm_ct mm_CM (d + 6) 28 [.ref 590, .long (lI (rwE f n)), .int (iI n), .int (iI k), .int (iI b)] (MX L t s l) (some (.int (iI (costV c n k f b j))), MX L t s l1) ∧ (∀ c9, c9 ≠ 590 → l1 c9 = l c9) := by
  have hc : (mm_CM 28).2.2.2.2.2.2.2 = mm_cf cd_28 := by rw [cm_28]; rfl
  refine ev_xl ?_
  refine ev_to (mx := 11) (by rw [cm_28]; decide) (by rw [cm_28]; rfl) (by show 6 ≤ _; decide) ?_
  show mm_wp _ _ (0, [some (.ref 590), some (.long (lI (rwE f n))), none, some (.int (iI n)), some (.int (iI k)), some (.int (iI b)), none, none, none, none, none], [], MX L t s l) (fun res => ∃ l1, res = (some (.int (iI (costV c n k f b j))), MX L t s l1) ∧ (∀ c9, c9 ≠ 590 → l1 c9 = l c9))
  have hps := psF_ok hj hm
  obtain ⟨r1, hr1⟩ : ∃ q, q = rsF c n k f 501 0 := ⟨_, rfl⟩
  obtain ⟨f1, hf1⟩ : ∃ q, q = stF c n k f r1.toNat := ⟨_, rfl⟩
  obtain ⟨j1, hj1⟩ : ∃ q, q = psF f1 n b := ⟨_, rfl⟩
  obtain ⟨r2, hr2⟩ : ∃ q, q = rsF c (n - 1) k (woF f j) 501 0 := ⟨_, rfl⟩
  obtain ⟨f2, hf2⟩ : ∃ q, q = stF c (n - 1) k (woF f j) r2.toNat := ⟨_, rfl⟩
  have hcost : costV c n k f b j = if r1 = -1 ∨ r2 = -1 then -1 else dfN (woF f1 j1) f2 (n - 1).toNat := by rw [hf2, hr2, hj1, hf1, hr1]; rfl
  rw [← hj0] at hps
  have hi1 : inS set f1 n := by rw [hf1]; exact hi.stF r1.toNat
  have hps1 : 0 ≤ j1 ∧ j1 < n := by rw [hj1, hf1]; exact ⟨(psF_ok (hj.stF (c := c) (k := k) r1.toNat) (stF_mem (c := c) (k := k) hm r1.toNat)).1, (psF_ok (hj.stF (c := c) (k := k) r1.toNat) (stF_mem (c := c) (k := k) hm r1.toNat)).2.1⟩
  have hiw : inS set (woF f j) (n - 1) := hi.wo hps.1 hps.2.1
  have hi2 : inS set f2 (n - 1) := by rw [hf2]; exact hiw.stF r2.toNat
  have hiw1 : inS set (woF f1 j1) (n - 1) := hi1.wo hps1.1 hps1.2
  have hrr1 : -1 ≤ r1 ∧ r1 ≤ 501 := by have := rsF_r c n k f 501 0; omega
  have hrr2 : -1 ≤ r2 ∧ r2 ≤ 501 := by have := rsF_r c (n - 1) k (woF f j) 501 0; omega
  refine wi_l1 hc rfl rfl ?_
  refine wi_i1 hc rfl rfl ?_
  refine wi_i2 hc rfl rfl ?_
  refine wp_cs (As := [.long (lI (rwE f n)), .int (iI n), .int (iI b)]) (r := []) hc rfl (by rw [cm_24]; rfl) rfl (Nat.le_of_ble_eq_true rfl) (ev_mono (sp_24 (d := 0) hi n0 n1 hb) (by omega)) ?_
  rw [← hj0]
  show mm_wp _ _ (7, [some (.ref 590), some (.long (lI (rwE f n))), none, some (.int (iI n)), some (.int (iI k)), some (.int (iI b)), none, none, none, none, none], [.int (iI j)], MX L t s l) _
  refine wi_is2 (L' := [some (.ref 590), some (.long (lI (rwE f n))), none, some (.int (iI n)), some (.int (iI k)), some (.int (iI b)), some (.int (iI j)), none, none, none, none]) hc rfl (Nat.le_of_ble_eq_true rfl) rfl ?_
  refine wi_i2 hc rfl rfl ?_
  refine wi_ic hc rfl ?_
  refine wi_ceq hc rfl ⟨by omega, by omega⟩ ⟨by decide, by decide⟩ (fun h1_ => (by exfalso; omega)) (fun h1_ => ?_)
  refine wi_a1 hc rfl rfl ?_
  refine wi_l1 hc rfl rfl ?_
  refine wi_i1 hc rfl rfl ?_
  refine wi_i2 hc rfl rfl ?_
  obtain ⟨l1_, hE1_, hG1_, hr1_⟩ := sp_22 (d := 0) (L := L) (t := t) (l := l) hC h01 hi n0 n1 (k := k) k0 k1
  rw [← hr1] at hE1_ hr1_
  rw [← hf1] at hr1_
  refine wp_cv (b := 590) (As := [.long (lI (rwE f n)), .int (iI n), .int (iI k)]) (r := []) hc rfl (by rw [cm_22]; rfl) rfl (Nat.le_of_ble_eq_true rfl) (show 590 < 621 by decide) (by rw [cm_22]; rfl) (ev_mono hE1_ (by omega)) ?_
  show mm_wp _ _ (23, [some (.ref 590), some (.long (lI (rwE f n))), none, some (.int (iI n)), some (.int (iI k)), some (.int (iI b)), some (.int (iI j)), none, none, none, none], [.int (iI r1)], MX L t s l1_) _
  refine wi_ic hc rfl ?_
  refine wi_cne hc rfl ⟨by omega, by omega⟩ ⟨by decide, by decide⟩ (fun h2_ => ?_) (fun h2_ => ?_)
  · refine wi_a1 hc rfl rfl ?_
    refine wi_glv (kz := 3) rfl hc rfl rfl (by decide) (Nat.le_of_ble_eq_true rfl) rfl (v := rwE f1 n) (hr1_ (by omega)) ?_
    refine wi_a1 hc rfl rfl ?_
    refine wi_glv (kz := 3) rfl hc rfl rfl (by decide) (Nat.le_of_ble_eq_true rfl) rfl (v := rwE f1 n) (hr1_ (by omega)) ?_
    refine wi_i1 hc rfl rfl ?_
    refine wi_i2 hc rfl rfl ?_
    refine wp_cs (As := [.long (lI (rwE f1 n)), .int (iI n), .int (iI b)]) (r := [.long (lI (rwE f1 n))]) hc rfl (by rw [cm_24]; rfl) rfl (Nat.le_of_ble_eq_true rfl) (ev_mono (sp_24 (d := 0) hi1 n0 n1 hb) (by omega)) ?_
    rw [← hj1]
    show mm_wp _ _ (43, [some (.ref 590), some (.long (lI (rwE f n))), none, some (.int (iI n)), some (.int (iI k)), some (.int (iI b)), some (.int (iI j)), none, none, none, none], [.int (iI j1), .long (lI (rwE f1 n))], MX L t s l1_) _
    refine wp_cs (As := [.long (lI (rwE f1 n)), .int (iI j1)]) (r := []) hc rfl (by rw [cm_27]; rfl) rfl (Nat.le_of_ble_eq_true rfl) (ev_mono (sp_27f (d := 0) hi1 n0 n1 (by omega) (by omega)) (by omega)) ?_
    show mm_wp _ _ (46, [some (.ref 590), some (.long (lI (rwE f n))), none, some (.int (iI n)), some (.int (iI k)), some (.int (iI b)), some (.int (iI j)), none, none, none, none], [.long (lI (rwE (woF f1 j1) (n - 1)))], MX L t s l1_) _
    refine wi_ls2 (L' := [some (.ref 590), some (.long (lI (rwE f n))), none, some (.int (iI n)), some (.int (iI k)), some (.int (iI b)), some (.int (iI j)), some (.long (lI (rwE (woF f1 j1) (n - 1)))), none, none, none]) hc rfl (Nat.le_of_ble_eq_true rfl) rfl ?_
    refine wi_a1 hc rfl rfl ?_
    refine wi_l1 hc rfl rfl ?_
    refine wi_i2 hc rfl rfl ?_
    refine wp_cs (As := [.long (lI (rwE f n)), .int (iI j)]) (r := [.ref 590]) hc rfl (by rw [cm_27]; rfl) rfl (Nat.le_of_ble_eq_true rfl) (ev_mono (sp_27f (d := 0) hi n0 n1 (by omega) (by omega)) (by omega)) ?_
    show mm_wp _ _ (55, [some (.ref 590), some (.long (lI (rwE f n))), none, some (.int (iI n)), some (.int (iI k)), some (.int (iI b)), some (.int (iI j)), some (.long (lI (rwE (woF f1 j1) (n - 1)))), none, none, none], [.long (lI (rwE (woF f j) (n - 1))), .ref 590], MX L t s l1_) _
    refine wi_i1 hc rfl rfl ?_
    refine wi_ic hc rfl ?_
    refine wi_sub hc rfl ?_
    refine wi_i2 hc rfl rfl ?_
    obtain ⟨l2_, hE2_, hG2_, hr2_⟩ := sp_22 (d := 0) (L := L) (t := t) (l := l1_) hC h01 hiw (by omega) (by omega) (k := k) k0 k1
    rw [← hr2] at hE2_ hr2_
    rw [← hf2] at hr2_
    refine wp_cv (b := 590) (As := [.long (lI (rwE (woF f j) (n - 1))), .int (iI (n - 1)), .int (iI k)]) (r := []) hc rfl (by rw [cm_22]; rfl) rfl (Nat.le_of_ble_eq_true rfl) (show 590 < 621 by decide) (by rw [cm_22]; rfl) (ev_mono hE2_ (by omega)) ?_
    show mm_wp _ _ (63, [some (.ref 590), some (.long (lI (rwE f n))), none, some (.int (iI n)), some (.int (iI k)), some (.int (iI b)), some (.int (iI j)), some (.long (lI (rwE (woF f1 j1) (n - 1)))), none, none, none], [.int (iI r2)], MX L t s l2_) _
    refine wi_ic hc rfl ?_
    refine wi_cne hc rfl ⟨by omega, by omega⟩ ⟨by decide, by decide⟩ (fun h3_ => ?_) (fun h3_ => ?_)
    · refine wi_ic hc rfl ?_
      refine wi_is2 (L' := [some (.ref 590), some (.long (lI (rwE f n))), none, some (.int (iI n)), some (.int (iI k)), some (.int (iI b)), some (.int (iI j)), some (.long (lI (rwE (woF f1 j1) (n - 1)))), none, some (.int (iI 0)), none]) hc rfl (Nat.le_of_ble_eq_true rfl) rfl ?_
      refine wi_ic hc rfl ?_
      refine wi_is2 (L' := [some (.ref 590), some (.long (lI (rwE f n))), none, some (.int (iI n)), some (.int (iI k)), some (.int (iI b)), some (.int (iI j)), some (.long (lI (rwE (woF f1 j1) (n - 1)))), none, some (.int (iI 0)), some (.int (iI 0))]) hc rfl (Nat.le_of_ble_eq_true rfl) rfl ?_
      have loop75_ : ∀ i : Int, i ≤ n → 0 ≤ i → i ≤ n - 1 → mm_wp (mm_Ev mm_ct mm_CM (d + 5)) 28 (75, [some (.ref 590), some (.long (lI (rwE f n))), none, some (.int (iI n)), some (.int (iI k)), some (.int (iI b)), some (.int (iI j)), some (.long (lI (rwE (woF f1 j1) (n - 1)))), none, some (.int (iI (dfN (woF f1 j1) f2 i.toNat))), some (.int (iI i))], [], MX L t s l2_) (fun res => ∃ l1, res = (some (.int (iI (costV c n k f b j))), MX L t s l1) ∧ (∀ c9, c9 ≠ 590 → l1 c9 = l c9)) := by
        refine up_ind ?_
        intro i hi9 ih i0 i1
        have hdr := dfN_r (woF f1 j1) f2 i.toNat
        refine wi_i2 hc rfl rfl ?_
        refine wi_ic hc rfl ?_
        refine wi_add hc rfl ?_
        refine wi_i1 hc rfl rfl ?_
        refine wi_cge hc rfl ⟨by omega, by omega⟩ ⟨by omega, by omega⟩ (fun h4_ => ?_) (fun h4_ => ?_)
        · refine wi_i2 hc rfl rfl ?_
          refine wi_ri hc rfl (by rw [cm_28]; rfl) ?_
          rw [hcost, if_neg (by omega), show (n - 1).toNat = i.toNat by omega]
          exact ⟨l2_, rfl, fun c hc9_ => (hG2_ c (by omega)).trans (hG1_ c (by omega))⟩
        · have a1 := (hiw1 i (by omega) (by omega)).1
          have a2 := (hi2 i (by omega) (by omega)).1
          refine wi_l2 hc rfl rfl ?_
          refine wi_i2 hc rfl rfl ?_
          refine wp_cs (As := [.long (lI (rwE (woF f1 j1) (n - 1))), .int (iI i)]) (r := []) hc rfl (by rw [cm_127]; rfl) rfl (Nat.le_of_ble_eq_true rfl) (ev_mono (sp_127f (d := 0) hiw1 (by omega) (by omega) (by omega) (by omega)) (by omega)) ?_
          show mm_wp _ _ (90, [some (.ref 590), some (.long (lI (rwE f n))), none, some (.int (iI n)), some (.int (iI k)), some (.int (iI b)), some (.int (iI j)), some (.long (lI (rwE (woF f1 j1) (n - 1)))), none, some (.int (iI (dfN (woF f1 j1) f2 i.toNat))), some (.int (iI i))], [.int (iI ((woF f1 j1) i))], MX L t s l2_) _
          refine wi_a1 hc rfl rfl ?_
          refine wi_glv (kz := 3) rfl hc rfl rfl (by decide) (Nat.le_of_ble_eq_true rfl) rfl (v := rwE f2 (n - 1)) (hr2_ (by omega)) ?_
          refine wi_i2 hc rfl rfl ?_
          refine wp_cs (As := [.long (lI (rwE f2 (n - 1))), .int (iI i)]) (r := [.int (iI ((woF f1 j1) i))]) hc rfl (by rw [cm_127]; rfl) rfl (Nat.le_of_ble_eq_true rfl) (ev_mono (sp_127f (d := 0) hi2 (by omega) (by omega) (by omega) (by omega)) (by omega)) ?_
          show mm_wp _ _ (99, [some (.ref 590), some (.long (lI (rwE f n))), none, some (.int (iI n)), some (.int (iI k)), some (.int (iI b)), some (.int (iI j)), some (.long (lI (rwE (woF f1 j1) (n - 1)))), none, some (.int (iI (dfN (woF f1 j1) f2 i.toNat))), some (.int (iI i))], [.int (iI (f2 i)), .int (iI ((woF f1 j1) i))], MX L t s l2_) _
          refine wi_ceq hc rfl ⟨by omega, by omega⟩ ⟨by omega, by omega⟩ (fun h5_ => ?_) (fun h5_ => ?_)
          · refine wi_inc (L' := [some (.ref 590), some (.long (lI (rwE f n))), none, some (.int (iI n)), some (.int (iI k)), some (.int (iI b)), some (.int (iI j)), some (.long (lI (rwE (woF f1 j1) (n - 1)))), none, some (.int (iI (dfN (woF f1 j1) f2 i.toNat))), some (.int (iI (i + 1)))]) hc rfl rfl rfl ?_
            refine wi_go hc rfl ?_
            have e9 : dfN (woF f1 j1) f2 i.toNat = dfN (woF f1 j1) f2 (i + 1).toNat := by rw [dfN_s i0, if_pos (by omega)]; omega
            rw [e9]
            exact ih (by omega) (by omega) (by omega)
          · refine wi_inc (L' := [some (.ref 590), some (.long (lI (rwE f n))), none, some (.int (iI n)), some (.int (iI k)), some (.int (iI b)), some (.int (iI j)), some (.long (lI (rwE (woF f1 j1) (n - 1)))), none, some (.int (iI (dfN (woF f1 j1) f2 i.toNat + 1))), some (.int (iI i))]) hc rfl rfl rfl ?_
            refine wi_inc (L' := [some (.ref 590), some (.long (lI (rwE f n))), none, some (.int (iI n)), some (.int (iI k)), some (.int (iI b)), some (.int (iI j)), some (.long (lI (rwE (woF f1 j1) (n - 1)))), none, some (.int (iI (dfN (woF f1 j1) f2 i.toNat + 1))), some (.int (iI (i + 1)))]) hc rfl rfl rfl ?_
            refine wi_go hc rfl ?_
            have e9 : dfN (woF f1 j1) f2 i.toNat + 1 = dfN (woF f1 j1) f2 (i + 1).toNat := by rw [dfN_s i0, if_neg (by omega)]
            rw [e9]
            exact ih (by omega) (by omega) (by omega)
      exact loop75_ 0 (by omega) (by omega) (by omega)
    · refine wi_ic hc rfl ?_
      refine wi_ri hc rfl (by rw [cm_28]; rfl) ?_
      rw [hcost, if_pos (by omega)]
      exact ⟨l2_, rfl, fun c hc9_ => (hG2_ c (by omega)).trans (hG1_ c (by omega))⟩
  · refine wi_ic hc rfl ?_
    refine wi_ri hc rfl (by rw [cm_28]; rfl) ?_
    rw [hcost, if_pos (by omega)]
    exact ⟨l1_, rfl, fun c hc9_ => hG1_ c (by omega)⟩
theorem sp_116 {d L t : Nat} {s l : Nat → Int → Int} {A T : Int → Int} (hJ : JC s A T) (hK : KA A T) {b : Int} (hb : rI b) : ∃ s1 l1, mm_Ev mm_ct mm_CM (d + 7) 116 [.ref 0, .int (iI b)] (MX L t s l) (some (.int (iI (theftP A T b))), MX L t s1 l1) ∧ (∀ c, c ≠ 578 ∧ c ≠ 579 ∧ c ≠ 592 → s1 c = s c) ∧ (∀ c, c ≠ 590 → l1 c = l c) ∧ JC s1 A T := by
  have hc : (mm_CM 116).2.2.2.2.2.2.2 = mm_cf cd_116 := by rw [cm_116]; rfl
  refine ev_xsl ?_
  refine ev_to (mx := 3) (by rw [cm_116]; decide) (by rw [cm_116]; rfl) (by show 2 ≤ _; decide) ?_
  show mm_wp _ _ (0, [some (.ref 0), some (.int (iI b)), none], [], MX L t s l) (fun res => ∃ s1 l1, res = (some (.int (iI (theftP A T b))), MX L t s1 l1) ∧ (∀ c, c ≠ 578 ∧ c ≠ 579 ∧ c ≠ 592 → s1 c = s c) ∧ (∀ c, c ≠ 590 → l1 c = l c) ∧ JC s1 A T)
  have hV := hK.1
  have hB := hK.2.1
  have g0 := hB.1
  have h1 := hK.2.2.1.1
  refine wi_a1 hc rfl rfl ?_
  refine wi_i1 hc rfl rfl ?_
  refine wp_cv (b := 0) (As := [.int (iI b)]) (r := []) hc rfl (by rw [cm_129]; rfl) rfl (Nat.le_of_ble_eq_true rfl) (show 0 < 621 by decide) (by rw [cm_129]; rfl) (ev_mono (sg_129 (d := 0) hJ.1 hb hK.2.1.1) (by omega)) ?_
  show mm_wp _ _ (5, [some (.ref 0), some (.int (iI b)), none], [.int (iI (bI (0 ≤ b ∧ b < A 0)))], MX L t s l) _
  refine wi_beq hc rfl (fun h1_ => ?_) (fun h1_ => ?_)
  · refine wi_ic hc rfl ?_
    refine wi_ri hc rfl (by rw [cm_116]; rfl) ?_
    have hR : theftP A T b = (-1) := by unfold theftP; rw [if_neg (by omega)]
    rw [hR]
    exact ⟨s, l, rfl, fun c _ => rfl, fun c _ => rfl, hJ⟩
  · have gw0 := (hB.2.2.2.2 b (by omega) (by omega)).1
    refine wi_a1 hc rfl rfl ?_
    refine wi_gr (w := 1) hc rfl rfl (by decide) (Nat.le_of_ble_eq_true rfl) rfl ?_
    refine wi_gr (w := 2) hc rfl rfl (by decide) (Nat.le_of_ble_eq_true rfl) rfl ?_
    refine wi_gr (w := 8) hc rfl rfl (by decide) (Nat.le_of_ble_eq_true rfl) rfl ?_
    refine wi_i1 hc rfl rfl ?_
    refine wi_ildv (N := 10) hc rfl rfl (by decide) (by decide) (by omega) (by omega) (v := A (46 + 6 * b + 5)) (lb_where hJ.1 (by omega) (by omega) (by omega)) ?_
    refine wi_ic hc rfl ?_
    refine wi_clt hc rfl ⟨by omega, by omega⟩ ⟨by decide, by decide⟩ (fun h2_ => ?_) (fun h2_ => ?_)
    · refine wi_a1 hc rfl rfl ?_
      refine wi_gr (w := 1) hc rfl rfl (by decide) (Nat.le_of_ble_eq_true rfl) rfl ?_
      refine wi_gr (w := 2) hc rfl rfl (by decide) (Nat.le_of_ble_eq_true rfl) rfl ?_
      refine wi_gr (w := 8) hc rfl rfl (by decide) (Nat.le_of_ble_eq_true rfl) rfl ?_
      refine wi_i1 hc rfl rfl ?_
      refine wi_ildv (N := 10) hc rfl rfl (by decide) (by decide) (by omega) (by omega) (v := A (46 + 6 * b + 5)) (lb_where hJ.1 (by omega) (by omega) (by omega)) ?_
      obtain ⟨x, hx⟩ : ∃ x9, x9 = A (46 + 6 * b + 5) := ⟨_, rfl⟩
      rw [← hx]
      have gw := (hB.2.2.2.2 b (by omega) (by omega)).1
      have gm := hB.2.1 x (by omega) (by omega)
      refine wi_is1 (L' := [some (.ref 0), some (.int (iI b)), some (.int (iI x))]) hc rfl (Nat.le_of_ble_eq_true rfl) rfl ?_
      refine wi_a1 hc rfl rfl ?_
      refine wi_i1 hc rfl rfl ?_
      obtain ⟨s1_, hE1_, hF1_, hJ1_, hC1_⟩ := sp_141 (d := 0) (L := L) (t := t) (l := l) hJ hK (x := x) (by omega) (by omega)
      refine wp_cv (b := 0) (As := [.int (iI x)]) (r := []) hc rfl (by rw [cm_141]; rfl) rfl (Nat.le_of_ble_eq_true rfl) (show 0 < 621 by decide) (by rw [cm_141]; rfl) (ev_mono hE1_ (by omega)) ?_
      show mm_wp _ _ (44, [some (.ref 0), some (.int (iI b)), some (.int (iI x))], [], MX L t s1_ l) _
      refine wi_a1 hc rfl rfl ?_
      refine wi_gr (w := 590) hc rfl rfl (by decide) (Nat.le_of_ble_eq_true rfl) rfl ?_
      refine wi_a1 hc rfl rfl ?_
      refine wi_gr (w := 1) hc rfl rfl (by decide) (Nat.le_of_ble_eq_true rfl) rfl ?_
      refine wi_gr (w := 2) hc rfl rfl (by decide) (Nat.le_of_ble_eq_true rfl) rfl ?_
      refine wi_i1 hc rfl rfl ?_
      refine wp_cv (b := 2) (As := [.int (iI x)]) (r := [.ref 590]) hc rfl (by rw [cm_76]; rfl) rfl (Nat.le_of_ble_eq_true rfl) (show 2 < 621 by decide) (by rw [cm_76]; rfl) (ev_mono (sp_76 (d := 0) hJ1_ hK (x := x) (by omega) (by omega)) (by omega)) ?_
      show mm_wp _ _ (59, [some (.ref 0), some (.int (iI b)), some (.int (iI x))], [.long (lI (rwE (shF A x) (A (13 + x)))), .ref 590], MX L t s1_ l) _
      refine wi_a1 hc rfl rfl ?_
      refine wi_gr (w := 1) hc rfl rfl (by decide) (Nat.le_of_ble_eq_true rfl) rfl ?_
      refine wi_gr (w := 2) hc rfl rfl (by decide) (Nat.le_of_ble_eq_true rfl) rfl ?_
      refine wi_gr (w := 7) hc rfl rfl (by decide) (Nat.le_of_ble_eq_true rfl) rfl ?_
      refine wi_i1 hc rfl rfl ?_
      refine wi_ildv (N := 3) hc rfl rfl (by decide) (by decide) (by omega) (by omega) (v := A (13 + x)) (lb_many hJ1_.1 (by omega) (by omega)) ?_
      refine wi_a1 hc rfl rfl ?_
      refine wi_gr (w := 1) hc rfl rfl (by decide) (Nat.le_of_ble_eq_true rfl) rfl ?_
      refine wi_gr (w := 2) hc rfl rfl (by decide) (Nat.le_of_ble_eq_true rfl) rfl ?_
      refine wi_gfv (kz := 6) rfl hc rfl rfl (by decide) (Nat.le_of_ble_eq_true rfl) rfl (v := A 1) (lb_night hJ1_.1) ?_
      refine wi_i1 hc rfl rfl ?_
      have hat := shF_at hB (b := b) (by omega) (by omega) (by omega)
      rw [← hx] at hat
      obtain ⟨l2_, hE2_, hG2_⟩ := sp_28 (d := 0) (L := L) (t := t) (l := l) (f := shF A x) hC1_ (cF_01 A T) (inS_shelf hB (x := x) (by omega) (by omega) : inS _ (shF A x) _) (by omega) (by omega) (k := A 1) (b := b) (rI_of (by omega) (by omega)) (rI_of (by omega) (by omega)) (shF_inj hB (by omega) (by omega)) hat (rI_of (by omega) (by omega)) rfl
      have hth : theftV A T b = costV (cF A T) (A (13 + x)) (A 1) (shF A x) b (psF (shF A x) (A (13 + x)) b) := by unfold theftV; rw [← hx]
      rw [← hth] at hE2_
      have htr : -1 ≤ theftV A T b ∧ theftV A T b ≤ 9 := by rw [hth]; exact costV_r (by omega)
      refine wp_cv (b := 590) (As := [.long (lI (rwE (shF A x) (A (13 + x)))), .int (iI (A (13 + x))), .int (iI (A 1)), .int (iI b)]) (r := []) hc rfl (by rw [cm_28]; rfl) rfl (Nat.le_of_ble_eq_true rfl) (show 590 < 621 by decide) (by rw [cm_28]; rfl) (ev_mono hE2_ (by omega)) ?_
      show mm_wp _ _ (85, [some (.ref 0), some (.int (iI b)), some (.int (iI x))], [.int (iI (theftV A T b))], MX L t s1_ l2_) _
      refine wi_ri hc rfl (by rw [cm_116]; rfl) ?_
      have hR : theftP A T b = theftV A T b := by unfold theftP; rw [if_pos (by omega)]
      rw [hR]
      exact ⟨s1_, l2_, rfl, fun c hc9_ => hF1_ c (by omega), fun c hc9_ => hG2_ c (by omega), hJ1_⟩
    · refine wi_ic hc rfl ?_
      refine wi_ri hc rfl (by rw [cm_116]; rfl) ?_
      have hR : theftP A T b = (-1) := by unfold theftP; rw [if_neg (by omega)]
      rw [hR]
      exact ⟨s, l, rfl, fun c _ => rfl, fun c _ => rfl, hJ⟩
theorem chpN_r (A T : Int → Int) (x : Int) : ∀ m : Nat, ((chpN A T x m).1 = -1 ∧ (chpN A T x m).2 = 10) ∨ ((0 ≤ (chpN A T x m).1 ∧ (chpN A T x m).1 < m) ∧ 0 ≤ (chpN A T x m).2 ∧ (chpN A T x m).2 ≤ 9)
  | 0 => Or.inl ⟨rfl, rfl⟩
  | m + 1 => by
    have ih := chpN_r A T x m
    unfold chpN
    split
    · rename_i g
      right
      exact ⟨⟨by show (0 : Int) ≤ m; omega, by show (m : Int) < (m + 1 : Nat); omega⟩, g.2.1, by show theftV A T m ≤ 9; omega⟩
    · rcases ih with h | h
      · exact Or.inl h
      · exact Or.inr ⟨⟨h.1.1, by omega⟩, h.2⟩
theorem chpN_y {A T : Int → Int} {x i : Int} (i0 : 0 ≤ i) (h : A (46 + 6 * i + 5) = x ∧ 0 ≤ theftV A T i ∧ theftV A T i < (chpN A T x i.toNat).2) : chpN A T x (i + 1).toNat = (i, theftV A T i) := by
  rw [show (i + 1).toNat = i.toNat + 1 by omega, chpN, show ((i.toNat : Nat) : Int) = i by omega, if_pos h]
theorem chpN_n {A T : Int → Int} {x i : Int} (i0 : 0 ≤ i) (h : ¬ (A (46 + 6 * i + 5) = x ∧ 0 ≤ theftV A T i ∧ theftV A T i < (chpN A T x i.toNat).2)) : chpN A T x (i + 1).toNat = chpN A T x i.toNat := by
  rw [show (i + 1).toNat = i.toNat + 1 by omega, chpN, show ((i.toNat : Nat) : Int) = i by omega, if_neg h]
theorem chpN_no {A T : Int → Int} {x : Int} (h : rsF (cF A T) (A (13 + x)) (A 1) (shF A x) 501 0 = -1) : ∀ m : Nat, (chpN A T x m).1 = -1
  | 0 => rfl
  | m + 1 => by
    unfold chpN
    split
    · rename_i g
      exfalso
      have e : theftV A T m = -1 := by
        unfold theftV costV
        rw [g.1, if_pos (Or.inl h)]
      omega
    · exact chpN_no h m
theorem sp_117 {d L t : Nat} {s l : Nat → Int → Int} {A T : Int → Int} (hJ : JC s A T) (hK : KA A T) {x : Int} (hx : rI x) : ∃ s1 l1, mm_Ev mm_ct mm_CM (d + 7) 117 [.ref 0, .int (iI x)] (MX L t s l) (some (.int (iI (chpP A T x))), MX L t s1 l1) ∧ (∀ c, c ≠ 578 ∧ c ≠ 579 ∧ c ≠ 592 → s1 c = s c) ∧ (∀ c, c ≠ 590 → l1 c = l c) ∧ JC s1 A T := by
  have hc : (mm_CM 117).2.2.2.2.2.2.2 = mm_cf cd_117 := by rw [cm_117]; rfl
  refine ev_xsl ?_
  refine ev_to (mx := 8) (by rw [cm_117]; decide) (by rw [cm_117]; rfl) (by show 2 ≤ _; decide) ?_
  show mm_wp _ _ (0, [some (.ref 0), some (.int (iI x)), none, none, none, none, none, none], [], MX L t s l) (fun res => ∃ s1 l1, res = (some (.int (iI (chpP A T x))), MX L t s1 l1) ∧ (∀ c, c ≠ 578 ∧ c ≠ 579 ∧ c ≠ 592 → s1 c = s c) ∧ (∀ c, c ≠ 590 → l1 c = l c) ∧ JC s1 A T)
  have hV := hK.1
  have hB := hK.2.1
  have g0 := hB.1
  have h1 := hK.2.2.1.1
  refine wi_i1 hc rfl rfl ?_
  refine wp_cs (As := [.int (iI x)]) (r := []) hc rfl (by rw [cm_125]; rfl) rfl (Nat.le_of_ble_eq_true rfl) (ev_mono (sp_125 (d := 0) hx) (by omega)) ?_
  show mm_wp _ _ (4, [some (.ref 0), some (.int (iI x)), none, none, none, none, none, none], [.int (iI (bI (0 ≤ x ∧ x ≤ 2)))], MX L t s l) _
  refine wi_bne hc rfl (fun h1_ => ?_) (fun h1_ => ?_)
  · have gm := hB.2.1 x (by omega) (by omega)
    refine wi_a1 hc rfl rfl ?_
    refine wi_i1 hc rfl rfl ?_
    obtain ⟨s1_, hE1_, hF1_, hJ1_, hC1_⟩ := sp_141 (d := 0) (L := L) (t := t) (l := l) hJ hK (x := x) (by omega) (by omega)
    refine wp_cv (b := 0) (As := [.int (iI x)]) (r := []) hc rfl (by rw [cm_141]; rfl) rfl (Nat.le_of_ble_eq_true rfl) (show 0 < 621 by decide) (by rw [cm_141]; rfl) (ev_mono hE1_ (by omega)) ?_
    show mm_wp _ _ (14, [some (.ref 0), some (.int (iI x)), none, none, none, none, none, none], [], MX L t s1_ l) _
    refine wi_a1 hc rfl rfl ?_
    refine wi_gr (w := 1) hc rfl rfl (by decide) (Nat.le_of_ble_eq_true rfl) rfl ?_
    refine wi_gr (w := 2) hc rfl rfl (by decide) (Nat.le_of_ble_eq_true rfl) rfl ?_
    refine wi_i1 hc rfl rfl ?_
    refine wp_cv (b := 2) (As := [.int (iI x)]) (r := []) hc rfl (by rw [cm_76]; rfl) rfl (Nat.le_of_ble_eq_true rfl) (show 2 < 621 by decide) (by rw [cm_76]; rfl) (ev_mono (sp_76 (d := 0) hJ1_ hK (x := x) (by omega) (by omega)) (by omega)) ?_
    show mm_wp _ _ (25, [some (.ref 0), some (.int (iI x)), none, none, none, none, none, none], [.long (lI (rwE (shF A x) (A (13 + x))))], MX L t s1_ l) _
    refine wi_ls1 (L' := [some (.ref 0), some (.int (iI x)), some (.long (lI (rwE (shF A x) (A (13 + x))))), none, none, none, none, none]) hc rfl (Nat.le_of_ble_eq_true rfl) rfl ?_
    refine wi_a1 hc rfl rfl ?_
    refine wi_gr (w := 590) hc rfl rfl (by decide) (Nat.le_of_ble_eq_true rfl) rfl ?_
    refine wi_l1 hc rfl rfl ?_
    refine wi_a1 hc rfl rfl ?_
    refine wi_gr (w := 1) hc rfl rfl (by decide) (Nat.le_of_ble_eq_true rfl) rfl ?_
    refine wi_gr (w := 2) hc rfl rfl (by decide) (Nat.le_of_ble_eq_true rfl) rfl ?_
    refine wi_gr (w := 7) hc rfl rfl (by decide) (Nat.le_of_ble_eq_true rfl) rfl ?_
    refine wi_i1 hc rfl rfl ?_
    refine wi_ildv (N := 3) hc rfl rfl (by decide) (by decide) (by omega) (by omega) (v := A (13 + x)) (lb_many hJ1_.1 (by omega) (by omega)) ?_
    refine wi_a1 hc rfl rfl ?_
    refine wi_gr (w := 1) hc rfl rfl (by decide) (Nat.le_of_ble_eq_true rfl) rfl ?_
    refine wi_gr (w := 2) hc rfl rfl (by decide) (Nat.le_of_ble_eq_true rfl) rfl ?_
    refine wi_gfv (kz := 6) rfl hc rfl rfl (by decide) (Nat.le_of_ble_eq_true rfl) rfl (v := A 1) (lb_night hJ1_.1) ?_
    obtain ⟨l2_, hE2_, hG2_, hr2_⟩ := sp_22 (d := 0) (L := L) (t := t) (l := l) hC1_ (cF_01 A T) (inS_shelf hB (x := x) (by omega) (by omega) : inS _ (shF A x) _) (by omega) (by omega) (k := A 1) (rI_of (by omega) (by omega)) (rI_of (by omega) (by omega))
    refine wp_cv (b := 590) (As := [.long (lI (rwE (shF A x) (A (13 + x)))), .int (iI (A (13 + x))), .int (iI (A 1))]) (r := []) hc rfl (by rw [cm_22]; rfl) rfl (Nat.le_of_ble_eq_true rfl) (show 590 < 621 by decide) (by rw [cm_22]; rfl) (ev_mono hE2_ (by omega)) ?_
    have hrr := rsF_r (cF A T) (A (13 + x)) (A 1) (shF A x) 501 0
    show mm_wp _ _ (56, [some (.ref 0), some (.int (iI x)), some (.long (lI (rwE (shF A x) (A (13 + x))))), none, none, none, none, none], [.int (iI (rsF (cF A T) (A (13 + x)) (A 1) (shF A x) 501 0))], MX L t s1_ l2_) _
    refine wi_ic hc rfl ?_
    refine wi_cne hc rfl ⟨by omega, by omega⟩ ⟨by decide, by decide⟩ (fun h2_ => ?_) (fun h2_ => ?_)
    · refine wi_ic hc rfl ?_
      refine wi_is2 (L' := [some (.ref 0), some (.int (iI x)), some (.long (lI (rwE (shF A x) (A (13 + x))))), none, some (.int (iI (-1))), none, none, none]) hc rfl (Nat.le_of_ble_eq_true rfl) rfl ?_
      refine wi_bi hc rfl rfl ?_
      refine wi_is2 (L' := [some (.ref 0), some (.int (iI x)), some (.long (lI (rwE (shF A x) (A (13 + x))))), none, some (.int (iI (-1))), some (.int (iI 10)), none, none]) hc rfl (Nat.le_of_ble_eq_true rfl) rfl ?_
      refine wi_ic hc rfl ?_
      refine wi_is2 (L' := [some (.ref 0), some (.int (iI x)), some (.long (lI (rwE (shF A x) (A (13 + x))))), none, some (.int (iI (-1))), some (.int (iI 10)), some (.int (iI 0)), none]) hc rfl (Nat.le_of_ble_eq_true rfl) rfl ?_
      have loop72_ : ∀ i : Int, i ≤ A 0 → 0 ≤ i → ∀ (o7 : Option Value) (l2 : Nat → Int → Int), (∀ c, c ≠ 590 → l2 c = l2_ c) → mm_wp (mm_Ev mm_ct mm_CM (d + 6)) 117 (72, [some (.ref 0), some (.int (iI x)), some (.long (lI (rwE (shF A x) (A (13 + x))))), none, some (.int (iI ((chpN A T x i.toNat).1))), some (.int (iI ((chpN A T x i.toNat).2))), some (.int (iI i)), o7], [], MX L t s1_ l2) (fun res => ∃ s1 l1, res = (some (.int (iI (chpP A T x))), MX L t s1 l1) ∧ (∀ c, c ≠ 578 ∧ c ≠ 579 ∧ c ≠ 592 → s1 c = s c) ∧ (∀ c, c ≠ 590 → l1 c = l c) ∧ JC s1 A T) := by
        refine up_ind ?_
        intro i hi9 ih i0 o7 l2 hG2
        have hch := chpN_r A T x i.toNat
        refine wi_i2 hc rfl rfl ?_
        refine wi_a1 hc rfl rfl ?_
        refine wi_gr (w := 1) hc rfl rfl (by decide) (Nat.le_of_ble_eq_true rfl) rfl ?_
        refine wi_gfv (kz := 8) rfl hc rfl rfl (by decide) (Nat.le_of_ble_eq_true rfl) rfl (v := A 0) (lb_books hJ1_.1) ?_
        refine wi_cge hc rfl ⟨by omega, by omega⟩ ⟨by omega, by omega⟩ (fun h3_ => ?_) (fun h3_ => ?_)
        · refine wi_i2 hc rfl rfl ?_
          refine wi_ri hc rfl (by rw [cm_117]; rfl) ?_
          have ei : i = A 0 := by omega
          have hR : chpP A T x = (chpN A T x i.toNat).1 := by unfold chpP; rw [if_pos (by omega), ei]
          rw [hR]
          exact ⟨s1_, l2, rfl, fun c hc9_ => hF1_ c (by omega), fun c hc9_ => (hG2 c (by omega)).trans (hG2_ c (by omega)), hJ1_⟩
        · refine wi_a1 hc rfl rfl ?_
          refine wi_gr (w := 1) hc rfl rfl (by decide) (Nat.le_of_ble_eq_true rfl) rfl ?_
          refine wi_gr (w := 2) hc rfl rfl (by decide) (Nat.le_of_ble_eq_true rfl) rfl ?_
          have gw := (hB.2.2.2.2 i i0 (by omega)).1
          refine wi_gr (w := 8) hc rfl rfl (by decide) (Nat.le_of_ble_eq_true rfl) rfl ?_
          refine wi_i2 hc rfl rfl ?_
          refine wi_ildv (N := 10) hc rfl rfl (by decide) (by decide) (by omega) (by omega) (v := A (46 + 6 * i + 5)) (lb_where hJ1_.1 (by omega) (by omega) (by omega)) ?_
          refine wi_i1 hc rfl rfl ?_
          refine wi_cne hc rfl ⟨by omega, by omega⟩ hx (fun h4_ => ?_) (fun h4_ => ?_)
          · refine wi_inc (L' := [some (.ref 0), some (.int (iI x)), some (.long (lI (rwE (shF A x) (A (13 + x))))), none, some (.int (iI ((chpN A T x i.toNat).1))), some (.int (iI ((chpN A T x i.toNat).2))), some (.int (iI (i + 1))), o7]) hc rfl rfl rfl ?_
            refine wi_go hc rfl ?_
            have e8 := chpN_n i0 (A := A) (T := T) (x := x) (by omega)
            have q9 := ih (by omega) (by omega) (o7) l2 (fun c hc9_ => hG2 c (by omega))
            rw [e8] at q9
            exact q9
          · refine wi_a1 hc rfl rfl ?_
            refine wi_gr (w := 590) hc rfl rfl (by decide) (Nat.le_of_ble_eq_true rfl) rfl ?_
            refine wi_l1 hc rfl rfl ?_
            refine wi_a1 hc rfl rfl ?_
            refine wi_gr (w := 1) hc rfl rfl (by decide) (Nat.le_of_ble_eq_true rfl) rfl ?_
            refine wi_gr (w := 2) hc rfl rfl (by decide) (Nat.le_of_ble_eq_true rfl) rfl ?_
            refine wi_gr (w := 7) hc rfl rfl (by decide) (Nat.le_of_ble_eq_true rfl) rfl ?_
            refine wi_i1 hc rfl rfl ?_
            refine wi_ildv (N := 3) hc rfl rfl (by decide) (by decide) (by omega) (by omega) (v := A (13 + x)) (lb_many hJ1_.1 (by omega) (by omega)) ?_
            refine wi_a1 hc rfl rfl ?_
            refine wi_gr (w := 1) hc rfl rfl (by decide) (Nat.le_of_ble_eq_true rfl) rfl ?_
            refine wi_gr (w := 2) hc rfl rfl (by decide) (Nat.le_of_ble_eq_true rfl) rfl ?_
            refine wi_gfv (kz := 6) rfl hc rfl rfl (by decide) (Nat.le_of_ble_eq_true rfl) rfl (v := A 1) (lb_night hJ1_.1) ?_
            refine wi_i2 hc rfl rfl ?_
            have hat := shF_at hB (b := i) (by omega) (by omega) (by omega)
            rw [show A (46 + 6 * i + 5) = x by omega] at hat
            obtain ⟨l3_, hE3_, hG3_⟩ := sp_28 (d := 0) (L := L) (t := t) (l := l2) (f := shF A x) hC1_ (cF_01 A T) (inS_shelf hB (x := x) (by omega) (by omega) : inS _ (shF A x) _) (by omega) (by omega) (k := A 1) (b := i) (rI_of (by omega) (by omega)) (rI_of (by omega) (by omega)) (shF_inj hB (by omega) (by omega)) hat (rI_of (by omega) (by omega)) rfl
            have hth : theftV A T i = costV (cF A T) (A (13 + x)) (A 1) (shF A x) i (psF (shF A x) (A (13 + x)) i) := by unfold theftV; rw [show A (46 + 6 * i + 5) = x by omega]
            rw [← hth] at hE3_
            have htr : -1 ≤ theftV A T i ∧ theftV A T i ≤ 9 := by rw [hth]; exact costV_r (by omega)
            refine wp_cv (b := 590) (As := [.long (lI (rwE (shF A x) (A (13 + x)))), .int (iI (A (13 + x))), .int (iI (A 1)), .int (iI i)]) (r := []) hc rfl (by rw [cm_28]; rfl) rfl (Nat.le_of_ble_eq_true rfl) (show 590 < 621 by decide) (by rw [cm_28]; rfl) (ev_mono hE3_ (by omega)) ?_
            show mm_wp _ _ (133, [some (.ref 0), some (.int (iI x)), some (.long (lI (rwE (shF A x) (A (13 + x))))), none, some (.int (iI ((chpN A T x i.toNat).1))), some (.int (iI ((chpN A T x i.toNat).2))), some (.int (iI i)), o7], [.int (iI (theftV A T i))], MX L t s1_ l3_) _
            refine wi_is2 (L' := [some (.ref 0), some (.int (iI x)), some (.long (lI (rwE (shF A x) (A (13 + x))))), none, some (.int (iI ((chpN A T x i.toNat).1))), some (.int (iI ((chpN A T x i.toNat).2))), some (.int (iI i)), some (.int (iI (theftV A T i)))]) hc rfl (Nat.le_of_ble_eq_true rfl) rfl ?_
            refine wi_i2 hc rfl rfl ?_
            refine wi_ic hc rfl ?_
            refine wi_ceq hc rfl ⟨by omega, by omega⟩ ⟨by decide, by decide⟩ (fun h5_ => ?_) (fun h5_ => ?_)
            · refine wi_inc (L' := [some (.ref 0), some (.int (iI x)), some (.long (lI (rwE (shF A x) (A (13 + x))))), none, some (.int (iI ((chpN A T x i.toNat).1))), some (.int (iI ((chpN A T x i.toNat).2))), some (.int (iI (i + 1))), some (.int (iI (theftV A T i)))]) hc rfl rfl rfl ?_
              refine wi_go hc rfl ?_
              have e8 := chpN_n i0 (A := A) (T := T) (x := x) (by omega)
              have q9 := ih (by omega) (by omega) (some (.int (iI (theftV A T i)))) l3_ (fun c hc9_ => (hG3_ c (by omega)).trans (hG2 c (by omega)))
              rw [e8] at q9
              exact q9
            · refine wi_i2 hc rfl rfl ?_
              refine wi_i2 hc rfl rfl ?_
              refine wi_cge hc rfl ⟨by omega, by omega⟩ ⟨by omega, by omega⟩ (fun h6_ => ?_) (fun h6_ => ?_)
              · refine wi_inc (L' := [some (.ref 0), some (.int (iI x)), some (.long (lI (rwE (shF A x) (A (13 + x))))), none, some (.int (iI ((chpN A T x i.toNat).1))), some (.int (iI ((chpN A T x i.toNat).2))), some (.int (iI (i + 1))), some (.int (iI (theftV A T i)))]) hc rfl rfl rfl ?_
                refine wi_go hc rfl ?_
                have e8 := chpN_n i0 (A := A) (T := T) (x := x) (by omega)
                have q9 := ih (by omega) (by omega) (some (.int (iI (theftV A T i)))) l3_ (fun c hc9_ => (hG3_ c (by omega)).trans (hG2 c (by omega)))
                rw [e8] at q9
                exact q9
              · refine wi_i2 hc rfl rfl ?_
                refine wi_is2 (L' := [some (.ref 0), some (.int (iI x)), some (.long (lI (rwE (shF A x) (A (13 + x))))), none, some (.int (iI i)), some (.int (iI ((chpN A T x i.toNat).2))), some (.int (iI i)), some (.int (iI (theftV A T i)))]) hc rfl (Nat.le_of_ble_eq_true rfl) rfl ?_
                refine wi_i2 hc rfl rfl ?_
                refine wi_is2 (L' := [some (.ref 0), some (.int (iI x)), some (.long (lI (rwE (shF A x) (A (13 + x))))), none, some (.int (iI i)), some (.int (iI (theftV A T i))), some (.int (iI i)), some (.int (iI (theftV A T i)))]) hc rfl (Nat.le_of_ble_eq_true rfl) rfl ?_
                refine wi_inc (L' := [some (.ref 0), some (.int (iI x)), some (.long (lI (rwE (shF A x) (A (13 + x))))), none, some (.int (iI i)), some (.int (iI (theftV A T i))), some (.int (iI (i + 1))), some (.int (iI (theftV A T i)))]) hc rfl rfl rfl ?_
                refine wi_go hc rfl ?_
                have e8 := chpN_y i0 (A := A) (T := T) (x := x) ⟨by omega, by omega, by omega⟩
                have e9 : i = (chpN A T x (i + 1).toNat).1 := by rw [e8]
                have e10 : theftV A T i = (chpN A T x (i + 1).toNat).2 := by rw [e8]
                have q9 := ih (by omega) (by omega) (some (.int (iI (theftV A T i)))) l3_ (fun c hc9_ => (hG3_ c (by omega)).trans (hG2 c (by omega)))
                rw [← e9, ← e10] at q9
                exact q9
      exact loop72_ 0 (by omega) (by omega) _ l2_ (fun c _ => rfl)
    · refine wi_ic hc rfl ?_
      refine wi_ri hc rfl (by rw [cm_117]; rfl) ?_
      have hR : chpP A T x = -1 := by unfold chpP; rw [if_pos (by omega)]; exact chpN_no (by omega) _
      rw [hR]
      exact ⟨s1_, l2_, rfl, fun c hc9_ => hF1_ c (by omega), fun c hc9_ => hG2_ c (by omega), hJ1_⟩
  · refine wi_ic hc rfl ?_
    refine wi_ri hc rfl (by rw [cm_117]; rfl) ?_
    have hR : chpP A T x = -1 := by unfold chpP; rw [if_neg (by omega)]
    rw [hR]
    exact ⟨s, l, rfl, fun c _ => rfl, fun c _ => rfl, hJ⟩
