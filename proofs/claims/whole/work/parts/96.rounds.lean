/-! ROUND on both sides. -/
theorem sp_23 {d L t : Nat} {s l : Nat → Int → Int} {c : Int → Int → Int} {f : Int → Int} {n set : Int} (hC : CHc s c set) (h01 : ∀ x y, c x y = 0 ∨ c x y = 1) (hi : inS set f n) (n0 : 0 ≤ n) (n1 : n ≤ 10) {k len : Int} (k0 : rI k) (k1 : rI (k + 501)) (hl : len = 0 ∨ len = 1) : ∃ l1, mm_Ev mm_ct mm_CM (d + 6) 23 [.ref 590, .long (lI (rwE f n)), .int (iI n), .int (iI k), .int (iI len)] (MX L t s l) (some (.int (iI (rdW c n k f len))), MX L t s l1) ∧ (∀ c, c ≠ 590 ∧ c ≠ 593 → l1 c = l c) := by
  have hc : (mm_CM 23).2.2.2.2.2.2.2 = mm_cf cd_23 := by rw [cm_23]; rfl
  refine ev_xl ?_
  refine ev_to (mx := 10) (by rw [cm_23]; decide) (by rw [cm_23]; rfl) (by show 6 ≤ _; decide) ?_
  show mm_wp _ _ (0, [some (.ref 590), some (.long (lI (rwE f n))), none, some (.int (iI n)), some (.int (iI k)), some (.int (iI len)), none, none, none, none], [], MX L t s l) (fun res => ∃ l1, res = (some (.int (iI (rdW c n k f len))), MX L t s l1) ∧ (∀ c, c ≠ 590 ∧ c ≠ 593 → l1 c = l c))
  have hre := (rwE_ok n0 n1 hi.r16).1
  have pvr : ∀ u, 0 ≤ pastV c n k f u ∧ pastV c n k f u < 4398046511104 := fun u => by obtain ⟨a, b⟩ := pastV_v (c := c) (k := k) (t := u) hi n0 n1; omega
  refine wi_a1 hc rfl rfl ?_
  refine wi_l1 hc rfl rfl ?_
  refine wi_i1 hc rfl rfl ?_
  refine wi_i2 hc rfl rfl ?_
  obtain ⟨l1_, hE1_, hG1_, hr1_⟩ := sp_22 (d := 0) (L := L) (t := t) (l := l) hC h01 hi n0 n1 (k := k) k0 k1
  refine wp_cv (b := 590) (As := [.long (lI (rwE f n)), .int (iI n), .int (iI k)]) (r := []) hc rfl (by rw [cm_22]; rfl) rfl (Nat.le_of_ble_eq_true rfl) (show 590 < 621 by decide) (by rw [cm_22]; rfl) (ev_mono hE1_ (by omega)) ?_
  have hrr := rsF_r c n k f 501 0
  show mm_wp _ _ (8, [some (.ref 590), some (.long (lI (rwE f n))), none, some (.int (iI n)), some (.int (iI k)), some (.int (iI len)), none, none, none, none], [.int (iI (rsF c n k f 501 0))], MX L t s l1_) _
  refine wi_ic hc rfl ?_
  refine wi_ceq hc rfl ⟨by omega, by omega⟩ ⟨by decide, by decide⟩ (fun h1_ => ?_) (fun h1_ => ?_)
  · refine wi_l1 hc rfl rfl ?_
    refine wi_ls2 (L' := [some (.ref 590), some (.long (lI (rwE f n))), none, some (.int (iI n)), some (.int (iI k)), some (.int (iI len)), some (.long (lI (rwE f n))), none, none, none]) hc rfl (Nat.le_of_ble_eq_true rfl) rfl ?_
    refine wi_ic hc rfl ?_
    refine wi_is2 (L' := [some (.ref 590), some (.long (lI (rwE f n))), none, some (.int (iI n)), some (.int (iI k)), some (.int (iI len)), some (.long (lI (rwE f n))), none, some (.int (iI 0)), none]) hc rfl (Nat.le_of_ble_eq_true rfl) rfl ?_
    have loop20_ : ∀ i : Int, i ≤ 501 → 0 ≤ i → ∀ l2 : Nat → Int → Int, (∀ c, c ≠ 590 ∧ c ≠ 593 → l2 c = l c) → (∀ u, 0 ≤ u → u < i → l2 593 u = pastV c n k f u) → mm_wp (mm_Ev mm_ct mm_CM (d + 5)) 23 (20, [some (.ref 590), some (.long (lI (rwE f n))), none, some (.int (iI n)), some (.int (iI k)), some (.int (iI len)), some (.long (lI (rwE (stF c n k f i.toNat) n))), none, some (.int (iI i)), none], [], MX L t s l2) (fun res => ∃ l1, res = (some (.int (iI (rdW c n k f len))), MX L t s l1) ∧ (∀ c, c ≠ 590 ∧ c ≠ 593 → l1 c = l c)) := by
      refine up_ind ?_
      intro i hi9 ih i0 l2 hG2 hT2
      refine wi_i2 hc rfl rfl ?_
      refine wi_si hc rfl rfl ?_
      refine wi_cgt hc rfl ⟨by omega, by omega⟩ ⟨by decide, by decide⟩ (fun h2_ => ?_) (fun h2_ => ?_)
      · refine wi_si hc rfl rfl ?_
        refine wi_is2 (L' := [some (.ref 590), some (.long (lI (rwE f n))), none, some (.int (iI n)), some (.int (iI k)), some (.int (iI len)), some (.long (lI (rwE (stF c n k f i.toNat) n))), none, some (.int (iI 499)), none]) hc rfl (Nat.le_of_ble_eq_true rfl) rfl ?_
        have loop73_ : ∀ j : Int, -1 ≤ j → j ≤ 499 → (∀ b, j < b → b < 500 → pastV c n k f b ≠ pastV c n k f 500) → mm_wp (mm_Ev mm_ct mm_CM (d + 5)) 23 (73, [some (.ref 590), some (.long (lI (rwE f n))), none, some (.int (iI n)), some (.int (iI k)), some (.int (iI len)), some (.long (lI (rwE (stF c n k f i.toNat) n))), none, some (.int (iI j)), none], [], MX L t s l2) (fun res => ∃ l1, res = (some (.int (iI (rdW c n k f len))), MX L t s l1) ∧ (∀ c, c ≠ 590 ∧ c ≠ 593 → l1 c = l c)) := by
          refine dn_ind' ?_
          intro j hj0 ihj hj1 hj2
          have pj := pvr j
          have p5 := pvr 500
          refine wi_i2 hc rfl rfl ?_
          have join103_ : (j = -1 ∨ pastV c n k f j = pastV c n k f 500) → mm_wp (mm_Ev mm_ct mm_CM (d + 5)) 23 (103, [some (.ref 590), some (.long (lI (rwE f n))), none, some (.int (iI n)), some (.int (iI k)), some (.int (iI len)), some (.long (lI (rwE (stF c n k f i.toNat) n))), none, some (.int (iI j)), none], [], MX L t s l2) (fun res => ∃ l1, res = (some (.int (iI (rdW c n k f len))), MX L t s l1) ∧ (∀ c, c ≠ 590 ∧ c ≠ 593 → l1 c = l c)) := by
            intro hj9
            refine wi_i2 hc rfl rfl ?_
            refine wi_zge hc rfl ⟨by omega, by omega⟩ (fun h3_ => ?_) (fun h3_ => ?_)
            · refine wi_ic hc rfl ?_
              refine wi_is2 (L' := [some (.ref 590), some (.long (lI (rwE f n))), none, some (.int (iI n)), some (.int (iI k)), some (.int (iI len)), some (.long (lI (rwE (stF c n k f i.toNat) n))), none, some (.int (iI j)), some (.int (iI 0))]) hc rfl (Nat.le_of_ble_eq_true rfl) rfl ?_
              have loop113_ : ∀ g : Int, g ≤ j → 0 ≤ g → (∀ a, 0 ≤ a → a < g → pastV c n k f a ≠ pastV c n k f (a + 500 - j)) → mm_wp (mm_Ev mm_ct mm_CM (d + 5)) 23 (113, [some (.ref 590), some (.long (lI (rwE f n))), none, some (.int (iI n)), some (.int (iI k)), some (.int (iI len)), some (.long (lI (rwE (stF c n k f i.toNat) n))), none, some (.int (iI j)), some (.int (iI g))], [], MX L t s l2) (fun res => ∃ l1, res = (some (.int (iI (rdW c n k f len))), MX L t s l1) ∧ (∀ c, c ≠ 590 ∧ c ≠ 593 → l1 c = l c)) := by
                refine up_ind ?_
                intro g hg9 ihg g0 hg2
                have pg := pvr g
                have pg5 := pvr (g + 500 - j)
                refine wi_i2 hc rfl rfl ?_
                have join151_ : (pastV c n k f g = pastV c n k f (g + 500 - j)) → mm_wp (mm_Ev mm_ct mm_CM (d + 5)) 23 (151, [some (.ref 590), some (.long (lI (rwE f n))), none, some (.int (iI n)), some (.int (iI k)), some (.int (iI len)), some (.long (lI (rwE (stF c n k f i.toNat) n))), none, some (.int (iI j)), some (.int (iI g))], [], MX L t s l2) (fun res => ∃ l1, res = (some (.int (iI (rdW c n k f len))), MX L t s l1) ∧ (∀ c, c ≠ 590 ∧ c ≠ 593 → l1 c = l c)) := by
                  intro hg3
                  refine wi_i2 hc rfl rfl ?_
                  refine wi_zeq hc rfl ⟨by omega, by omega⟩ (fun h4_ => ?_) (fun h4_ => ?_)
                  · refine wi_i2 hc rfl rfl ?_
                    refine wi_ri hc rfl (by rw [cm_23]; rfl) ?_
                    have hI := isR_cls (Est_sh c n k f) (m := 500) (bf := j.toNat) (bg := g.toNat) (by omega) ((pastV_eq (c := c) (k := k) (a := j) (b := 500) hi n0 n1 (by omega) (by omega)).mp (by omega)) (fun b b0 b1 q => hj2 b (by omega) (by omega) ((pastV_eq hi n0 n1 (by omega) (by omega)).mpr q)) (by omega) (by rw [show g.toNat + (500 - j.toNat) = (g + 500 - j).toNat by omega]; exact (pastV_eq (c := c) (k := k) (a := g) (b := g + 500 - j) hi n0 n1 (by omega) (by omega)).mp hg3) (fun b b1 q => hg2 b (by omega) (by omega) ((pastV_eq hi n0 n1 (by omega) (by omega)).mpr (by rw [show ((b : Int) + 500 - j).toNat = b + (500 - j.toNat) by omega]; exact q)))
                    have hR : rdW c n k f len = g := by
                      unfold rdW
                      rw [if_pos (by omega), rdA_of hI, if_neg (by omega)]
                      omega
                    rw [hR]
                    exact ⟨l2, rfl, hG2⟩
                  · refine wi_si hc rfl rfl ?_
                    refine wi_i2 hc rfl rfl ?_
                    refine wi_sub hc rfl ?_
                    refine wi_go hc rfl ?_
                    refine wi_ri hc rfl (by rw [cm_23]; rfl) ?_
                    have hI := isR_cls (Est_sh c n k f) (m := 500) (bf := j.toNat) (bg := g.toNat) (by omega) ((pastV_eq (c := c) (k := k) (a := j) (b := 500) hi n0 n1 (by omega) (by omega)).mp (by omega)) (fun b b0 b1 q => hj2 b (by omega) (by omega) ((pastV_eq hi n0 n1 (by omega) (by omega)).mpr q)) (by omega) (by rw [show g.toNat + (500 - j.toNat) = (g + 500 - j).toNat by omega]; exact (pastV_eq (c := c) (k := k) (a := g) (b := g + 500 - j) hi n0 n1 (by omega) (by omega)).mp hg3) (fun b b1 q => hg2 b (by omega) (by omega) ((pastV_eq hi n0 n1 (by omega) (by omega)).mpr (by rw [show ((b : Int) + 500 - j).toNat = b + (500 - j.toNat) by omega]; exact q)))
                    have hR : rdW c n k f len = 500 - j := by
                      unfold rdW
                      rw [if_pos (by omega), rdA_of hI, if_pos (by omega)]
                      omega
                    rw [hR]
                    exact ⟨l2, rfl, hG2⟩
                refine wi_i2 hc rfl rfl ?_
                refine wi_cge hc rfl ⟨by omega, by omega⟩ ⟨by omega, by omega⟩ (fun h5_ => ?_) (fun h5_ => ?_)
                · refine join151_ ?_
                  first
                  | (rw [show g = j by omega, show j + 500 - j = 500 by omega]; omega)
                  | omega
                · refine wi_a1 hc rfl rfl ?_
                  refine wi_gr (w := 593) hc rfl rfl (by decide) (Nat.le_of_ble_eq_true rfl) rfl ?_
                  refine wi_i2 hc rfl rfl ?_
                  refine wi_lldv (N := 501) hc rfl rfl (by decide) (by decide) (by omega) (by omega) (v := pastV c n k f g) (hT2 _ (by omega) (by omega)) ?_
                  refine wi_a1 hc rfl rfl ?_
                  refine wi_gr (w := 593) hc rfl rfl (by decide) (Nat.le_of_ble_eq_true rfl) rfl ?_
                  refine wi_i2 hc rfl rfl ?_
                  refine wi_si hc rfl rfl ?_
                  refine wi_add hc rfl ?_
                  refine wi_i2 hc rfl rfl ?_
                  refine wi_sub hc rfl ?_
                  refine wi_lldv (N := 501) hc rfl rfl (by decide) (by decide) (by omega) (by omega) (v := pastV c n k f (g + 500 - j)) (hT2 _ (by omega) (by omega)) ?_
                  have h6_ := cmpI_spec (pastV c n k f g) (pastV c n k f (g + 500 - j))
                  refine wl_cmp hc rfl ⟨by omega, by omega⟩ ⟨by omega, by omega⟩ ?_
                  refine wi_zeq hc rfl (cmpI_r _ _) (fun h7_ => ?_) (fun h7_ => ?_)
                  · refine join151_ ?_
                    first
                    | (rw [show g = j by omega, show j + 500 - j = 500 by omega]; omega)
                    | omega
                  · refine wi_inc (L' := [some (.ref 590), some (.long (lI (rwE f n))), none, some (.int (iI n)), some (.int (iI k)), some (.int (iI len)), some (.long (lI (rwE (stF c n k f i.toNat) n))), none, some (.int (iI j)), some (.int (iI (g + 1)))]) hc rfl rfl rfl ?_
                    refine wi_go hc rfl ?_
                    refine ihg (by omega) (by omega) (fun a a0 a1 => ?_)
                    by_cases q : a = g
                    · rw [q]; omega
                    · exact hg2 a a0 (by omega)
              exact loop113_ 0 (by omega) (by omega) (fun a a0 a1 => by omega)
            · refine wi_ic hc rfl ?_
              refine wi_ri hc rfl (by rw [cm_23]; rfl) ?_
              have hR : rdW c n k f len = -1 := by
                unfold rdW
                rw [if_pos (by omega)]
                exact rdA_no (isR_no (Est_sh c n k f) (fun b b1 q => hj2 b (by omega) (by omega) ((pastV_eq hi n0 n1 (by omega) (by omega)).mpr q))) len
              rw [hR]
              exact ⟨l2, rfl, hG2⟩
          refine wi_zlt hc rfl ⟨by omega, by omega⟩ (fun h8_ => ?_) (fun h8_ => ?_)
          · exact join103_ (by omega)
          · refine wi_a1 hc rfl rfl ?_
            refine wi_gr (w := 593) hc rfl rfl (by decide) (Nat.le_of_ble_eq_true rfl) rfl ?_
            refine wi_i2 hc rfl rfl ?_
            refine wi_lldv (N := 501) hc rfl rfl (by decide) (by decide) (by omega) (by omega) (v := pastV c n k f j) (hT2 _ (by omega) (by omega)) ?_
            refine wi_a1 hc rfl rfl ?_
            refine wi_gr (w := 593) hc rfl rfl (by decide) (Nat.le_of_ble_eq_true rfl) rfl ?_
            refine wi_si hc rfl rfl ?_
            refine wi_lldv (N := 501) hc rfl rfl (by decide) (by decide) (by omega) (by omega) (v := pastV c n k f 500) (hT2 _ (by omega) (by omega)) ?_
            have h9_ := cmpI_spec (pastV c n k f j) (pastV c n k f 500)
            refine wl_cmp hc rfl ⟨by omega, by omega⟩ ⟨by omega, by omega⟩ ?_
            refine wi_zeq hc rfl (cmpI_r _ _) (fun h10_ => ?_) (fun h10_ => ?_)
            · exact join103_ (by omega)
            · refine wi_inc (L' := [some (.ref 590), some (.long (lI (rwE f n))), none, some (.int (iI n)), some (.int (iI k)), some (.int (iI len)), some (.long (lI (rwE (stF c n k f i.toNat) n))), none, some (.int (iI (j + (-1)))), none]) hc rfl rfl rfl ?_
              refine wi_go hc rfl ?_
              refine ihj (by omega) (by omega) (fun b b0 b1 => ?_)
              by_cases q : b = j
              · rw [q]; omega
              · exact hj2 b (by omega) b1
        exact loop73_ 499 (by omega) (by omega) (fun b b0 b1 => by omega)
      · refine wi_a1 hc rfl rfl ?_
        refine wi_gr (w := 593) hc rfl rfl (by decide) (Nat.le_of_ble_eq_true rfl) rfl ?_
        refine wi_i2 hc rfl rfl ?_
        have hrs := (rwE_ok n0 n1 (hi.stF (c := c) (k := k) i.toNat).r16).1
        refine wi_l2 hc rfl rfl ?_
        refine wi_ic hc rfl ?_
        refine wl_shl 2 rfl hc rfl (by omega) (by omega) ?_
        refine wi_i2 hc rfl rfl ?_
        refine wi_i2 hc rfl rfl ?_
        refine wi_add hc rfl ?_
        refine wi_ic hc rfl ?_
        refine wi_msk 1 2 rfl (by decide) (by decide) hc rfl ?_
        refine wl_i2l hc rfl ⟨by omega, by omega⟩ ?_
        refine wl_or hc rfl (by omega) (by omega) ?_
        refine wi_lst (N := 501) hc rfl rfl (by decide) (by decide) (by omega) (by omega) ?_
        obtain ⟨l2_, el2_⟩ : ∃ q, q = up l2 593 i (orI ((rwE (stF c n k f i.toNat) n) * 2) ((k + i) % 2)) := ⟨_, rfl⟩
        rw [← el2_]
        refine wi_a1 hc rfl rfl ?_
        refine wi_l2 hc rfl rfl ?_
        refine wi_i1 hc rfl rfl ?_
        refine wi_i2 hc rfl rfl ?_
        refine wi_i2 hc rfl rfl ?_
        refine wi_add hc rfl ?_
        refine wp_cv (b := 590) (As := [.long (lI (rwE (stF c n k f i.toNat) n)), .int (iI n), .int (iI (k + i))]) (r := []) hc rfl (by rw [cm_21]; rfl) rfl (Nat.le_of_ble_eq_true rfl) (show 590 < 621 by decide) (by rw [cm_21]; rfl) (ev_mono (sp_21 (d := 0) hC h01 (hi.stF i.toNat) n0 n1 (k := k + i)) (by omega)) ?_
        show mm_wp _ _ (60, [some (.ref 590), some (.long (lI (rwE f n))), none, some (.int (iI n)), some (.int (iI k)), some (.int (iI len)), some (.long (lI (rwE (stF c n k f i.toNat) n))), none, some (.int (iI i)), none], [.long (lI (rwE (nF c n ((k + i) % 2) (stF c n k f i.toNat)) n))], MX L t s l2_) _
        refine wi_ls2 (L' := [some (.ref 590), some (.long (lI (rwE f n))), none, some (.int (iI n)), some (.int (iI k)), some (.int (iI len)), some (.long (lI (rwE (nF c n ((k + i) % 2) (stF c n k f i.toNat)) n))), none, some (.int (iI i)), none]) hc rfl (Nat.le_of_ble_eq_true rfl) rfl ?_
        refine wi_inc (L' := [some (.ref 590), some (.long (lI (rwE f n))), none, some (.int (iI n)), some (.int (iI k)), some (.int (iI len)), some (.long (lI (rwE (nF c n ((k + i) % 2) (stF c n k f i.toNat)) n))), none, some (.int (iI (i + 1))), none]) hc rfl rfl rfl ?_
        refine wi_go hc rfl ?_
        rw [← stF_s i0]
        refine ih (by omega) (by omega) l2_ (fun c hc9_ => ((congrFun el2_ c).trans (up_cc (by omega))).trans (hG2 c (by omega))) (fun u u0 u1 => ?_)
        by_cases q : u = i
        · rw [el2_, up_e q, q]; rfl
        · rw [el2_, up_k q]; exact hT2 u u0 (by omega)
    exact loop20_ 0 (by omega) (by omega) l1_ (fun c hc9_ => hG1_ c (by omega)) (fun u u0 u1 => by omega)
  · refine wi_ic hc rfl ?_
    refine wi_ri hc rfl (by rw [cm_23]; rfl) ?_
    have hR : rdW c n k f len = -1 := by unfold rdW; rw [if_neg (by omega)]
    rw [hR]
    exact ⟨l1_, rfl, fun c hc9_ => hG1_ c (by omega)⟩
theorem sp_107 {d L t : Nat} {s l : Nat → Int → Int} {A T : Int → Int} (hJ : JC s A T) (hK : KA A T) {x len : Int} (hx : rI x) (hl : len = 0 ∨ len = 1) : ∃ s1 l1, mm_Ev mm_ct mm_CM (d + 7) 107 [.ref 0, .int (iI x), .int (iI len)] (MX L t s l) (some (.int (iI (roundP A T x len))), MX L t s1 l1) ∧ (∀ c, c ≠ 578 ∧ c ≠ 579 ∧ c ≠ 592 → s1 c = s c) ∧ (∀ c, c ≠ 590 ∧ c ≠ 593 → l1 c = l c) ∧ JC s1 A T := by
  have hc : (mm_CM 107).2.2.2.2.2.2.2 = mm_cf cd_107 := by rw [cm_107]; rfl
  refine ev_xsl ?_
  refine ev_to (mx := 3) (by rw [cm_107]; decide) (by rw [cm_107]; rfl) (by show 3 ≤ _; decide) ?_
  show mm_wp _ _ (0, [some (.ref 0), some (.int (iI x)), some (.int (iI len))], [], MX L t s l) (fun res => ∃ s1 l1, res = (some (.int (iI (roundP A T x len))), MX L t s1 l1) ∧ (∀ c, c ≠ 578 ∧ c ≠ 579 ∧ c ≠ 592 → s1 c = s c) ∧ (∀ c, c ≠ 590 ∧ c ≠ 593 → l1 c = l c) ∧ JC s1 A T)
  have hV := hK.1
  have hB := hK.2.1
  have g0 := hB.1
  have h1 := hK.2.2.1.1
  refine wi_i1 hc rfl rfl ?_
  refine wp_cs (As := [.int (iI x)]) (r := []) hc rfl (by rw [cm_125]; rfl) rfl (Nat.le_of_ble_eq_true rfl) (ev_mono (sp_125 (d := 0) hx) (by omega)) ?_
  show mm_wp _ _ (4, [some (.ref 0), some (.int (iI x)), some (.int (iI len))], [.int (iI (bI (0 ≤ x ∧ x ≤ 2)))], MX L t s l) _
  refine wi_bne hc rfl (fun h1_ => ?_) (fun h1_ => ?_)
  · have gm := hB.2.1 x (by omega) (by omega)
    refine wi_a1 hc rfl rfl ?_
    refine wi_i1 hc rfl rfl ?_
    obtain ⟨s1_, hE1_, hF1_, hJ1_, hC1_⟩ := sp_141 (d := 0) (L := L) (t := t) (l := l) hJ hK (x := x) (by omega) (by omega)
    refine wp_cv (b := 0) (As := [.int (iI x)]) (r := []) hc rfl (by rw [cm_141]; rfl) rfl (Nat.le_of_ble_eq_true rfl) (show 0 < 621 by decide) (by rw [cm_141]; rfl) (ev_mono hE1_ (by omega)) ?_
    show mm_wp _ _ (14, [some (.ref 0), some (.int (iI x)), some (.int (iI len))], [], MX L t s1_ l) _
    refine wi_a1 hc rfl rfl ?_
    refine wi_gr (w := 590) hc rfl rfl (by decide) (Nat.le_of_ble_eq_true rfl) rfl ?_
    refine wi_a1 hc rfl rfl ?_
    refine wi_gr (w := 1) hc rfl rfl (by decide) (Nat.le_of_ble_eq_true rfl) rfl ?_
    refine wi_gr (w := 2) hc rfl rfl (by decide) (Nat.le_of_ble_eq_true rfl) rfl ?_
    refine wi_i1 hc rfl rfl ?_
    refine wp_cv (b := 2) (As := [.int (iI x)]) (r := [.ref 590]) hc rfl (by rw [cm_76]; rfl) rfl (Nat.le_of_ble_eq_true rfl) (show 2 < 621 by decide) (by rw [cm_76]; rfl) (ev_mono (sp_76 (d := 0) hJ1_ hK (x := x) (by omega) (by omega)) (by omega)) ?_
    show mm_wp _ _ (29, [some (.ref 0), some (.int (iI x)), some (.int (iI len))], [.long (lI (rwE (shF A x) (A (13 + x)))), .ref 590], MX L t s1_ l) _
    refine wi_a1 hc rfl rfl ?_
    refine wi_gr (w := 1) hc rfl rfl (by decide) (Nat.le_of_ble_eq_true rfl) rfl ?_
    refine wi_gr (w := 2) hc rfl rfl (by decide) (Nat.le_of_ble_eq_true rfl) rfl ?_
    refine wi_gr (w := 7) hc rfl rfl (by decide) (Nat.le_of_ble_eq_true rfl) rfl ?_
    refine wi_i1 hc rfl rfl ?_
    refine wi_ildv (N := 3) hc rfl rfl (by decide) (by decide) (by omega) (by omega) (v := A (13 + x)) (lb_many hJ1_.1 (by omega) (by omega)) ?_
    refine wi_a1 hc rfl rfl ?_
    refine wi_gr (w := 1) hc rfl rfl (by decide) (Nat.le_of_ble_eq_true rfl) rfl ?_
    refine wi_gr (w := 2) hc rfl rfl (by decide) (Nat.le_of_ble_eq_true rfl) rfl ?_
    refine wi_gfv (kz := 6) rfl hc rfl rfl (by decide) (Nat.le_of_ble_eq_true rfl) rfl (v := A 1) (lb_night hJ1_.1) ?_
    refine wi_i1 hc rfl rfl ?_
    obtain ⟨l2_, hE2_, hG2_⟩ := sp_23 (d := 0) (L := L) (t := t) (l := l) hC1_ (cF_01 A T) (inS_shelf hB (x := x) (by omega) (by omega) : inS _ (shF A x) _) (by omega) (by omega) (k := A 1) (rI_of (by omega) (by omega)) (rI_of (by omega) (by omega)) hl
    refine wp_cv (b := 590) (As := [.long (lI (rwE (shF A x) (A (13 + x)))), .int (iI (A (13 + x))), .int (iI (A 1)), .int (iI len)]) (r := []) hc rfl (by rw [cm_23]; rfl) rfl (Nat.le_of_ble_eq_true rfl) (show 590 < 621 by decide) (by rw [cm_23]; rfl) (ev_mono hE2_ (by omega)) ?_
    show mm_wp _ _ (55, [some (.ref 0), some (.int (iI x)), some (.int (iI len))], [.int (iI (rdW (cF A T) (A (13 + x)) (A 1) (shF A x) len))], MX L t s1_ l2_) _
    refine wi_ri hc rfl (by rw [cm_107]; rfl) ?_
    have hR : roundP A T x len = rdW (cF A T) (A (13 + x)) (A 1) (shF A x) len := by unfold roundP; rw [if_pos (by omega)]
    rw [hR]
    exact ⟨s1_, l2_, rfl, fun c hc9_ => hF1_ c (by omega), fun c hc9_ => hG2_ c (by omega), hJ1_⟩
  · refine wi_ic hc rfl ?_
    refine wi_ri hc rfl (by rw [cm_107]; rfl) ?_
    have hR : roundP A T x len = (-1) := by unfold roundP; rw [if_neg (by omega)]
    rw [hR]
    exact ⟨s, l, rfl, fun c _ => rfl, fun c _ => rfl, hJ⟩
theorem sp_246 {d L t : Nat} {s l : Nat → Int → Int} {f : Int → Int} {n : Int} (hr : ∀ p, 0 ≤ p → p < n → s 608 p = f p) (hf : ∀ p, 0 ≤ p → p < n → 0 ≤ f p ∧ f p < 10) (hn : s 598 28 = n) (n0 : 0 ≤ n) (n1 : n ≤ 10) : mm_Ev mm_ct mm_CM (d + 1) 246 [.ref 598] (MX L t s l) (some (.long (lI (rnN f n.toNat))), MX L t s l) := by
  have hc : (mm_CM 246).2.2.2.2.2.2.2 = mm_cf cd_246 := by rw [cm_246]; rfl
  refine ev_of (mx := 4) (by rw [cm_246]; decide) (by rw [cm_246]; rfl) (by show 1 ≤ _; decide) ?_
  show mm_wp _ _ (0, [some (.ref 598), none, none, none], [], MX L t s l) (fun r => r = (some (.long (lI (rnN f n.toNat))), MX L t s l))
  refine wl_ic (z := 0) hc ⟨_, rfl, rfl⟩ ?_
  refine wi_ls1 (L' := [some (.ref 598), some (.long (lI 0)), none, none]) hc rfl (Nat.le_of_ble_eq_true rfl) rfl ?_
  refine wi_ic hc rfl ?_
  refine wi_is1 (L' := [some (.ref 598), some (.long (lI 0)), none, some (.int (iI 0))]) hc rfl (Nat.le_of_ble_eq_true rfl) rfl ?_
  have loop4_ : ∀ i : Int, i ≤ n → 0 ≤ i → mm_wp (mm_Ev mm_ct mm_CM d) 246 (4, [some (.ref 598), some (.long (lI (rnN f i.toNat))), none, some (.int (iI i))], [], MX L t s l) (fun r => r = (some (.long (lI (rnN f n.toNat))), MX L t s l)) := by
    refine up_ind ?_
    intro i hi9 ih i0
    refine wi_i1 hc rfl rfl ?_
    refine wi_a1 hc rfl rfl ?_
    refine wi_gfv (kz := 28) rfl hc rfl rfl (by decide) (Nat.le_of_ble_eq_true rfl) rfl (v := n) (hn) ?_
    refine wi_cge hc rfl ⟨by omega, by omega⟩ ⟨by omega, by omega⟩ (fun h1_ => ?_) (fun h1_ => ?_)
    · refine wi_l1 hc rfl rfl ?_
      refine wi_rl hc rfl (by rw [cm_246]; rfl) ?_
      rw [show i = n by omega]
    · refine wl_ld (z := 10) hc rfl rfl ?_
      refine wi_l1 hc rfl rfl ?_
      refine wl_mul hc rfl ?_
      have a1 := hf i (by omega) (by omega)
      refine wi_a1 hc rfl rfl ?_
      refine wi_gr (w := 608) hc rfl rfl (by decide) (Nat.le_of_ble_eq_true rfl) rfl ?_
      refine wi_i1 hc rfl rfl ?_
      refine wi_ildv (N := 10) hc rfl rfl (by decide) (by decide) (by omega) (by omega) (v := f i) (hr _ (by omega) (by omega)) ?_
      refine wl_i2l hc rfl ⟨by omega, by omega⟩ ?_
      refine wl_add hc rfl ?_
      refine wi_ls1 (L' := [some (.ref 598), some (.long (lI ((10 * (rnN f i.toNat)) + (f i)))), none, some (.int (iI i))]) hc rfl (Nat.le_of_ble_eq_true rfl) rfl ?_
      refine wi_inc (L' := [some (.ref 598), some (.long (lI ((10 * (rnN f i.toNat)) + (f i)))), none, some (.int (iI (i + 1)))]) hc rfl rfl rfl ?_
      refine wi_go hc rfl ?_
      have e9 : (10 * (rnN f i.toNat)) + (f i) = rnN f (i + 1).toNat := (rnN_s i0).symm
      rw [e9]
      exact ih (by omega) (by omega)
  exact loop4_ 0 (by omega) (by omega)
theorem sp_247 {d L t : Nat} {s l : Nat → Int → Int} {A T : Int → Int} (hJ : JM s A T) (hK : KA A T) {x len : Int} (hx : rI x) (hl : len = 0 ∨ len = 1) : ∃ s1 l1, mm_Ev mm_ct mm_CM (d + 9) 247 [.ref 598, .int (iI x), .int (iI len)] (MX L t s l) (some (.int (iI (roundP A T x len))), MX L t s1 l1) ∧ (∀ c, c ≠ 598 ∧ c ≠ 604 ∧ c ≠ 606 ∧ c ≠ 607 ∧ c ≠ 608 → s1 c = s c) ∧ (∀ c, c ≠ 605 ∧ c ≠ 609 → l1 c = l c) ∧ (∀ k, k ≠ 28 → s1 598 k = s 598 k) ∧ JM s1 A T := by
  have hc : (mm_CM 247).2.2.2.2.2.2.2 = mm_cf cd_247 := by rw [cm_247]; rfl
  refine ev_xsl ?_
  refine ev_to (mx := 5) (by rw [cm_247]; decide) (by rw [cm_247]; rfl) (by show 3 ≤ _; decide) ?_
  show mm_wp _ _ (0, [some (.ref 598), some (.int (iI x)), some (.int (iI len)), none, none], [], MX L t s l) (fun res => ∃ s1 l1, res = (some (.int (iI (roundP A T x len))), MX L t s1 l1) ∧ (∀ c, c ≠ 598 ∧ c ≠ 604 ∧ c ≠ 606 ∧ c ≠ 607 ∧ c ≠ 608 → s1 c = s c) ∧ (∀ c, c ≠ 605 ∧ c ≠ 609 → l1 c = l c) ∧ (∀ k, k ≠ 28 → s1 598 k = s 598 k) ∧ JM s1 A T)
  have hV := hK.1
  have hB := hK.2.1
  have g0 := hB.1
  have h1 := hK.2.2.1.1
  refine wi_i1 hc rfl rfl ?_
  refine wp_cs (As := [.int (iI x)]) (r := []) hc rfl (by rw [cm_152]; rfl) rfl (Nat.le_of_ble_eq_true rfl) (ev_mono (sp_152 (d := 0) hx) (by omega)) ?_
  show mm_wp _ _ (4, [some (.ref 598), some (.int (iI x)), some (.int (iI len)), none, none], [.int (iI (bI (0 ≤ x ∧ x ≤ 2)))], MX L t s l) _
  refine wi_bne hc rfl (fun h1_ => ?_) (fun h1_ => ?_)
  · have gm := hB.2.1 x (by omega) (by omega)
    refine wi_a1 hc rfl rfl ?_
    refine wi_i1 hc rfl rfl ?_
    refine wi_ic hc rfl ?_
    obtain ⟨s1_, l1_, hE1_, hF1_, hG1_, hf1_, hJ1_, hC1_, hn1_, hr1_⟩ := sp_240 (d := 0) (L := L) (t := t) (l := l) hJ hK (x := x) (w := (-1)) (jq := A (13 + x)) (by omega) (by omega) (rI_of (by omega) (by omega)) (by omega) (fun p p0 p1 => ⟨fun q => by have := (hB.2.2.1 x p (by omega) (by omega) p0 p1).1; omega, fun q => by omega⟩)
    refine wp_cv (b := 598) (As := [.int (iI x), .int (iI (-1))]) (r := []) hc rfl (by rw [cm_240]; rfl) rfl (Nat.le_of_ble_eq_true rfl) (show 598 < 621 by decide) (by rw [cm_240]; rfl) (ev_mono hE1_ (by omega)) ?_
    show mm_wp _ _ (15, [some (.ref 598), some (.int (iI x)), some (.int (iI len)), none, none], [], MX L t s1_ l1_) _
    obtain ⟨hn9_, hr9_⟩ := row_all (T := T) (by omega) (by omega) hn1_ hr1_
    have hfA : ∀ p, 0 ≤ p → p < A (13 + x) → 0 ≤ shF A x p ∧ shF A x p < A 0 := fun p p0 p1 => ⟨(hB.2.2.1 x p (by omega) (by omega) p0 p1).1, (hB.2.2.1 x p (by omega) (by omega) p0 p1).2.1⟩
    have hfT : ∀ p, 0 ≤ p → p < A (13 + x) → 0 ≤ shF A x p ∧ shF A x p < 10 := fun p p0 p1 => by have := hfA p p0 p1; omega
    have rnr : ∀ u : Int, 0 ≤ rnN (stF (cF A T) (A (13 + x)) (A 1) (shF A x) u.toNat) (A (13 + x)).toNat ∧ rnN (stF (cF A T) (A (13 + x)) (A 1) (shF A x) u.toNat) (A (13 + x)).toNat < 10000000000 := fun u => rnN_b (by omega) (by omega) (stF_all (P := fun v => 0 ≤ v ∧ v < 10) hfT u.toNat) (by omega) (by omega)
    refine wi_ic hc rfl ?_
    refine wi_is1 (L' := [some (.ref 598), some (.int (iI x)), some (.int (iI len)), some (.int (iI 0)), none]) hc rfl (Nat.le_of_ble_eq_true rfl) rfl ?_
    have loop17_ : ∀ i : Int, i ≤ 501 → 0 ≤ i → rsF (cF A T) (A (13 + x)) (A 1) (shF A x) 501 0 = rsF (cF A T) (A (13 + x)) (A 1) (shF A x) (501 - i).toNat i.toNat → ∀ s2 l2 : Nat → Int → Int, (∀ c, c ≠ 608 → s2 c = s1_ c) → (∀ c, c ≠ 609 → l2 c = l1_ c) → (∀ p, 0 ≤ p → p < A (13 + x) → s2 608 p = stF (cF A T) (A (13 + x)) (A 1) (shF A x) i.toNat p) → (∀ u, 0 ≤ u → u < i → l2 609 u = rnN (stF (cF A T) (A (13 + x)) (A 1) (shF A x) u.toNat) (A (13 + x)).toNat) → mm_wp (mm_Ev mm_ct mm_CM (d + 8)) 247 (17, [some (.ref 598), some (.int (iI x)), some (.int (iI len)), some (.int (iI i)), none], [], MX L t s2 l2) (fun res => ∃ s1 l1, res = (some (.int (iI (roundP A T x len))), MX L t s1 l1) ∧ (∀ c, c ≠ 598 ∧ c ≠ 604 ∧ c ≠ 606 ∧ c ≠ 607 ∧ c ≠ 608 → s1 c = s c) ∧ (∀ c, c ≠ 605 ∧ c ≠ 609 → l1 c = l c) ∧ (∀ k, k ≠ 28 → s1 598 k = s 598 k) ∧ JM s1 A T) := by
      refine up_ind ?_
      intro i hi9 ih i0 hrs s2 l2 hF2 hG2 hr2 hT2
      have hC2 : CHm s2 (cF A T) (A 0) := hC1_.of (hF2 607 (by decide))
      have hn2 : s2 598 28 = A (13 + x) := (congrFun (hF2 598 (by decide)) _).trans hn9_
      have hf2 : ∀ p, 0 ≤ p → p < A (13 + x) → 0 ≤ stF (cF A T) (A (13 + x)) (A 1) (shF A x) i.toNat p ∧ stF (cF A T) (A (13 + x)) (A 1) (shF A x) i.toNat p < A 0 := stF_all (P := fun v => 0 ≤ v ∧ v < A 0) hfA i.toNat
      refine wi_i1 hc rfl rfl ?_
      refine wi_si hc rfl rfl ?_
      refine wi_cgt hc rfl ⟨by omega, by omega⟩ ⟨by decide, by decide⟩ (fun h2_ => ?_) (fun h2_ => ?_)
      · refine wi_ic hc rfl ?_
        refine wi_is1 (L' := [some (.ref 598), some (.int (iI x)), some (.int (iI len)), some (.int (iI 0)), none]) hc rfl (Nat.le_of_ble_eq_true rfl) rfl ?_
        have loop65_ : ∀ a : Int, a ≤ 501 → 0 ≤ a → (∀ y e : Nat, (y : Int) < a → 1 ≤ e → y + e ≤ 500 → ¬ Est (cF A T) (A (13 + x)) (A 1) (shF A x) y (y + e)) → ∀ o4 : Option Value, mm_wp (mm_Ev mm_ct mm_CM (d + 8)) 247 (65, [some (.ref 598), some (.int (iI x)), some (.int (iI len)), some (.int (iI a)), o4], [], MX L t s2 l2) (fun res => ∃ s1 l1, res = (some (.int (iI (roundP A T x len))), MX L t s1 l1) ∧ (∀ c, c ≠ 598 ∧ c ≠ 604 ∧ c ≠ 606 ∧ c ≠ 607 ∧ c ≠ 608 → s1 c = s c) ∧ (∀ c, c ≠ 605 ∧ c ≠ 609 → l1 c = l c) ∧ (∀ k, k ≠ 28 → s1 598 k = s 598 k) ∧ JM s1 A T) := by
          refine up_ind ?_
          intro a ha9 iha a0 ha2 o4
          refine wi_i1 hc rfl rfl ?_
          refine wi_si hc rfl rfl ?_
          refine wi_cgt hc rfl ⟨by omega, by omega⟩ ⟨by decide, by decide⟩ (fun h3_ => ?_) (fun h3_ => ?_)
          · refine wi_ic hc rfl ?_
            refine wi_ri hc rfl (by rw [cm_247]; rfl) ?_
            have hR0 : roundP A T x len = rdW (cF A T) (A (13 + x)) (A 1) (shF A x) len := by unfold roundP; rw [if_pos (by omega)]
            have hrn : rsF (cF A T) (A (13 + x)) (A 1) (shF A x) 501 0 = -1 := by rw [hrs, show (501 - i).toNat = 0 by omega]; rfl
            have hR : roundP A T x len = -1 := by
              rw [hR0]
              unfold rdW
              rw [if_pos hrn]
              exact rdA_no (fun n d q => ha2 n d (by have := q.1; have := q.2.1; omega) q.1 q.2.1 q.2.2.1) len
            rw [hR]
            exact ⟨s2, l2, rfl, fun c hc9_ => (hF2 c (by omega)).trans (hF1_ c (by omega)), fun c hc9_ => (hG2 c (by omega)).trans (hG1_ c (by omega)), fun k k9 => (congrFun (hF2 598 (by decide)) k).trans (hf1_ k k9), hJ1_.of (hF2 599 (by decide)) (hF2 601 (by decide)) (hF2 604 (by decide))⟩
          · refine wi_ic hc rfl ?_
            refine wi_is2 (L' := [some (.ref 598), some (.int (iI x)), some (.int (iI len)), some (.int (iI a)), some (.int (iI 2))]) hc rfl (Nat.le_of_ble_eq_true rfl) rfl ?_
            have loop75_ : ∀ j : Int, j ≤ 502 → 2 ≤ j → j % 2 = 0 → (∀ e : Nat, 1 ≤ e → (e : Int) < j → ¬ Est (cF A T) (A (13 + x)) (A 1) (shF A x) a.toNat (a.toNat + e)) → mm_wp (mm_Ev mm_ct mm_CM (d + 8)) 247 (75, [some (.ref 598), some (.int (iI x)), some (.int (iI len)), some (.int (iI a)), some (.int (iI j))], [], MX L t s2 l2) (fun res => ∃ s1 l1, res = (some (.int (iI (roundP A T x len))), MX L t s1 l1) ∧ (∀ c, c ≠ 598 ∧ c ≠ 604 ∧ c ≠ 606 ∧ c ≠ 607 ∧ c ≠ 608 → s1 c = s c) ∧ (∀ c, c ≠ 605 ∧ c ≠ 609 → l1 c = l c) ∧ (∀ k, k ≠ 28 → s1 598 k = s 598 k) ∧ JM s1 A T) := by
              refine up_ind2 ?_
              intro j hj9 ihj j0 j1 hj2
              have ra := rnr a
              have raj := rnr (a + j)
              refine wi_i1 hc rfl rfl ?_
              refine wi_i2 hc rfl rfl ?_
              refine wi_add hc rfl ?_
              refine wi_si hc rfl rfl ?_
              refine wi_cgt hc rfl ⟨by omega, by omega⟩ ⟨by decide, by decide⟩ (fun h4_ => ?_) (fun h4_ => ?_)
              · refine wi_inc (L' := [some (.ref 598), some (.int (iI x)), some (.int (iI len)), some (.int (iI (a + 1))), some (.int (iI j))]) hc rfl rfl rfl ?_
                refine wi_go hc rfl ?_
                refine iha (by omega) (by omega) (fun y e y1 e1 ye => ?_) _
                by_cases q : (y : Int) = a
                · have := hj2 e e1 (by omega)
                  rwa [show a.toNat = y by omega] at this
                · exact ha2 y e (by omega) e1 ye
              · refine wi_a1 hc rfl rfl ?_
                refine wi_gr (w := 609) hc rfl rfl (by decide) (Nat.le_of_ble_eq_true rfl) rfl ?_
                refine wi_i1 hc rfl rfl ?_
                refine wi_lldv (N := 501) hc rfl rfl (by decide) (by decide) (by omega) (by omega) (v := rnN (stF (cF A T) (A (13 + x)) (A 1) (shF A x) a.toNat) (A (13 + x)).toNat) (hT2 _ (by omega) (by omega)) ?_
                refine wi_a1 hc rfl rfl ?_
                refine wi_gr (w := 609) hc rfl rfl (by decide) (Nat.le_of_ble_eq_true rfl) rfl ?_
                refine wi_i1 hc rfl rfl ?_
                refine wi_i2 hc rfl rfl ?_
                refine wi_add hc rfl ?_
                refine wi_lldv (N := 501) hc rfl rfl (by decide) (by decide) (by omega) (by omega) (v := rnN (stF (cF A T) (A (13 + x)) (A 1) (shF A x) (a + j).toNat) (A (13 + x)).toNat) (hT2 _ (by omega) (by omega)) ?_
                have h5_ := cmpI_spec (rnN (stF (cF A T) (A (13 + x)) (A 1) (shF A x) a.toNat) (A (13 + x)).toNat) (rnN (stF (cF A T) (A (13 + x)) (A 1) (shF A x) (a + j).toNat) (A (13 + x)).toNat)
                refine wl_cmp hc rfl ⟨by omega, by omega⟩ ⟨by omega, by omega⟩ ?_
                refine wi_zne hc rfl (cmpI_r _ _) (fun h6_ => ?_) (fun h6_ => ?_)
                · refine wi_inc (L' := [some (.ref 598), some (.int (iI x)), some (.int (iI len)), some (.int (iI a)), some (.int (iI (j + 2)))]) hc rfl rfl rfl ?_
                  refine wi_go hc rfl ?_
                  refine ihj (by omega) (by omega) (by omega) (fun e e1 e2 => ?_)
                  by_cases q : (e : Int) < j
                  · exact hj2 e e1 q
                  · by_cases q2 : (e : Int) = j
                    · intro g
                      have g2 := (rnE_iff (c := cF A T) (n := A (13 + x)) (k := A 1) (f := shF A x) (a := a) (b := a + j) (by omega) hfT (by omega) (by omega) (by omega)).mpr (by rw [show (a + j).toNat = a.toNat + e by omega]; exact g)
                      omega
                    · intro g
                      have g2 := g.2
                      omega
                · refine wi_i1 hc rfl rfl ?_
                  refine wi_zeq hc rfl ⟨by omega, by omega⟩ (fun h7_ => ?_) (fun h7_ => ?_)
                  · refine wi_i1 hc rfl rfl ?_
                    refine wi_ri hc rfl (by rw [cm_247]; rfl) ?_
                    have hR0 : roundP A T x len = rdW (cF A T) (A (13 + x)) (A 1) (shF A x) len := by unfold roundP; rw [if_pos (by omega)]
                    have hrn : rsF (cF A T) (A (13 + x)) (A 1) (shF A x) 501 0 = -1 := by rw [hrs, show (501 - i).toNat = 0 by omega]; rfl
                    have hE9 : Est (cF A T) (A (13 + x)) (A 1) (shF A x) a.toNat (a.toNat + j.toNat) := by
                      rw [show a.toNat + j.toNat = (a + j).toNat by omega]
                      exact (rnE_iff (by omega) hfT (by omega) (by omega) (by omega)).mp (by omega)
                    have hI : isR (Est (cF A T) (A (13 + x)) (A 1) (shF A x)) 500 a.toNat j.toNat := ⟨by omega, by omega, hE9, fun y e y1 e1 ye => ha2 y e (by omega) e1 ye, fun e e1 e2 => hj2 e e1 (by omega)⟩
                    have hR : roundP A T x len = a := by
                      rw [hR0]
                      unfold rdW
                      rw [if_pos hrn, rdA_of hI, if_neg (by omega)]
                      omega
                    rw [hR]
                    exact ⟨s2, l2, rfl, fun c hc9_ => (hF2 c (by omega)).trans (hF1_ c (by omega)), fun c hc9_ => (hG2 c (by omega)).trans (hG1_ c (by omega)), fun k k9 => (congrFun (hF2 598 (by decide)) k).trans (hf1_ k k9), hJ1_.of (hF2 599 (by decide)) (hF2 601 (by decide)) (hF2 604 (by decide))⟩
                  · refine wi_i2 hc rfl rfl ?_
                    refine wi_go hc rfl ?_
                    refine wi_ri hc rfl (by rw [cm_247]; rfl) ?_
                    have hR0 : roundP A T x len = rdW (cF A T) (A (13 + x)) (A 1) (shF A x) len := by unfold roundP; rw [if_pos (by omega)]
                    have hrn : rsF (cF A T) (A (13 + x)) (A 1) (shF A x) 501 0 = -1 := by rw [hrs, show (501 - i).toNat = 0 by omega]; rfl
                    have hE9 : Est (cF A T) (A (13 + x)) (A 1) (shF A x) a.toNat (a.toNat + j.toNat) := by
                      rw [show a.toNat + j.toNat = (a + j).toNat by omega]
                      exact (rnE_iff (by omega) hfT (by omega) (by omega) (by omega)).mp (by omega)
                    have hI : isR (Est (cF A T) (A (13 + x)) (A 1) (shF A x)) 500 a.toNat j.toNat := ⟨by omega, by omega, hE9, fun y e y1 e1 ye => ha2 y e (by omega) e1 ye, fun e e1 e2 => hj2 e e1 (by omega)⟩
                    have hR : roundP A T x len = j := by
                      rw [hR0]
                      unfold rdW
                      rw [if_pos hrn, rdA_of hI, if_pos (by omega)]
                      omega
                    rw [hR]
                    exact ⟨s2, l2, rfl, fun c hc9_ => (hF2 c (by omega)).trans (hF1_ c (by omega)), fun c hc9_ => (hG2 c (by omega)).trans (hG1_ c (by omega)), fun k k9 => (congrFun (hF2 598 (by decide)) k).trans (hf1_ k k9), hJ1_.of (hF2 599 (by decide)) (hF2 601 (by decide)) (hF2 604 (by decide))⟩
            refine loop75_ 2 (by omega) (by omega) (by omega) (fun e e1 e2 g => ?_)
            have g2 := g.2
            omega
        exact loop65_ 0 (by omega) (by omega) (fun y e y1 e1 ye => by omega) _
      · refine wi_a1 hc rfl rfl ?_
        refine wp_cv (b := 598) (As := []) (r := []) hc rfl (by rw [cm_241]; rfl) rfl (Nat.le_of_ble_eq_true rfl) (show 598 < 621 by decide) (by rw [cm_241]; rfl) (ev_mono (sp_241 (d := 0) hC2 (cF_01 A T) hr2 hf2 hn2 (by omega) (by omega) (by omega)) (by omega)) ?_
        have h9_ := clN_01 (cF A T) (stF (cF A T) (A (13 + x)) (A 1) (shF A x) i.toNat) ((A (13 + x)) - 1).toNat
        show mm_wp _ _ (28, [some (.ref 598), some (.int (iI x)), some (.int (iI len)), some (.int (iI i)), none], [.int (iI (clN (cF A T) (stF (cF A T) (A (13 + x)) (A 1) (shF A x) i.toNat) ((A (13 + x)) - 1).toNat))], MX L t s2 l2) _
        refine wi_zeq hc rfl ⟨by omega, by omega⟩ (fun h8_ => ?_) (fun h8_ => ?_)
        · refine wi_a1 hc rfl rfl ?_
          refine wi_gr (w := 609) hc rfl rfl (by decide) (Nat.le_of_ble_eq_true rfl) rfl ?_
          refine wi_i1 hc rfl rfl ?_
          refine wi_a1 hc rfl rfl ?_
          refine wp_cv (b := 598) (As := []) (r := [.int (iI i), .ref 609]) hc rfl (by rw [cm_246]; rfl) rfl (Nat.le_of_ble_eq_true rfl) (show 598 < 621 by decide) (by rw [cm_246]; rfl) (ev_mono (sp_246 (d := 0) hr2 (fun p p0 p1 => by have := hf2 p p0 p1; omega) hn2 (by omega) (by omega)) (by omega)) ?_
          show mm_wp _ _ (42, [some (.ref 598), some (.int (iI x)), some (.int (iI len)), some (.int (iI i)), none], [.long (lI (rnN (stF (cF A T) (A (13 + x)) (A 1) (shF A x) i.toNat) (A (13 + x)).toNat)), .int (iI i), .ref 609], MX L t s2 l2) _
          refine wi_lst (N := 501) hc rfl rfl (by decide) (by decide) (by omega) (by omega) ?_
          obtain ⟨l2_, el2_⟩ : ∃ q, q = up l2 609 i (rnN (stF (cF A T) (A (13 + x)) (A 1) (shF A x) i.toNat) (A (13 + x)).toNat) := ⟨_, rfl⟩
          rw [← el2_]
          refine wi_a1 hc rfl rfl ?_
          refine wi_a1 hc rfl rfl ?_
          refine wi_gr (w := 599) hc rfl rfl (by decide) (Nat.le_of_ble_eq_true rfl) rfl ?_
          refine wi_ic hc rfl ?_
          refine wi_ildv (N := 3642) hc rfl rfl (by decide) (by decide) (by omega) (by omega) (v := A 1) ((congrFun (hF2 599 (by decide)) _).trans (congrFun (hJ1_.1) _)) ?_
          refine wi_i1 hc rfl rfl ?_
          refine wi_add hc rfl ?_
          refine wi_ic hc rfl ?_
          refine wi_remp hc rfl ⟨by omega, by omega⟩ ⟨by decide, by decide⟩ (by omega) (by omega) ?_
          obtain ⟨s3_, hE3_, hF3_, hp3_⟩ := sp_243 (d := 0) (L := L) (t := t) (l := l2_) hC2 (cF_01 A T) hr2 hf2 hn2 (by omega) (by omega) (by omega) (k := (A 1 + i) % 2) (by omega) (by omega)
          refine wp_cv (b := 598) (As := [.int (iI (((A 1) + i) % 2))]) (r := []) hc rfl (by rw [cm_243]; rfl) rfl (Nat.le_of_ble_eq_true rfl) (show 598 < 621 by decide) (by rw [cm_243]; rfl) (ev_mono hE3_ (by omega)) ?_
          show mm_wp _ _ (57, [some (.ref 598), some (.int (iI x)), some (.int (iI len)), some (.int (iI i)), none], [], MX L t s3_ l2_) _
          refine wi_inc (L' := [some (.ref 598), some (.int (iI x)), some (.int (iI len)), some (.int (iI (i + 1))), none]) hc rfl rfl rfl ?_
          refine wi_go hc rfl ?_
          refine ih (by omega) (by omega) (by rw [hrs, rsF_s i0 (by omega), if_neg (by omega)]) s3_ l2_ (fun c hc9_ => (hF3_ c (by omega)).trans (hF2 c (by omega))) (fun c hc9_ => ((congrFun el2_ c).trans (up_cc (by omega))).trans (hG2 c (by omega))) (fun p p0 p1 => by rw [stF_s i0]; exact hp3_ p p0 p1) (fun u u0 u1 => ?_)
          by_cases q : u = i
          · rw [el2_, up_e q, q]
          · rw [el2_, up_k q]; exact hT2 u u0 (by omega)
        · refine wi_ic hc rfl ?_
          refine wi_ri hc rfl (by rw [cm_247]; rfl) ?_
          have hR0 : roundP A T x len = rdW (cF A T) (A (13 + x)) (A 1) (shF A x) len := by unfold roundP; rw [if_pos (by omega)]
          have hR : roundP A T x len = -1 := by
            have hi1 : rsF (cF A T) (A (13 + x)) (A 1) (shF A x) 501 0 = i := by rw [hrs, rsF_s i0 (by omega), if_pos (by omega)]
            rw [hR0]
            unfold rdW
            rw [if_neg (by omega)]
          rw [hR]
          exact ⟨s2, l2, rfl, fun c hc9_ => (hF2 c (by omega)).trans (hF1_ c (by omega)), fun c hc9_ => (hG2 c (by omega)).trans (hG1_ c (by omega)), fun k k9 => (congrFun (hF2 598 (by decide)) k).trans (hf1_ k k9), hJ1_.of (hF2 599 (by decide)) (hF2 601 (by decide)) (hF2 604 (by decide))⟩
    exact loop17_ 0 (by omega) (by omega) rfl s1_ l1_ (fun c _ => rfl) (fun c _ => rfl) hr9_ (fun u u0 u1 => by omega)
  · refine wi_ic hc rfl ?_
    refine wi_ri hc rfl (by rw [cm_247]; rfl) ?_
    have hR : roundP A T x len = -1 := by unfold roundP; rw [if_neg (by omega)]
    rw [hR]
    exact ⟨s, l, rfl, fun c _ => rfl, fun c _ => rfl, fun k _ => rfl, hJ⟩
