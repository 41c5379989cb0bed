/-! CATALOGUE on both sides. -/
theorem sp_24 {d L t : Nat} {s l : Nat → Int → Int} {f : Int → Int} {n set : Int} (hi : inS set f n) (n0 : 0 ≤ n) (n1 : n ≤ 10) {b : Int} (hb : rI b) : mm_Ev mm_ct mm_CM (d + 2) 24 [.long (lI (rwE f n)), .int (iI n), .int (iI b)] (MX L t s l) (some (.int (iI (psF f n b))), MX L t s l) := by
  have hc : (mm_CM 24).2.2.2.2.2.2.2 = mm_cf cd_24 := by rw [cm_24]; rfl
  refine ev_of (mx := 5) (by rw [cm_24]; decide) (by rw [cm_24]; rfl) (by show 4 ≤ _; decide) ?_
  show mm_wp _ _ (0, [some (.long (lI (rwE f n))), none, some (.int (iI n)), some (.int (iI b)), none], [], MX L t s l) (fun r => r = (some (.int (iI (psF f n b))), MX L t s l))
  refine wi_ic hc rfl ?_
  refine wi_is2 (L' := [some (.long (lI (rwE f n))), none, some (.int (iI n)), some (.int (iI b)), some (.int (iI 0))]) hc rfl (Nat.le_of_ble_eq_true rfl) rfl ?_
  have loop3_ : ∀ i : Int, i ≤ n → 0 ≤ i → psF f n b = psS f b (n - i).toNat i → mm_wp (mm_Ev mm_ct mm_CM (d + 1)) 24 (3, [some (.long (lI (rwE f n))), none, some (.int (iI n)), some (.int (iI b)), some (.int (iI i))], [], MX L t s l) (fun r => r = (some (.int (iI (psF f n b))), MX L t s l)) := by
    refine up_ind ?_
    intro i hi9 ih i0 hps
    refine wi_i2 hc rfl rfl ?_
    refine wi_i1 hc rfl rfl ?_
    refine wi_cge hc rfl ⟨by omega, by omega⟩ ⟨by omega, by omega⟩ (fun h1_ => ?_) (fun h1_ => ?_)
    · refine wi_ic hc rfl ?_
      refine wi_ri hc rfl (by rw [cm_24]; rfl) ?_
      rw [hps, show (n - i).toNat = 0 by omega]
      rfl
    · refine wi_l1 hc rfl rfl ?_
      refine wi_i2 hc rfl rfl ?_
      refine wp_cs (As := [.long (lI (rwE f n)), .int (iI i)]) (r := []) hc rfl (by rw [cm_127]; rfl) rfl (Nat.le_of_ble_eq_true rfl) (ev_mono (sp_127f (d := 0) hi n0 n1 (by omega) (by omega)) (by omega)) ?_
      show mm_wp _ _ (15, [some (.long (lI (rwE f n))), none, some (.int (iI n)), some (.int (iI b)), some (.int (iI i))], [.int (iI (f i))], MX L t s l) _
      have a1 := (hi i (by omega) (by omega)).1
      refine wi_i1 hc rfl rfl ?_
      refine wi_cne hc rfl ⟨by omega, by omega⟩ hb (fun h2_ => ?_) (fun h2_ => ?_)
      · refine wi_inc (L' := [some (.long (lI (rwE f n))), none, some (.int (iI n)), some (.int (iI b)), some (.int (iI (i + 1)))]) hc rfl rfl rfl ?_
        refine wi_go hc rfl ?_
        exact ih (by omega) (by omega) (by rw [hps, psS_s (by omega), if_neg (by omega)])
      · refine wi_i2 hc rfl rfl ?_
        refine wi_ri hc rfl (by rw [cm_24]; rfl) ?_
        rw [hps, psS_s (by omega), if_pos (by omega)]
  exact loop3_ 0 (by omega) (by omega) (by rw [show n - 0 = n by omega]; rfl)
theorem sp_25 {d L t : Nat} {s l : Nat → Int → Int} {c : Int → Int → Int} {f : Int → Int} {n set : Int} (hC : CHc s c set) (h01 : ∀ x y, c x y = 0 ∨ c x y = 1) (hi : inS set f n) (n0 : 0 ≤ n) (n1 : n ≤ 10) {k b m : Int} (hj : injF f n) (hm : ∃ p, 0 ≤ p ∧ p < n ∧ f p = b) (hb : rI b) (m0 : 0 ≤ m) (m1 : m ≤ 99) : ∃ s1, mm_Ev mm_ct mm_CM (d + 5) 25 [.ref 590, .long (lI (rwE f n)), .int (iI n), .int (iI k), .int (iI b), .int (iI m)] (MX L t s l) (none, MX L t s1 l) ∧ (∀ c, c ≠ 591 → s1 c = s c) ∧ (∀ p, 0 ≤ p → p < 10 → s1 591 p = (if p < n then ctN c n k f b p (m + 1).toNat else 0)) := by
  have hc : (mm_CM 25).2.2.2.2.2.2.2 = mm_cf cd_25 := by rw [cm_25]; rfl
  refine ev_xs ?_
  refine ev_to (mx := 11) (by rw [cm_25]; decide) (by rw [cm_25]; rfl) (by show 7 ≤ _; decide) ?_
  show mm_wp _ _ (0, [some (.ref 590), some (.long (lI (rwE f n))), none, some (.int (iI n)), some (.int (iI k)), some (.int (iI b)), some (.int (iI m)), none, none, none, none], [], MX L t s l) (fun res => ∃ s1, res = (none, MX L t s1 l) ∧ (∀ c, c ≠ 591 → s1 c = s c) ∧ (∀ p, 0 ≤ p → p < 10 → s1 591 p = (if p < n then ctN c n k f b p (m + 1).toNat else 0)))
  refine wi_ic hc rfl ?_
  refine wi_is2 (L' := [some (.ref 590), some (.long (lI (rwE f n))), none, some (.int (iI n)), some (.int (iI k)), some (.int (iI b)), some (.int (iI m)), some (.int (iI 0)), none, none, none]) hc rfl (Nat.le_of_ble_eq_true rfl) rfl ?_
  have loop3_ : ∀ i : Int, i ≤ 10 → 0 ≤ i → ∀ s2 : Nat → Int → Int, (∀ c, c ≠ 591 → s2 c = s c) → (∀ p, 0 ≤ p → p < i → s2 591 p = 0) → mm_wp (mm_Ev mm_ct mm_CM (d + 4)) 25 (3, [some (.ref 590), some (.long (lI (rwE f n))), none, some (.int (iI n)), some (.int (iI k)), some (.int (iI b)), some (.int (iI m)), some (.int (iI i)), none, none, none], [], MX L t s2 l) (fun res => ∃ s1, res = (none, MX L t s1 l) ∧ (∀ c, c ≠ 591 → s1 c = s c) ∧ (∀ p, 0 ≤ p → p < 10 → s1 591 p = (if p < n then ctN c n k f b p (m + 1).toNat else 0))) := by
    refine up_ind ?_
    intro i hi9 ih i0 s2 hF2 hz2
    refine wi_i2 hc rfl rfl ?_
    refine wi_bi hc rfl rfl ?_
    refine wi_cge hc rfl ⟨by omega, by omega⟩ ⟨by decide, by decide⟩ (fun h1_ => ?_) (fun h1_ => ?_)
    · refine wi_l1 hc rfl rfl ?_
      refine wi_ls2 (L' := [some (.ref 590), some (.long (lI (rwE f n))), none, some (.int (iI n)), some (.int (iI k)), some (.int (iI b)), some (.int (iI m)), some (.long (lI (rwE f n))), none, none, none]) hc rfl (Nat.le_of_ble_eq_true rfl) rfl ?_
      refine wi_ic hc rfl ?_
      refine wi_is2 (L' := [some (.ref 590), some (.long (lI (rwE f n))), none, some (.int (iI n)), some (.int (iI k)), some (.int (iI b)), some (.int (iI m)), some (.long (lI (rwE f n))), none, some (.int (iI 0)), none]) hc rfl (Nat.le_of_ble_eq_true rfl) rfl ?_
      have loop30_ : ∀ i : Int, i ≤ m + 1 → 0 ≤ i → ∀ (o10 : Option Value) (s3 : Nat → Int → Int), (∀ c, c ≠ 591 → s3 c = s c) → (∀ p, 0 ≤ p → p < 10 → s3 591 p = (if p < n then ctN c n k f b p i.toNat else 0)) → mm_wp (mm_Ev mm_ct mm_CM (d + 4)) 25 (30, [some (.ref 590), some (.long (lI (rwE f n))), none, some (.int (iI n)), some (.int (iI k)), some (.int (iI b)), some (.int (iI m)), some (.long (lI (rwE (stF c n k f i.toNat) n))), none, some (.int (iI i)), o10], [], MX L t s3 l) (fun res => ∃ s1, res = (none, MX L t s1 l) ∧ (∀ c, c ≠ 591 → s1 c = s c) ∧ (∀ p, 0 ≤ p → p < 10 → s1 591 p = (if p < n then ctN c n k f b p (m + 1).toNat else 0))) := by
        refine up_ind ?_
        intro i hi9 ih i0 o10 s3 hF3 hz3
        refine wi_i2 hc rfl rfl ?_
        refine wi_i2 hc rfl rfl ?_
        refine wi_cgt hc rfl ⟨by omega, by omega⟩ ⟨by omega, by omega⟩ (fun h2_ => ?_) (fun h2_ => ?_)
        · refine wi_rv hc rfl (by rw [cm_25]; rfl) ?_
          exact ⟨s3, rfl, hF3, fun p p0 p1 => by rw [hz3 p p0 p1, show i = m + 1 by omega]⟩
        · refine wi_l2 hc rfl rfl ?_
          refine wi_i1 hc rfl rfl ?_
          refine wi_i2 hc rfl rfl ?_
          refine wp_cs (As := [.long (lI (rwE (stF c n k f i.toNat) n)), .int (iI n), .int (iI b)]) (r := []) hc rfl (by rw [cm_24]; rfl) rfl (Nat.le_of_ble_eq_true rfl) (ev_mono (sp_24 (d := 0) (hi.stF i.toNat) n0 n1 hb) (by omega)) ?_
          have hps := psF_ok (hj.stF (c := c) (k := k) i.toNat) (stF_mem (c := c) (k := k) hm i.toNat)
          show mm_wp _ _ (45, [some (.ref 590), some (.long (lI (rwE f n))), none, some (.int (iI n)), some (.int (iI k)), some (.int (iI b)), some (.int (iI m)), some (.long (lI (rwE (stF c n k f i.toNat) n))), none, some (.int (iI i)), o10], [.int (iI (psF (stF c n k f i.toNat) n b))], MX L t s3 l) _
          refine wi_is2 (L' := [some (.ref 590), some (.long (lI (rwE f n))), none, some (.int (iI n)), some (.int (iI k)), some (.int (iI b)), some (.int (iI m)), some (.long (lI (rwE (stF c n k f i.toNat) n))), none, some (.int (iI i)), some (.int (iI (psF (stF c n k f i.toNat) n b)))]) hc rfl (Nat.le_of_ble_eq_true rfl) rfl ?_
          refine wi_i2 hc rfl rfl ?_
          refine wi_zlt hc rfl ⟨by omega, by omega⟩ (fun h3_ => (by exfalso; omega)) (fun h3_ => ?_)
          refine wi_i2 hc rfl rfl ?_
          refine wi_bi hc rfl rfl ?_
          refine wi_cge hc rfl ⟨by omega, by omega⟩ ⟨by decide, by decide⟩ (fun h4_ => (by exfalso; omega)) (fun h4_ => ?_)
          refine wi_a1 hc rfl rfl ?_
          refine wi_gr (w := 591) hc rfl rfl (by decide) (Nat.le_of_ble_eq_true rfl) rfl ?_
          refine wi_i2 hc rfl rfl ?_
          refine wi_dup2 hc rfl ?_
          have hrd := ctN_r c n k f b (psF (stF c n k f i.toNat) n b) i.toNat
          refine wi_ild (N := 10) hc rfl rfl (by decide) (by decide) (by omega) (by omega) ?_
          refine wi_ic hc rfl ?_
          refine wi_add hc rfl ?_
          refine wi_ist (N := 10) hc rfl rfl (by decide) (by decide) (by omega) (by omega) ?_
          obtain ⟨s1_, es1_⟩ : ∃ q, q = up s3 591 (psF (stF c n k f i.toNat) n b) ((s3 591 (psF (stF c n k f i.toNat) n b)) + 1) := ⟨_, rfl⟩
          rw [← es1_]
          refine wi_a1 hc rfl rfl ?_
          refine wi_l2 hc rfl rfl ?_
          refine wi_i1 hc rfl rfl ?_
          refine wi_i2 hc rfl rfl ?_
          refine wi_i2 hc rfl rfl ?_
          refine wi_add hc rfl ?_
          refine wp_cv (b := 590) (As := [.long (lI (rwE (stF c n k f i.toNat) n)), .int (iI n), .int (iI (k + i))]) (r := []) hc rfl (by rw [cm_21]; rfl) rfl (Nat.le_of_ble_eq_true rfl) (show 590 < 621 by decide) (by rw [cm_21]; rfl) (ev_mono (sp_21 (d := 0) (hC.of (((congrFun es1_ 592).trans (up_cc (by decide))).trans (hF3 592 (by decide)))) h01 (hi.stF i.toNat) n0 n1 (k := k + i)) (by omega)) ?_
          show mm_wp _ _ (82, [some (.ref 590), some (.long (lI (rwE f n))), none, some (.int (iI n)), some (.int (iI k)), some (.int (iI b)), some (.int (iI m)), some (.long (lI (rwE (stF c n k f i.toNat) n))), none, some (.int (iI i)), some (.int (iI (psF (stF c n k f i.toNat) n b)))], [.long (lI (rwE (nF c n ((k + i) % 2) (stF c n k f i.toNat)) n))], MX L t s1_ l) _
          refine wi_ls2 (L' := [some (.ref 590), some (.long (lI (rwE f n))), none, some (.int (iI n)), some (.int (iI k)), some (.int (iI b)), some (.int (iI m)), some (.long (lI (rwE (nF c n ((k + i) % 2) (stF c n k f i.toNat)) n))), none, some (.int (iI i)), some (.int (iI (psF (stF c n k f i.toNat) n b)))]) hc rfl (Nat.le_of_ble_eq_true rfl) rfl ?_
          refine wi_inc (L' := [some (.ref 590), some (.long (lI (rwE f n))), none, some (.int (iI n)), some (.int (iI k)), some (.int (iI b)), some (.int (iI m)), some (.long (lI (rwE (nF c n ((k + i) % 2) (stF c n k f i.toNat)) n))), none, some (.int (iI (i + 1))), some (.int (iI (psF (stF c n k f i.toNat) n b)))]) hc rfl rfl rfl ?_
          refine wi_go hc rfl ?_
          rw [← stF_s i0]
          refine ih (by omega) (by omega) _ s1_ (fun c hc9_ => ((congrFun es1_ c).trans (up_cc (by omega))).trans (hF3 c (by omega))) (fun p p0 p1 => ?_)
          rw [es1_, up_ite]
          have hz9 := hz3 p p0 p1
          have hpz := hz3 (psF (stF c n k f i.toNat) n b) hps.1 (by omega)
          rw [if_pos hps.2.1] at hpz
          by_cases q : p = psF (stF c n k f i.toNat) n b
          · rw [if_pos q, if_pos (by omega), ctN_s i0, if_pos (by rw [q]; exact hps.2.2.1), q, hpz]
          · rw [if_neg q, hz9]
            by_cases q2 : p < n
            · rw [if_pos q2, if_pos q2, ctN_s i0, if_neg (fun e => q ((hps.2.2.2 p p0 q2).mp e)), Int.add_zero]
            · rw [if_neg q2, if_neg q2]
      refine loop30_ 0 (by omega) (by omega) _ s2 hF2 (fun p p0 p1 => ?_)
      rw [hz2 p p0 (by omega)]
      split <;> rfl
    · refine wi_a1 hc rfl rfl ?_
      refine wi_gr (w := 591) hc rfl rfl (by decide) (Nat.le_of_ble_eq_true rfl) rfl ?_
      refine wi_i2 hc rfl rfl ?_
      refine wi_ic hc rfl ?_
      refine wi_ist (N := 10) hc rfl rfl (by decide) (by decide) (by omega) (by omega) ?_
      obtain ⟨s2_, es2_⟩ : ∃ q, q = up s2 591 i 0 := ⟨_, rfl⟩
      rw [← es2_]
      refine wi_inc (L' := [some (.ref 590), some (.long (lI (rwE f n))), none, some (.int (iI n)), some (.int (iI k)), some (.int (iI b)), some (.int (iI m)), some (.int (iI (i + 1))), none, none, none]) hc rfl rfl rfl ?_
      refine wi_go hc rfl ?_
      refine ih (by omega) (by omega) s2_ (fun c hc9_ => ((congrFun es2_ c).trans (up_cc (by omega))).trans (hF2 c (by omega))) (fun p p0 p1 => ?_)
      rw [es2_, up_ite]
      split
      · rfl
      · exact hz2 p p0 (by omega)
  exact loop3_ 0 (by omega) (by omega) s (fun c _ => rfl) (fun p p0 p1 => by omega)
theorem sp_26 {d L t : Nat} {s l : Nat → Int → Int} {g : Int → Int} {n i : Int} (hg : ∀ p, 0 ≤ p → p < 10 → s 591 p = g p) (hgr : ∀ p, 0 ≤ g p ∧ g p ≤ 1000) (n0 : 0 ≤ n) (n1 : n ≤ 10) (hi : rI i) : mm_Ev mm_ct mm_CM (d + 1) 26 [.ref 590, .int (iI n), .int (iI i)] (MX L t s l) (some (.int (iI (lkA g n i))), MX L t s l) := by
  have hc : (mm_CM 26).2.2.2.2.2.2.2 = mm_cf cd_26 := by rw [cm_26]; rfl
  refine ev_of (mx := 8) (by rw [cm_26]; decide) (by rw [cm_26]; rfl) (by show 3 ≤ _; decide) ?_
  show mm_wp _ _ (0, [some (.ref 590), some (.int (iI n)), some (.int (iI i)), none, none, none, none, none], [], MX L t s l) (fun r => r = (some (.int (iI (lkA g n i))), MX L t s l))
  refine wi_ic hc rfl ?_
  refine wi_is1 (L' := [some (.ref 590), some (.int (iI n)), some (.int (iI i)), some (.int (iI 0)), none, none, none, none]) hc rfl (Nat.le_of_ble_eq_true rfl) rfl ?_
  have loop2_ : ∀ p : Int, p ≤ n → 0 ≤ p → (∀ r, 0 ≤ r → r < p → ¬ isLk g n i r) → ∀ o4 o5 o6 o7 : Option Value, mm_wp (mm_Ev mm_ct mm_CM d) 26 (2, [some (.ref 590), some (.int (iI n)), some (.int (iI i)), some (.int (iI p)), o4, o5, o6, o7], [], MX L t s l) (fun r => r = (some (.int (iI (lkA g n i))), MX L t s l)) := by
    refine up_ind ?_
    intro p hp9 ihp p0 hno o4 o5 o6 o7
    refine wi_i1 hc rfl rfl ?_
    refine wi_i1 hc rfl rfl ?_
    refine wi_cge hc rfl ⟨by omega, by omega⟩ ⟨by omega, by omega⟩ (fun h1_ => ?_) (fun h1_ => ?_)
    · refine wi_ic hc rfl ?_
      refine wi_ri hc rfl (by rw [cm_26]; rfl) ?_
      rw [lkA_no (g := g) (n := n) (i := i) (fun r q => hno r q.1.1 (by have := q.1.2; omega) q)]
    · refine wi_i1 hc rfl rfl ?_
      refine wi_bi hc rfl rfl ?_
      refine wi_cge hc rfl ⟨by omega, by omega⟩ ⟨by decide, by decide⟩ (fun h2_ => ?_) (fun h2_ => ?_)
      · refine wi_ic hc rfl ?_
        refine wi_ri hc rfl (by rw [cm_26]; rfl) ?_
        rw [lkA_no (g := g) (n := n) (i := i) (fun r q => hno r q.1.1 (by have := q.1.2; omega) q)]
      · refine wi_ic hc rfl ?_
        refine wi_is2 (L' := [some (.ref 590), some (.int (iI n)), some (.int (iI i)), some (.int (iI p)), some (.int (iI 0)), o5, o6, o7]) hc rfl (Nat.le_of_ble_eq_true rfl) rfl ?_
        refine wi_ic hc rfl ?_
        refine wi_is2 (L' := [some (.ref 590), some (.int (iI n)), some (.int (iI i)), some (.int (iI p)), some (.int (iI 0)), some (.int (iI 0)), o6, o7]) hc rfl (Nat.le_of_ble_eq_true rfl) rfl ?_
        have loop19_ : ∀ j : Int, j ≤ n → 0 ≤ j → ∀ o6 o7 : Option Value, mm_wp (mm_Ev mm_ct mm_CM d) 26 (19, [some (.ref 590), some (.int (iI n)), some (.int (iI i)), some (.int (iI p)), some (.int (iI (ahN g p j.toNat))), some (.int (iI j)), o6, o7], [], MX L t s l) (fun r => r = (some (.int (iI (lkA g n i))), MX L t s l)) := by
          refine up_ind ?_
          intro j hj9 ihj j0 o6 o7
          have har := ahN_r g p j.toNat
          have gj := hgr j
          have gp := hgr p
          refine wi_i2 hc rfl rfl ?_
          refine wi_i1 hc rfl rfl ?_
          refine wi_cge hc rfl ⟨by omega, by omega⟩ ⟨by omega, by omega⟩ (fun h3_ => ?_) (fun h3_ => ?_)
          · refine wi_i2 hc rfl rfl ?_
            refine wi_i1 hc rfl rfl ?_
            refine wi_cne hc rfl ⟨by omega, by omega⟩ hi (fun h4_ => ?_) (fun h4_ => ?_)
            · refine wi_inc (L' := [some (.ref 590), some (.int (iI n)), some (.int (iI i)), some (.int (iI (p + 1))), some (.int (iI (ahN g p j.toNat))), some (.int (iI j)), o6, o7]) hc rfl rfl rfl ?_
              refine wi_go hc rfl ?_
              refine ihp (by omega) (by omega) (fun r r0 r1 => ?_) _ _ _ _
              by_cases q : r = p
              · intro z9
                rw [q] at z9
                have z1 := z9.2.1
                have z2 := z9.2.2
                have ej : j = n := by omega
                rw [← ej] at z1
                omega
              · exact hno r r0 (by omega)
            · refine wi_a1 hc rfl rfl ?_
              refine wi_gr (w := 591) hc rfl rfl (by decide) (Nat.le_of_ble_eq_true rfl) rfl ?_
              refine wi_i1 hc rfl rfl ?_
              refine wi_ildv (N := 10) hc rfl rfl (by decide) (by decide) (by omega) (by omega) (v := g p) (hg _ (by omega) (by omega)) ?_
              refine wi_zle hc rfl ⟨by omega, by omega⟩ (fun h5_ => ?_) (fun h5_ => ?_)
              · refine wi_inc (L' := [some (.ref 590), some (.int (iI n)), some (.int (iI i)), some (.int (iI (p + 1))), some (.int (iI (ahN g p j.toNat))), some (.int (iI j)), o6, o7]) hc rfl rfl rfl ?_
                refine wi_go hc rfl ?_
                refine ihp (by omega) (by omega) (fun r r0 r1 => ?_) _ _ _ _
                by_cases q : r = p
                · intro z9
                  rw [q] at z9
                  have z1 := z9.2.1
                  have z2 := z9.2.2
                  have ej : j = n := by omega
                  rw [← ej] at z1
                  omega
                · exact hno r r0 (by omega)
              · refine wi_i1 hc rfl rfl ?_
                refine wi_ri hc rfl (by rw [cm_26]; rfl) ?_
                have ej : j = n := by omega
                rw [lkA_of (g := g) (n := n) (i := i) (r := p) ⟨⟨p0, by omega⟩, by rw [← ej]; omega, by omega⟩]
          · refine wi_i2 hc rfl rfl ?_
            refine wi_bi hc rfl rfl ?_
            refine wi_cge hc rfl ⟨by omega, by omega⟩ ⟨by decide, by decide⟩ (fun h6_ => ?_) (fun h6_ => ?_)
            · refine wi_i2 hc rfl rfl ?_
              refine wi_i1 hc rfl rfl ?_
              refine wi_cne hc rfl ⟨by omega, by omega⟩ hi (fun h7_ => ?_) (fun h7_ => ?_)
              · refine wi_inc (L' := [some (.ref 590), some (.int (iI n)), some (.int (iI i)), some (.int (iI (p + 1))), some (.int (iI (ahN g p j.toNat))), some (.int (iI j)), o6, o7]) hc rfl rfl rfl ?_
                refine wi_go hc rfl ?_
                refine ihp (by omega) (by omega) (fun r r0 r1 => ?_) _ _ _ _
                by_cases q : r = p
                · intro z9
                  rw [q] at z9
                  have z1 := z9.2.1
                  have z2 := z9.2.2
                  have ej : j = n := by omega
                  rw [← ej] at z1
                  omega
                · exact hno r r0 (by omega)
              · refine wi_a1 hc rfl rfl ?_
                refine wi_gr (w := 591) hc rfl rfl (by decide) (Nat.le_of_ble_eq_true rfl) rfl ?_
                refine wi_i1 hc rfl rfl ?_
                refine wi_ildv (N := 10) hc rfl rfl (by decide) (by decide) (by omega) (by omega) (v := g p) (hg _ (by omega) (by omega)) ?_
                refine wi_zle hc rfl ⟨by omega, by omega⟩ (fun h8_ => ?_) (fun h8_ => ?_)
                · refine wi_inc (L' := [some (.ref 590), some (.int (iI n)), some (.int (iI i)), some (.int (iI (p + 1))), some (.int (iI (ahN g p j.toNat))), some (.int (iI j)), o6, o7]) hc rfl rfl rfl ?_
                  refine wi_go hc rfl ?_
                  refine ihp (by omega) (by omega) (fun r r0 r1 => ?_) _ _ _ _
                  by_cases q : r = p
                  · intro z9
                    rw [q] at z9
                    have z1 := z9.2.1
                    have z2 := z9.2.2
                    have ej : j = n := by omega
                    rw [← ej] at z1
                    omega
                  · exact hno r r0 (by omega)
                · refine wi_i1 hc rfl rfl ?_
                  refine wi_ri hc rfl (by rw [cm_26]; rfl) ?_
                  have ej : j = n := by omega
                  rw [lkA_of (g := g) (n := n) (i := i) (r := p) ⟨⟨p0, by omega⟩, by rw [← ej]; omega, by omega⟩]
            · refine wi_a1 hc rfl rfl ?_
              refine wi_gr (w := 591) hc rfl rfl (by decide) (Nat.le_of_ble_eq_true rfl) rfl ?_
              refine wi_i2 hc rfl rfl ?_
              refine wi_ildv (N := 10) hc rfl rfl (by decide) (by decide) (by omega) (by omega) (v := g j) (hg _ (by omega) (by omega)) ?_
              refine wi_a1 hc rfl rfl ?_
              refine wi_gr (w := 591) hc rfl rfl (by decide) (Nat.le_of_ble_eq_true rfl) rfl ?_
              refine wi_i1 hc rfl rfl ?_
              refine wi_ildv (N := 10) hc rfl rfl (by decide) (by decide) (by omega) (by omega) (v := g p) (hg _ (by omega) (by omega)) ?_
              refine wi_cle hc rfl ⟨by omega, by omega⟩ ⟨by omega, by omega⟩ (fun h9_ => ?_) (fun h9_ => ?_)
              · refine wi_ic hc rfl ?_
                refine wi_is2 (L' := [some (.ref 590), some (.int (iI n)), some (.int (iI i)), some (.int (iI p)), some (.int (iI (ahN g p j.toNat))), some (.int (iI j)), some (.int (iI 0)), o7]) hc rfl (Nat.le_of_ble_eq_true rfl) rfl ?_
                refine wi_a1 hc rfl rfl ?_
                refine wi_gr (w := 591) hc rfl rfl (by decide) (Nat.le_of_ble_eq_true rfl) rfl ?_
                refine wi_i2 hc rfl rfl ?_
                refine wi_ildv (N := 10) hc rfl rfl (by decide) (by decide) (by omega) (by omega) (v := g j) (hg _ (by omega) (by omega)) ?_
                refine wi_a1 hc rfl rfl ?_
                refine wi_gr (w := 591) hc rfl rfl (by decide) (Nat.le_of_ble_eq_true rfl) rfl ?_
                refine wi_i1 hc rfl rfl ?_
                refine wi_ildv (N := 10) hc rfl rfl (by decide) (by decide) (by omega) (by omega) (v := g p) (hg _ (by omega) (by omega)) ?_
                refine wi_cne hc rfl ⟨by omega, by omega⟩ ⟨by omega, by omega⟩ (fun h10_ => ?_) (fun h10_ => ?_)
                · refine wi_ic hc rfl ?_
                  refine wi_is2 (L' := [some (.ref 590), some (.int (iI n)), some (.int (iI i)), some (.int (iI p)), some (.int (iI (ahN g p j.toNat))), some (.int (iI j)), some (.int (iI 0)), some (.int (iI 0))]) hc rfl (Nat.le_of_ble_eq_true rfl) rfl ?_
                  refine wi_i2 hc rfl rfl ?_
                  refine wi_zne hc rfl ⟨by decide, by decide⟩ (fun q => absurd q (by decide)) (fun _ => ?_)
                  refine wi_i2 hc rfl rfl ?_
                  refine wi_zeq hc rfl ⟨by decide, by decide⟩ (fun _ => ?_) (fun q => absurd q (by decide))
                  refine wi_inc (L' := [some (.ref 590), some (.int (iI n)), some (.int (iI i)), some (.int (iI p)), some (.int (iI (ahN g p j.toNat))), some (.int (iI (j + 1))), some (.int (iI 0)), some (.int (iI 0))]) hc rfl rfl rfl ?_
                  refine wi_go hc rfl ?_
                  have e9 : ahN g p j.toNat = ahN g p (j + 1).toNat := by
                    rw [ahN_s j0]
                    split <;> omega
                  rw [e9]
                  exact ihj (by omega) (by omega) _ _
                · refine wi_ic hc rfl ?_
                  refine wi_go hc rfl ?_
                  refine wi_is2 (L' := [some (.ref 590), some (.int (iI n)), some (.int (iI i)), some (.int (iI p)), some (.int (iI (ahN g p j.toNat))), some (.int (iI j)), some (.int (iI 0)), some (.int (iI 1))]) hc rfl (Nat.le_of_ble_eq_true rfl) rfl ?_
                  refine wi_i2 hc rfl rfl ?_
                  refine wi_zne hc rfl ⟨by decide, by decide⟩ (fun q => absurd q (by decide)) (fun _ => ?_)
                  refine wi_i2 hc rfl rfl ?_
                  refine wi_zeq hc rfl ⟨by decide, by decide⟩ (fun q => absurd q (by decide)) (fun _ => ?_)
                  refine wi_i2 hc rfl rfl ?_
                  refine wi_i1 hc rfl rfl ?_
                  refine wi_cge hc rfl ⟨by omega, by omega⟩ ⟨by omega, by omega⟩ (fun h15_ => ?_) (fun h15_ => ?_)
                  · refine wi_inc (L' := [some (.ref 590), some (.int (iI n)), some (.int (iI i)), some (.int (iI p)), some (.int (iI (ahN g p j.toNat))), some (.int (iI (j + 1))), some (.int (iI 0)), some (.int (iI 1))]) hc rfl rfl rfl ?_
                    refine wi_go hc rfl ?_
                    have e9 : ahN g p j.toNat = ahN g p (j + 1).toNat := by
                      rw [ahN_s j0]
                      split <;> omega
                    rw [e9]
                    exact ihj (by omega) (by omega) _ _
                  · refine wi_inc (L' := [some (.ref 590), some (.int (iI n)), some (.int (iI i)), some (.int (iI p)), some (.int (iI (ahN g p j.toNat + 1))), some (.int (iI j)), some (.int (iI 0)), some (.int (iI 1))]) hc rfl rfl rfl ?_
                    refine wi_inc (L' := [some (.ref 590), some (.int (iI n)), some (.int (iI i)), some (.int (iI p)), some (.int (iI (ahN g p j.toNat + 1))), some (.int (iI (j + 1))), some (.int (iI 0)), some (.int (iI 1))]) hc rfl rfl rfl ?_
                    refine wi_go hc rfl ?_
                    have e9 : ahN g p j.toNat + 1 = ahN g p (j + 1).toNat := by
                      rw [ahN_s j0]
                      split <;> omega
                    rw [e9]
                    exact ihj (by omega) (by omega) _ _
              · refine wi_ic hc rfl ?_
                refine wi_go hc rfl ?_
                refine wi_is2 (L' := [some (.ref 590), some (.int (iI n)), some (.int (iI i)), some (.int (iI p)), some (.int (iI (ahN g p j.toNat))), some (.int (iI j)), some (.int (iI 1)), o7]) hc rfl (Nat.le_of_ble_eq_true rfl) rfl ?_
                refine wi_a1 hc rfl rfl ?_
                refine wi_gr (w := 591) hc rfl rfl (by decide) (Nat.le_of_ble_eq_true rfl) rfl ?_
                refine wi_i2 hc rfl rfl ?_
                refine wi_ildv (N := 10) hc rfl rfl (by decide) (by decide) (by omega) (by omega) (v := g j) (hg _ (by omega) (by omega)) ?_
                refine wi_a1 hc rfl rfl ?_
                refine wi_gr (w := 591) hc rfl rfl (by decide) (Nat.le_of_ble_eq_true rfl) rfl ?_
                refine wi_i1 hc rfl rfl ?_
                refine wi_ildv (N := 10) hc rfl rfl (by decide) (by decide) (by omega) (by omega) (v := g p) (hg _ (by omega) (by omega)) ?_
                refine wi_cne hc rfl ⟨by omega, by omega⟩ ⟨by omega, by omega⟩ (fun h16_ => ?_) (fun h16_ => ?_)
                · refine wi_ic hc rfl ?_
                  refine wi_is2 (L' := [some (.ref 590), some (.int (iI n)), some (.int (iI i)), some (.int (iI p)), some (.int (iI (ahN g p j.toNat))), some (.int (iI j)), some (.int (iI 1)), some (.int (iI 0))]) hc rfl (Nat.le_of_ble_eq_true rfl) rfl ?_
                  refine wi_i2 hc rfl rfl ?_
                  refine wi_zne hc rfl ⟨by decide, by decide⟩ (fun _ => ?_) (fun q => absurd q (by decide))
                  refine wi_inc (L' := [some (.ref 590), some (.int (iI n)), some (.int (iI i)), some (.int (iI p)), some (.int (iI (ahN g p j.toNat + 1))), some (.int (iI j)), some (.int (iI 1)), some (.int (iI 0))]) hc rfl rfl rfl ?_
                  refine wi_inc (L' := [some (.ref 590), some (.int (iI n)), some (.int (iI i)), some (.int (iI p)), some (.int (iI (ahN g p j.toNat + 1))), some (.int (iI (j + 1))), some (.int (iI 1)), some (.int (iI 0))]) hc rfl rfl rfl ?_
                  refine wi_go hc rfl ?_
                  have e9 : ahN g p j.toNat + 1 = ahN g p (j + 1).toNat := by
                    rw [ahN_s j0]
                    split <;> omega
                  rw [e9]
                  exact ihj (by omega) (by omega) _ _
                · refine wi_ic hc rfl ?_
                  refine wi_go hc rfl ?_
                  refine wi_is2 (L' := [some (.ref 590), some (.int (iI n)), some (.int (iI i)), some (.int (iI p)), some (.int (iI (ahN g p j.toNat))), some (.int (iI j)), some (.int (iI 1)), some (.int (iI 1))]) hc rfl (Nat.le_of_ble_eq_true rfl) rfl ?_
                  refine wi_i2 hc rfl rfl ?_
                  refine wi_zne hc rfl ⟨by decide, by decide⟩ (fun _ => ?_) (fun q => absurd q (by decide))
                  refine wi_inc (L' := [some (.ref 590), some (.int (iI n)), some (.int (iI i)), some (.int (iI p)), some (.int (iI (ahN g p j.toNat + 1))), some (.int (iI j)), some (.int (iI 1)), some (.int (iI 1))]) hc rfl rfl rfl ?_
                  refine wi_inc (L' := [some (.ref 590), some (.int (iI n)), some (.int (iI i)), some (.int (iI p)), some (.int (iI (ahN g p j.toNat + 1))), some (.int (iI (j + 1))), some (.int (iI 1)), some (.int (iI 1))]) hc rfl rfl rfl ?_
                  refine wi_go hc rfl ?_
                  have e9 : ahN g p j.toNat + 1 = ahN g p (j + 1).toNat := by
                    rw [ahN_s j0]
                    split <;> omega
                  rw [e9]
                  exact ihj (by omega) (by omega) _ _
        exact loop19_ 0 (by omega) (by omega) _ _
  exact loop2_ 0 (by omega) (by omega) (fun r r0 r1 => by omega) _ _ _ _
