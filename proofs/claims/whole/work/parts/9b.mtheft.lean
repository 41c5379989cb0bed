/-! The model's THEFT and CHEAPEST. -/
theorem sp_276 {d L t : Nat} {s l : Nat → Int → Int} {A T : Int → Int} (hJ : JM s A T) (hK : KA A T) {b x : Int} (b0 : 0 ≤ b) (b1 : b < A 0) (hx : A (46 + 6 * b + 5) = x) (x1 : x ≤ 2) : ∃ s1 l1, mm_Ev mm_ct mm_CM (d + 9) 276 [.ref 598, .int (iI b)] (MX L t s l) (some (.int (iI (theftV A T b))), MX L t s1 l1) ∧ (∀ c, c ≠ 598 ∧ c ≠ 604 ∧ c ≠ 606 ∧ c ≠ 607 ∧ c ≠ 608 ∧ c ≠ 620 → s1 c = s c) ∧ (∀ c, c ≠ 605 → l1 c = l c) ∧ (∀ k, k ≠ 28 → s1 598 k = s 598 k) ∧ JM s1 A T := by
  have hc : (mm_CM 276).2.2.2.2.2.2.2 = mm_cf cd_276 := by rw [cm_276]; rfl
  refine ev_xsl ?_
  refine ev_to (mx := 6) (by rw [cm_276]; decide) (by rw [cm_276]; rfl) (by show 2 ≤ _; decide) ?_
  show mm_wp _ _ (0, [some (.ref 598), some (.int (iI b)), none, none, none, none], [], MX L t s l) (fun res => ∃ s1 l1, res = (some (.int (iI (theftV A T b))), MX L t s1 l1) ∧ (∀ c, c ≠ 598 ∧ c ≠ 604 ∧ c ≠ 606 ∧ c ≠ 607 ∧ c ≠ 608 ∧ c ≠ 620 → s1 c = s c) ∧ (∀ c, c ≠ 605 → l1 c = l c) ∧ (∀ k, k ≠ 28 → s1 598 k = s 598 k) ∧ JM s1 A T)
  have hV := hK.1
  have hB := hK.2.1
  have g0 := hB.1
  have h1 := hK.2.2.1.1
  have gw := (hB.2.2.2.2 b (by omega) (by omega)).1
  have gm := hB.2.1 x (by omega) (by omega)
  have hat := shF_at hB (b := b) (by omega) (by omega) (by omega)
  rw [hx] at hat gw
  have hij : injF (shF A x) (A (13 + x)) := shF_inj hB (by omega) (by omega)
  have hps := psF_ok hij hat
  obtain ⟨j, hj0⟩ : ∃ q, q = psF (shF A x) (A (13 + x)) b := ⟨_, rfl⟩
  rw [← hj0] at hps
  obtain ⟨r1, hr1⟩ : ∃ q, q = rsF (cF A T) (A (13 + x)) (A 1) (shF A x) 501 0 := ⟨_, rfl⟩
  obtain ⟨f1, hf1⟩ : ∃ q, q = stF (cF A T) (A (13 + x)) (A 1) (shF A x) r1.toNat := ⟨_, rfl⟩
  obtain ⟨j1, hj1⟩ : ∃ q, q = psF f1 (A (13 + x)) b := ⟨_, rfl⟩
  obtain ⟨r2, hr2⟩ : ∃ q, q = rsF (cF A T) (A (13 + x) - 1) (A 1) (woF (shF A x) j) 501 0 := ⟨_, rfl⟩
  obtain ⟨f2, hf2⟩ : ∃ q, q = stF (cF A T) (A (13 + x) - 1) (A 1) (woF (shF A x) j) r2.toNat := ⟨_, rfl⟩
  have hcost : theftV A T b = if r1 = -1 ∨ r2 = -1 then -1 else dfN (woF f1 j1) f2 (A (13 + x) - 1).toNat := by unfold theftV; rw [hx, hf2, hr2, hj1, hf1, hr1, hj0]; rfl
  have hfA : ∀ p, 0 ≤ p → p < A (13 + x) → 0 ≤ shF A x p ∧ shF A x p < A 0 := fun p p0 p1 => ⟨(hB.2.2.1 x p (by omega) (by omega) p0 p1).1, (hB.2.2.1 x p (by omega) (by omega) p0 p1).2.1⟩
  have hfW : ∀ p, 0 ≤ p → p < A (13 + x) - 1 → 0 ≤ woF (shF A x) j p ∧ woF (shF A x) j p < A 0 := fun p p0 p1 => by
    unfold woF
    split
    · exact hfA p p0 (by omega)
    · exact hfA (p + 1) (by omega) (by omega)
  have hf1r : ∀ p, 0 ≤ p → p < A (13 + x) → 0 ≤ f1 p ∧ f1 p < A 0 := by rw [hf1]; exact stF_all (P := fun v => 0 ≤ v ∧ v < A 0) hfA r1.toNat
  have hf2r : ∀ p, 0 ≤ p → p < A (13 + x) - 1 → 0 ≤ f2 p ∧ f2 p < A 0 := by rw [hf2]; exact stF_all (P := fun v => 0 ≤ v ∧ v < A 0) hfW r2.toNat
  have hps1 : 0 ≤ j1 ∧ j1 < A (13 + x) ∧ ∀ p, 0 ≤ p → p < A (13 + x) → (f1 p = b ↔ p = j1) := by
    rw [hj1, hf1]
    have g := psF_ok (hij.stF (c := cF A T) (k := A 1) r1.toNat) (stF_mem (c := cF A T) (k := A 1) hat r1.toNat)
    exact ⟨g.1, g.2.1, g.2.2.2⟩
  have hrr1 : -1 ≤ r1 ∧ r1 ≤ 501 := by have := rsF_r (cF A T) (A (13 + x)) (A 1) (shF A x) 501 0; omega
  have hrr2 : -1 ≤ r2 ∧ r2 ≤ 501 := by have := rsF_r (cF A T) (A (13 + x) - 1) (A 1) (woF (shF A x) j) 501 0; omega
  refine wi_a1 hc rfl rfl ?_
  refine wi_i1 hc rfl rfl ?_
  refine wi_ic hc rfl ?_
  refine wp_cv (b := 598) (As := [.int (iI b), .int (iI 5)]) (r := []) hc rfl (by rw [cm_153]; rfl) rfl (Nat.le_of_ble_eq_true rfl) (show 598 < 621 by decide) (by rw [cm_153]; rfl) (ev_mono (sg_153 (d := 0) (hJ.1) (by omega) (by omega) (by omega) (by omega)) (by omega)) ?_
  show mm_wp _ _ (6, [some (.ref 598), some (.int (iI b)), none, none, none, none], [.int (iI (A (46 + 6 * b + 5)))], MX L t s l) _
  rw [hx]
  refine wi_is1 (L' := [some (.ref 598), some (.int (iI b)), some (.int (iI x)), none, none, none]) hc rfl (Nat.le_of_ble_eq_true rfl) rfl ?_
  refine wi_a1 hc rfl rfl ?_
  refine wi_i1 hc rfl rfl ?_
  refine wi_i1 hc rfl rfl ?_
  obtain ⟨s1_, l1_, hE1_, hF1_, hG1_, hf1_, hJ1_, hC1_, hn1_, hr1_⟩ := sp_240 (d := 0) (L := L) (t := t) (l := l) hJ hK (x := x) (w := b) (jq := j) (by omega) (by omega) (rI_of (by omega) (by omega)) (by omega) hps.2.2.2
  refine wp_cv (b := 598) (As := [.int (iI x), .int (iI b)]) (r := []) hc rfl (by rw [cm_240]; rfl) rfl (Nat.le_of_ble_eq_true rfl) (show 598 < 621 by decide) (by rw [cm_240]; rfl) (ev_mono hE1_ (by omega)) ?_
  show mm_wp _ _ (13, [some (.ref 598), some (.int (iI b)), some (.int (iI x)), none, none, none], [], MX L t s1_ l1_) _
  refine wi_a1 hc rfl rfl ?_
  rw [if_neg (by omega)] at hn1_ hr1_
  obtain ⟨s2_, hE2_, hF2_, hp2_⟩ := sp_244 (d := 0) (L := L) (t := t) (l := l1_) (f := woF (shF A x) j) (n := A (13 + x) - 1) hC1_ (cF_01 A T) hr1_ hfW hn1_ (by omega) (by omega) (by omega) (k := A 1) (congrFun hJ1_.1 1) (by omega) (by omega)
  rw [← hr2] at hE2_ hp2_
  rw [← hf2] at hp2_
  refine wp_cv (b := 598) (As := []) (r := []) hc rfl (by rw [cm_244]; rfl) rfl (Nat.le_of_ble_eq_true rfl) (show 598 < 621 by decide) (by rw [cm_244]; rfl) (ev_mono hE2_ (by omega)) ?_
  have hJ2_ : JM s2_ A T := hJ1_.of (hF2_ 599 (by decide)) (hF2_ 601 (by decide)) (hF2_ 604 (by decide))
  have hm1 : s2_ 598 28 = A (13 + x) - 1 := (congrFun (hF2_ 598 (by decide)) _).trans hn1_
  show mm_wp _ _ (17, [some (.ref 598), some (.int (iI b)), some (.int (iI x)), none, none, none], [.int (iI r2)], MX L t s2_ l1_) _
  refine wi_zge hc rfl ⟨by omega, by omega⟩ (fun h1_ => ?_) (fun h1_ => ?_)
  · refine wi_ic hc rfl ?_
    refine wi_is1 (L' := [some (.ref 598), some (.int (iI b)), some (.int (iI x)), some (.int (iI 0)), none, none]) hc rfl (Nat.le_of_ble_eq_true rfl) rfl ?_
    have loop24_ : ∀ p : Int, p ≤ A (13 + x) - 1 → 0 ≤ p → ∀ s3 : Nat → Int → Int, (∀ c, c ≠ 620 → s3 c = s2_ c) → (∀ q, 0 ≤ q → q < p → s3 620 q = f2 q) → mm_wp (mm_Ev mm_ct mm_CM (d + 8)) 276 (24, [some (.ref 598), some (.int (iI b)), some (.int (iI x)), some (.int (iI p)), none, none], [], MX L t s3 l1_) (fun res => ∃ s1 l1, res = (some (.int (iI (theftV A T b))), MX L t s1 l1) ∧ (∀ c, c ≠ 598 ∧ c ≠ 604 ∧ c ≠ 606 ∧ c ≠ 607 ∧ c ≠ 608 ∧ c ≠ 620 → s1 c = s c) ∧ (∀ c, c ≠ 605 → l1 c = l c) ∧ (∀ k, k ≠ 28 → s1 598 k = s 598 k) ∧ JM s1 A T) := by
      refine up_ind ?_
      intro p hp9 ihp p0 s3 hF3 hz3
      refine wi_i1 hc rfl rfl ?_
      refine wi_a1 hc rfl rfl ?_
      refine wi_gfv (kz := 28) rfl hc rfl rfl (by decide) (Nat.le_of_ble_eq_true rfl) rfl (v := A (13 + x) - 1) ((congrFun (hF3 598 (by decide)) _).trans (hm1)) ?_
      refine wi_cge hc rfl ⟨by omega, by omega⟩ ⟨by omega, by omega⟩ (fun h2_ => ?_) (fun h2_ => ?_)
      · refine wi_a1 hc rfl rfl ?_
        refine wi_i1 hc rfl rfl ?_
        refine wi_ic hc rfl ?_
        obtain ⟨s3_, l3_, hE3_, hF3_, hG3_, hf3_, hJ3_, hC3_, hn3_, hr3_⟩ := sp_240 (d := 0) (L := L) (t := t) (l := l1_) (hJ2_.of (hF3 599 (by decide)) (hF3 601 (by decide)) (hF3 604 (by decide))) hK (x := x) (w := (-1)) (jq := A (13 + x)) (by omega) (by omega) (rI_of (by omega) (by omega)) (by omega) (fun p p0 p1 => ⟨fun q => by have := (hfA p p0 p1).1; unfold shF at this; omega, fun q => by omega⟩)
        refine wp_cv (b := 598) (As := [.int (iI x), .int (iI (-1))]) (r := []) hc rfl (by rw [cm_240]; rfl) rfl (Nat.le_of_ble_eq_true rfl) (show 598 < 621 by decide) (by rw [cm_240]; rfl) (ev_mono hE3_ (by omega)) ?_
        show mm_wp _ _ (56, [some (.ref 598), some (.int (iI b)), some (.int (iI x)), some (.int (iI p)), none, none], [], MX L t s3_ l3_) _
        refine wi_a1 hc rfl rfl ?_
        obtain ⟨hn9_, hr9_⟩ := row_all (T := T) (by omega) (by omega) hn3_ hr3_
        obtain ⟨s4_, hE4_, hF4_, hp4_⟩ := sp_244 (d := 0) (L := L) (t := t) (l := l3_) hC3_ (cF_01 A T) hr9_ hfA hn9_ (by omega) (by omega) (by omega) (k := A 1) (congrFun hJ3_.1 1) (by omega) (by omega)
        rw [← hr1] at hE4_ hp4_
        rw [← hf1] at hp4_
        refine wp_cv (b := 598) (As := []) (r := []) hc rfl (by rw [cm_244]; rfl) rfl (Nat.le_of_ble_eq_true rfl) (show 598 < 621 by decide) (by rw [cm_244]; rfl) (ev_mono hE4_ (by omega)) ?_
        have hJ4_ : JM s4_ A T := hJ3_.of (hF4_ 599 (by decide)) (hF4_ 601 (by decide)) (hF4_ 604 (by decide))
        have hm2 : s4_ 598 28 = A (13 + x) := (congrFun (hF4_ 598 (by decide)) _).trans hn9_
        show mm_wp _ _ (60, [some (.ref 598), some (.int (iI b)), some (.int (iI x)), some (.int (iI p)), none, none], [.int (iI r1)], MX L t s4_ l3_) _
        refine wi_zge hc rfl ⟨by omega, by omega⟩ (fun h3_ => ?_) (fun h3_ => ?_)
        · refine wi_ic hc rfl ?_
          refine wi_is1 (L' := [some (.ref 598), some (.int (iI b)), some (.int (iI x)), some (.int (iI 0)), none, none]) hc rfl (Nat.le_of_ble_eq_true rfl) rfl ?_
          refine wi_ic hc rfl ?_
          refine wi_is2 (L' := [some (.ref 598), some (.int (iI b)), some (.int (iI x)), some (.int (iI 0)), some (.int (iI 0)), none]) hc rfl (Nat.le_of_ble_eq_true rfl) rfl ?_
          refine wi_ic hc rfl ?_
          refine wi_is2 (L' := [some (.ref 598), some (.int (iI b)), some (.int (iI x)), some (.int (iI 0)), some (.int (iI 0)), some (.int (iI 0))]) hc rfl (Nat.le_of_ble_eq_true rfl) rfl ?_
          have loop73_ : ∀ p : Int, p ≤ A (13 + x) → 0 ≤ p → ∀ q : Int, (p ≤ j1 ∧ q = p) ∨ (j1 < p ∧ q = p - 1) → mm_wp (mm_Ev mm_ct mm_CM (d + 8)) 276 (73, [some (.ref 598), some (.int (iI b)), some (.int (iI x)), some (.int (iI (dfN (woF f1 j1) f2 q.toNat))), some (.int (iI q)), some (.int (iI p))], [], MX L t s4_ l3_) (fun res => ∃ s1 l1, res = (some (.int (iI (theftV A T b))), MX L t s1 l1) ∧ (∀ c, c ≠ 598 ∧ c ≠ 604 ∧ c ≠ 606 ∧ c ≠ 607 ∧ c ≠ 608 ∧ c ≠ 620 → s1 c = s c) ∧ (∀ c, c ≠ 605 → l1 c = l c) ∧ (∀ k, k ≠ 28 → s1 598 k = s 598 k) ∧ JM s1 A T) := by
            refine up_ind ?_
            intro p hp9 ihp p0 q hq9
            have hdr := dfN_r (woF f1 j1) f2 q.toNat
            refine wi_i2 hc rfl rfl ?_
            refine wi_a1 hc rfl rfl ?_
            refine wi_gfv (kz := 28) rfl hc rfl rfl (by decide) (Nat.le_of_ble_eq_true rfl) rfl (v := A (13 + x)) (hm2) ?_
            refine wi_cge hc rfl ⟨by omega, by omega⟩ ⟨by omega, by omega⟩ (fun h4_ => ?_) (fun h4_ => ?_)
            · refine wi_i1 hc rfl rfl ?_
              refine wi_ri hc rfl (by rw [cm_276]; rfl) ?_
              have eq9 : A (13 + x) - 1 = q := by omega
              rw [hcost, if_neg (by omega), eq9]
              exact ⟨s4_, l3_, rfl, fun c hc9_ => (hF4_ c (by omega)).trans ((hF3_ c (by omega)).trans ((hF3 c (by omega)).trans ((hF2_ c (by omega)).trans (hF1_ c (by omega))))), fun c hc9_ => (hG3_ c (by omega)).trans (hG1_ c (by omega)), fun k k9 => (congrFun (hF4_ 598 (by decide)) k).trans ((hf3_ k k9).trans ((congrFun (hF3 598 (by decide)) k).trans ((congrFun (hF2_ 598 (by decide)) k).trans (hf1_ k k9)))), hJ4_⟩
            · have a1 := hf1r p (by omega) (by omega)
              have a2 := hps1.2.2 p (by omega) (by omega)
              refine wi_a1 hc rfl rfl ?_
              refine wi_gr (w := 608) hc rfl rfl (by decide) (Nat.le_of_ble_eq_true rfl) rfl ?_
              refine wi_i2 hc rfl rfl ?_
              refine wi_ildv (N := 10) hc rfl rfl (by decide) (by decide) (by omega) (by omega) (v := f1 p) (hp4_ (by omega) _ (by omega) (by omega)) ?_
              refine wi_i1 hc rfl rfl ?_
              refine wi_cne hc rfl ⟨by omega, by omega⟩ ⟨by omega, by omega⟩ (fun h5_ => ?_) (fun h5_ => ?_)
              · have a3 := hf2r q (by omega) (by omega)
                refine wi_i1 hc rfl rfl ?_
                refine wi_a1 hc rfl rfl ?_
                refine wi_gr (w := 608) hc rfl rfl (by decide) (Nat.le_of_ble_eq_true rfl) rfl ?_
                refine wi_i2 hc rfl rfl ?_
                refine wi_ildv (N := 10) hc rfl rfl (by decide) (by decide) (by omega) (by omega) (v := f1 p) (hp4_ (by omega) _ (by omega) (by omega)) ?_
                refine wi_a1 hc rfl rfl ?_
                refine wi_gr (w := 620) hc rfl rfl (by decide) (Nat.le_of_ble_eq_true rfl) rfl ?_
                refine wi_i2 hc rfl rfl ?_
                refine wi_ildv (N := 10) hc rfl rfl (by decide) (by decide) (by omega) (by omega) (v := f2 q) ((congrFun (hF4_ 620 (by decide)) _).trans ((congrFun (hF3_ 620 (by decide)) _).trans (hz3 _ (by omega) (by omega)))) ?_
                refine wi_ceq hc rfl ⟨by omega, by omega⟩ ⟨by omega, by omega⟩ (fun h6_ => ?_) (fun h6_ => ?_)
                · refine wi_ic hc rfl ?_
                  refine wi_add hc rfl ?_
                  refine wi_is1 (L' := [some (.ref 598), some (.int (iI b)), some (.int (iI x)), some (.int (iI ((dfN (woF f1 j1) f2 q.toNat) + 0))), some (.int (iI q)), some (.int (iI p))]) hc rfl (Nat.le_of_ble_eq_true rfl) rfl ?_
                  refine wi_inc (L' := [some (.ref 598), some (.int (iI b)), some (.int (iI x)), some (.int (iI ((dfN (woF f1 j1) f2 q.toNat) + 0))), some (.int (iI (q + 1))), some (.int (iI p))]) hc rfl rfl rfl ?_
                  refine wi_inc (L' := [some (.ref 598), some (.int (iI b)), some (.int (iI x)), some (.int (iI ((dfN (woF f1 j1) f2 q.toNat) + 0))), some (.int (iI (q + 1))), some (.int (iI (p + 1)))]) hc rfl rfl rfl ?_
                  refine wi_go hc rfl ?_
                  have ew : woF f1 j1 q = f1 p := by
                    unfold woF
                    by_cases z9 : p ≤ j1
                    · rw [if_pos (by omega), show q = p by omega]
                    · rw [if_neg (by omega), show q + 1 = p by omega]
                  have e3 : (dfN (woF f1 j1) f2 q.toNat) + 0 = dfN (woF f1 j1) f2 (q + 1).toNat := by rw [dfN_s (by omega), ew, if_pos (by omega)]
                  rw [e3]
                  exact ihp (by omega) (by omega) (q + 1) (by omega)
                · refine wi_ic hc rfl ?_
                  refine wi_go hc rfl ?_
                  refine wi_add hc rfl ?_
                  refine wi_is1 (L' := [some (.ref 598), some (.int (iI b)), some (.int (iI x)), some (.int (iI ((dfN (woF f1 j1) f2 q.toNat) + 1))), some (.int (iI q)), some (.int (iI p))]) hc rfl (Nat.le_of_ble_eq_true rfl) rfl ?_
                  refine wi_inc (L' := [some (.ref 598), some (.int (iI b)), some (.int (iI x)), some (.int (iI ((dfN (woF f1 j1) f2 q.toNat) + 1))), some (.int (iI (q + 1))), some (.int (iI p))]) hc rfl rfl rfl ?_
                  refine wi_inc (L' := [some (.ref 598), some (.int (iI b)), some (.int (iI x)), some (.int (iI ((dfN (woF f1 j1) f2 q.toNat) + 1))), some (.int (iI (q + 1))), some (.int (iI (p + 1)))]) hc rfl rfl rfl ?_
                  refine wi_go hc rfl ?_
                  have ew : woF f1 j1 q = f1 p := by
                    unfold woF
                    by_cases z9 : p ≤ j1
                    · rw [if_pos (by omega), show q = p by omega]
                    · rw [if_neg (by omega), show q + 1 = p by omega]
                  have e3 : (dfN (woF f1 j1) f2 q.toNat) + 1 = dfN (woF f1 j1) f2 (q + 1).toNat := by rw [dfN_s (by omega), ew, if_neg (by omega)]
                  rw [e3]
                  exact ihp (by omega) (by omega) (q + 1) (by omega)
              · refine wi_go hc rfl ?_
                refine wi_inc (L' := [some (.ref 598), some (.int (iI b)), some (.int (iI x)), some (.int (iI (dfN (woF f1 j1) f2 q.toNat))), some (.int (iI q)), some (.int (iI (p + 1)))]) hc rfl rfl rfl ?_
                refine wi_go hc rfl ?_
                exact ihp (by omega) (by omega) q (by omega)
          exact loop73_ 0 (by omega) (by omega) 0 (by omega)
        · refine wi_ic hc rfl ?_
          refine wi_ri hc rfl (by rw [cm_276]; rfl) ?_
          rw [hcost, if_pos (by omega)]
          exact ⟨s4_, l3_, rfl, fun c hc9_ => (hF4_ c (by omega)).trans ((hF3_ c (by omega)).trans ((hF3 c (by omega)).trans ((hF2_ c (by omega)).trans (hF1_ c (by omega))))), fun c hc9_ => (hG3_ c (by omega)).trans (hG1_ c (by omega)), fun k k9 => (congrFun (hF4_ 598 (by decide)) k).trans ((hf3_ k k9).trans ((congrFun (hF3 598 (by decide)) k).trans ((congrFun (hF2_ 598 (by decide)) k).trans (hf1_ k k9)))), hJ4_⟩
      · refine wi_a1 hc rfl rfl ?_
        refine wi_gr (w := 620) hc rfl rfl (by decide) (Nat.le_of_ble_eq_true rfl) rfl ?_
        refine wi_i1 hc rfl rfl ?_
        refine wi_a1 hc rfl rfl ?_
        refine wi_gr (w := 608) hc rfl rfl (by decide) (Nat.le_of_ble_eq_true rfl) rfl ?_
        refine wi_i1 hc rfl rfl ?_
        refine wi_ildv (N := 10) hc rfl rfl (by decide) (by decide) (by omega) (by omega) (v := f2 p) ((congrFun (hF3 608 (by decide)) _).trans (hp2_ (by omega) _ (by omega) (by omega))) ?_
        refine wi_ist (N := 10) hc rfl rfl (by decide) (by decide) (by omega) (by omega) ?_
        obtain ⟨s5_, es5_⟩ : ∃ q, q = up s3 620 p (f2 p) := ⟨_, rfl⟩
        rw [← es5_]
        refine wi_inc (L' := [some (.ref 598), some (.int (iI b)), some (.int (iI x)), some (.int (iI (p + 1))), none, none]) hc rfl rfl rfl ?_
        refine wi_go hc rfl ?_
        refine ihp (by omega) (by omega) s5_ (fun c hc9_ => ((congrFun es5_ c).trans (up_cc (by omega))).trans (hF3 c (by omega))) (fun q q0 q1 => ?_)
        rw [es5_, up_ite]
        by_cases z9 : q = p
        · rw [if_pos z9, z9]
        · rw [if_neg z9]; exact hz3 q q0 (by omega)
    exact loop24_ 0 (by omega) (by omega) s2_ (fun c _ => rfl) (fun q q0 q1 => by omega)
  · refine wi_ic hc rfl ?_
    refine wi_ri hc rfl (by rw [cm_276]; rfl) ?_
    rw [hcost, if_pos (by omega)]
    exact ⟨s2_, l1_, rfl, fun c hc9_ => (hF2_ c (by omega)).trans (hF1_ c (by omega)), fun c hc9_ => hG1_ c (by omega), fun k k9 => (congrFun (hF2_ 598 (by decide)) k).trans (hf1_ k k9), hJ2_⟩
theorem sp_277 {d L t : Nat} {s l : Nat → Int → Int} {A T : Int → Int} (hJ : JM s A T) (hK : KA A T) {b : Int} (hb : rI b) : ∃ s1 l1, mm_Ev mm_ct mm_CM (d + 10) 277 [.ref 598, .int (iI b)] (MX L t s l) (some (.int (iI (theftP A T b))), MX L t s1 l1) ∧ (∀ c, c ≠ 598 ∧ c ≠ 604 ∧ c ≠ 606 ∧ c ≠ 607 ∧ c ≠ 608 ∧ c ≠ 620 → s1 c = s c) ∧ (∀ c, c ≠ 605 → l1 c = l c) ∧ (∀ k, k ≠ 28 → s1 598 k = s 598 k) ∧ JM s1 A T := by
  have hc : (mm_CM 277).2.2.2.2.2.2.2 = mm_cf cd_277 := by rw [cm_277]; rfl
  refine ev_xsl ?_
  refine ev_to (mx := 2) (by rw [cm_277]; decide) (by rw [cm_277]; rfl) (by show 2 ≤ _; decide) ?_
  show mm_wp _ _ (0, [some (.ref 598), some (.int (iI b))], [], MX L t s l) (fun res => ∃ s1 l1, res = (some (.int (iI (theftP A T b))), MX L t s1 l1) ∧ (∀ c, c ≠ 598 ∧ c ≠ 604 ∧ c ≠ 606 ∧ c ≠ 607 ∧ c ≠ 608 ∧ c ≠ 620 → s1 c = s c) ∧ (∀ c, c ≠ 605 → l1 c = l c) ∧ (∀ k, k ≠ 28 → s1 598 k = s 598 k) ∧ JM s1 A T)
  have hV := hK.1
  have hB := hK.2.1
  have g0 := hB.1
  have h1 := hK.2.2.1.1
  refine wi_a1 hc rfl rfl ?_
  refine wi_i1 hc rfl rfl ?_
  refine wp_cv (b := 598) (As := [.int (iI b)]) (r := []) hc rfl (by rw [cm_156]; rfl) rfl (Nat.le_of_ble_eq_true rfl) (show 598 < 621 by decide) (by rw [cm_156]; rfl) (ev_mono (sp_156 (d := 0) hJ hK.2.1 hb) (by omega)) ?_
  show mm_wp _ _ (5, [some (.ref 598), some (.int (iI b))], [.int (iI (bI ((0 ≤ b ∧ b < A 0) ∧ A (46 + 6 * b + 5) < 3)))], MX L t s l) _
  refine wi_beq hc rfl (fun h1_ => ?_) (fun h1_ => ?_)
  · refine wi_ic hc rfl ?_
    refine wi_ri hc rfl (by rw [cm_277]; rfl) ?_
    have hR : theftP A T b = (-1) := by unfold theftP; rw [if_neg (by omega)]
    rw [hR]
    exact ⟨s, l, rfl, fun c _ => rfl, fun c _ => rfl, fun k _ => rfl, hJ⟩
  · refine wi_a1 hc rfl rfl ?_
    refine wi_i1 hc rfl rfl ?_
    obtain ⟨s1_, l1_, hE1_, hF1_, hG1_, hf1_, hJ1_⟩ := sp_276 (d := 0) (L := L) (t := t) (l := l) hJ hK (b := b) (by omega) (by omega) rfl (by omega)
    refine wp_cv (b := 598) (As := [.int (iI b)]) (r := []) hc rfl (by rw [cm_276]; rfl) rfl (Nat.le_of_ble_eq_true rfl) (show 598 < 621 by decide) (by rw [cm_276]; rfl) (ev_mono hE1_ (by omega)) ?_
    show mm_wp _ _ (13, [some (.ref 598), some (.int (iI b))], [.int (iI (theftV A T b))], MX L t s1_ l1_) _
    refine wi_go hc rfl ?_
    refine wi_ri hc rfl (by rw [cm_277]; rfl) ?_
    have hR : theftP A T b = theftV A T b := by unfold theftP; rw [if_pos (by omega)]
    rw [hR]
    exact ⟨s1_, l1_, rfl, fun c hc9_ => hF1_ c (by omega), fun c hc9_ => hG1_ c (by omega), hf1_, hJ1_⟩
theorem sp_278 {d L t : Nat} {s l : Nat → Int → Int} {A T : Int → Int} (hJ : JM s A T) (hK : KA A T) {x : Int} (hx : rI x) : ∃ s1 l1, mm_Ev mm_ct mm_CM (d + 10) 278 [.ref 598, .int (iI x)] (MX L t s l) (some (.int (iI (chpP A T x))), MX L t s1 l1) ∧ (∀ c, c ≠ 598 ∧ c ≠ 604 ∧ c ≠ 606 ∧ c ≠ 607 ∧ c ≠ 608 ∧ c ≠ 620 → s1 c = s c) ∧ (∀ c, c ≠ 605 → l1 c = l c) ∧ (∀ k, k ≠ 28 → s1 598 k = s 598 k) ∧ JM s1 A T := by
  have hc : (mm_CM 278).2.2.2.2.2.2.2 = mm_cf cd_278 := by rw [cm_278]; rfl
  refine ev_xsl ?_
  refine ev_to (mx := 6) (by rw [cm_278]; decide) (by rw [cm_278]; rfl) (by show 2 ≤ _; decide) ?_
  show mm_wp _ _ (0, [some (.ref 598), some (.int (iI x)), none, none, none, none], [], MX L t s l) (fun res => ∃ s1 l1, res = (some (.int (iI (chpP A T x))), MX L t s1 l1) ∧ (∀ c, c ≠ 598 ∧ c ≠ 604 ∧ c ≠ 606 ∧ c ≠ 607 ∧ c ≠ 608 ∧ c ≠ 620 → s1 c = s c) ∧ (∀ c, c ≠ 605 → l1 c = l c) ∧ (∀ k, k ≠ 28 → s1 598 k = s 598 k) ∧ JM s1 A T)
  have hV := hK.1
  have hB := hK.2.1
  have g0 := hB.1
  have h1 := hK.2.2.1.1
  refine wi_i1 hc rfl rfl ?_
  refine wp_cs (As := [.int (iI x)]) (r := []) hc rfl (by rw [cm_152]; rfl) rfl (Nat.le_of_ble_eq_true rfl) (ev_mono (sp_152 (d := 0) hx) (by omega)) ?_
  show mm_wp _ _ (4, [some (.ref 598), some (.int (iI x)), none, none, none, none], [.int (iI (bI (0 ≤ x ∧ x ≤ 2)))], MX L t s l) _
  refine wi_bne hc rfl (fun h1_ => ?_) (fun h1_ => ?_)
  · have gm := hB.2.1 x (by omega) (by omega)
    refine wi_ic hc rfl ?_
    refine wi_is1 (L' := [some (.ref 598), some (.int (iI x)), some (.int (iI (-1))), none, none, none]) hc rfl (Nat.le_of_ble_eq_true rfl) rfl ?_
    refine wi_ldw (z := 1000000) hc rfl rfl ?_
    refine wi_is1 (L' := [some (.ref 598), some (.int (iI x)), some (.int (iI (-1))), some (.int (iI 1000000)), none, none]) hc rfl (Nat.le_of_ble_eq_true rfl) rfl ?_
    refine wi_ic hc rfl ?_
    refine wi_is2 (L' := [some (.ref 598), some (.int (iI x)), some (.int (iI (-1))), some (.int (iI 1000000)), some (.int (iI 0)), none]) hc rfl (Nat.le_of_ble_eq_true rfl) rfl ?_
    have loop18_ : ∀ i : Int, i ≤ A 0 → 0 ≤ i → ∀ (m : Int) (o5 : Option Value) (s2 l2 : Nat → Int → Int), (∀ c, c ≠ 598 ∧ c ≠ 604 ∧ c ≠ 606 ∧ c ≠ 607 ∧ c ≠ 608 ∧ c ≠ 620 → s2 c = s c) → (∀ c, c ≠ 605 → l2 c = l c) → (∀ k, k ≠ 28 → s2 598 k = s 598 k) → JM s2 A T → m = (if (chpN A T x i.toNat).1 = -1 then 1000000 else (chpN A T x i.toNat).2) → mm_wp (mm_Ev mm_ct mm_CM (d + 9)) 278 (18, [some (.ref 598), some (.int (iI x)), some (.int (iI ((chpN A T x i.toNat).1))), some (.int (iI m)), some (.int (iI i)), o5], [], MX L t s2 l2) (fun res => ∃ s1 l1, res = (some (.int (iI (chpP A T x))), MX L t s1 l1) ∧ (∀ c, c ≠ 598 ∧ c ≠ 604 ∧ c ≠ 606 ∧ c ≠ 607 ∧ c ≠ 608 ∧ c ≠ 620 → s1 c = s c) ∧ (∀ c, c ≠ 605 → l1 c = l c) ∧ (∀ k, k ≠ 28 → s1 598 k = s 598 k) ∧ JM s1 A T) := by
      refine up_ind ?_
      intro i hi9 ih i0 m o5 s2 l2 hF2 hG2 hf2 hJ2 hm9
      have hch := chpN_r A T x i.toNat
      refine wi_i2 hc rfl rfl ?_
      refine wi_a1 hc rfl rfl ?_
      refine wi_gr (w := 599) hc rfl rfl (by decide) (Nat.le_of_ble_eq_true rfl) rfl ?_
      refine wi_ic hc rfl ?_
      refine wi_ildv (N := 3642) hc rfl rfl (by decide) (by decide) (by omega) (by omega) (v := A 0) (congrFun (hJ2.1) _) ?_
      refine wi_cge hc rfl ⟨by omega, by omega⟩ ⟨by omega, by omega⟩ (fun h2_ => ?_) (fun h2_ => ?_)
      · refine wi_i1 hc rfl rfl ?_
        refine wi_ri hc rfl (by rw [cm_278]; rfl) ?_
        have ei : i = A 0 := by omega
        have hR : chpP A T x = (chpN A T x i.toNat).1 := by unfold chpP; rw [if_pos (by omega), ei]
        rw [hR]
        exact ⟨s2, l2, rfl, fun c hc9_ => hF2 c (by omega), fun c hc9_ => hG2 c (by omega), hf2, hJ2⟩
      · have gw := (hB.2.2.2.2 i i0 (by omega)).1
        refine wi_a1 hc rfl rfl ?_
        refine wi_i2 hc rfl rfl ?_
        refine wi_ic hc rfl ?_
        refine wp_cv (b := 598) (As := [.int (iI i), .int (iI 5)]) (r := []) hc rfl (by rw [cm_153]; rfl) rfl (Nat.le_of_ble_eq_true rfl) (show 598 < 621 by decide) (by rw [cm_153]; rfl) (ev_mono (sg_153 (d := 0) (hJ2.1) (by omega) (by omega) (by omega) (by omega)) (by omega)) ?_
        show mm_wp _ _ (36, [some (.ref 598), some (.int (iI x)), some (.int (iI ((chpN A T x i.toNat).1))), some (.int (iI m)), some (.int (iI i)), o5], [.int (iI (A (46 + 6 * i + 5)))], MX L t s2 l2) _
        refine wi_i1 hc rfl rfl ?_
        refine wi_ceq hc rfl ⟨by omega, by omega⟩ hx (fun h3_ => ?_) (fun h3_ => ?_)
        · refine wi_a1 hc rfl rfl ?_
          refine wi_i2 hc rfl rfl ?_
          obtain ⟨s1_, l1_, hE1_, hF1_, hG1_, hf1_, hJ1_⟩ := sp_276 (d := 0) (L := L) (t := t) (l := l2) hJ2 hK (b := i) (by omega) (by omega) (show A (46 + 6 * i + 5) = x by omega) (by omega)
          refine wp_cv (b := 598) (As := [.int (iI i)]) (r := []) hc rfl (by rw [cm_276]; rfl) rfl (Nat.le_of_ble_eq_true rfl) (show 598 < 621 by decide) (by rw [cm_276]; rfl) (ev_mono hE1_ (by omega)) ?_
          show mm_wp _ _ (49, [some (.ref 598), some (.int (iI x)), some (.int (iI ((chpN A T x i.toNat).1))), some (.int (iI m)), some (.int (iI i)), o5], [.int (iI (theftV A T i))], MX L t s1_ l1_) _
          have htr : -1 ≤ theftV A T i ∧ theftV A T i ≤ 9 := by unfold theftV; exact costV_r (by rw [show A (46 + 6 * i + 5) = x by omega]; omega)
          have hmb : (chpN A T x i.toNat).2 ≤ m ∧ m ≤ 1000000 ∧ ((chpN A T x i.toNat).1 = -1 ∨ m = (chpN A T x i.toNat).2) ∧ 0 ≤ m := by rw [hm9]; split <;> omega
          refine wi_is2 (L' := [some (.ref 598), some (.int (iI x)), some (.int (iI ((chpN A T x i.toNat).1))), some (.int (iI m)), some (.int (iI i)), some (.int (iI (theftV A T i)))]) hc rfl (Nat.le_of_ble_eq_true rfl) rfl ?_
          refine wi_i2 hc rfl rfl ?_
          refine wi_zlt hc rfl ⟨by omega, by omega⟩ (fun h4_ => ?_) (fun h4_ => ?_)
          · refine wi_inc (L' := [some (.ref 598), some (.int (iI x)), some (.int (iI ((chpN A T x i.toNat).1))), some (.int (iI m)), some (.int (iI (i + 1))), some (.int (iI (theftV A T i)))]) hc rfl rfl rfl ?_
            refine wi_go hc rfl ?_
            have e8 := chpN_n i0 (A := A) (T := T) (x := x) (by omega)
            have q9 := ih (by omega) (by omega) m (some (.int (iI (theftV A T i)))) s1_ l1_ (fun c hc9_ => (hF1_ c (by omega)).trans (hF2 c (by omega))) (fun c hc9_ => (hG1_ c (by omega)).trans (hG2 c (by omega))) (fun k k9 => (hf1_ k k9).trans (hf2 k k9)) hJ1_ (by rw [e8]; exact hm9)
            rw [e8] at q9
            exact q9
          · refine wi_i2 hc rfl rfl ?_
            refine wi_i1 hc rfl rfl ?_
            refine wi_clt hc rfl ⟨by omega, by omega⟩ ⟨by omega, by omega⟩ (fun h5_ => ?_) (fun h5_ => ?_)
            · refine wi_i2 hc rfl rfl ?_
              refine wi_is1 (L' := [some (.ref 598), some (.int (iI x)), some (.int (iI i)), some (.int (iI m)), some (.int (iI i)), some (.int (iI (theftV A T i)))]) hc rfl (Nat.le_of_ble_eq_true rfl) rfl ?_
              refine wi_i2 hc rfl rfl ?_
              refine wi_is1 (L' := [some (.ref 598), some (.int (iI x)), some (.int (iI i)), some (.int (iI (theftV A T i))), some (.int (iI i)), some (.int (iI (theftV A T i)))]) hc rfl (Nat.le_of_ble_eq_true rfl) rfl ?_
              refine wi_inc (L' := [some (.ref 598), some (.int (iI x)), some (.int (iI i)), some (.int (iI (theftV A T i))), some (.int (iI (i + 1))), some (.int (iI (theftV A T i)))]) hc rfl rfl rfl ?_
              refine wi_go hc rfl ?_
              have e8 := chpN_y i0 (A := A) (T := T) (x := x) ⟨by omega, by omega, by omega⟩
              have e9 : i = (chpN A T x (i + 1).toNat).1 := by rw [e8]
              have q9 := ih (by omega) (by omega) (theftV A T i) (some (.int (iI (theftV A T i)))) s1_ l1_ (fun c hc9_ => (hF1_ c (by omega)).trans (hF2 c (by omega))) (fun c hc9_ => (hG1_ c (by omega)).trans (hG2 c (by omega))) (fun k k9 => (hf1_ k k9).trans (hf2 k k9)) hJ1_ (by rw [e8]; show theftV A T i = if i = -1 then 1000000 else theftV A T i; rw [if_neg (by omega)])
              rw [← e9] at q9
              exact q9
            · refine wi_go hc rfl ?_
              refine wi_inc (L' := [some (.ref 598), some (.int (iI x)), some (.int (iI ((chpN A T x i.toNat).1))), some (.int (iI m)), some (.int (iI (i + 1))), some (.int (iI (theftV A T i)))]) hc rfl rfl rfl ?_
              refine wi_go hc rfl ?_
              have e8 := chpN_n i0 (A := A) (T := T) (x := x) (by omega)
              have q9 := ih (by omega) (by omega) m (some (.int (iI (theftV A T i)))) s1_ l1_ (fun c hc9_ => (hF1_ c (by omega)).trans (hF2 c (by omega))) (fun c hc9_ => (hG1_ c (by omega)).trans (hG2 c (by omega))) (fun k k9 => (hf1_ k k9).trans (hf2 k k9)) hJ1_ (by rw [e8]; exact hm9)
              rw [e8] at q9
              exact q9
        · refine wi_go hc rfl ?_
          refine wi_inc (L' := [some (.ref 598), some (.int (iI x)), some (.int (iI ((chpN A T x i.toNat).1))), some (.int (iI m)), some (.int (iI (i + 1))), o5]) hc rfl rfl rfl ?_
          refine wi_go hc rfl ?_
          have e8 := chpN_n i0 (A := A) (T := T) (x := x) (by omega)
          have q9 := ih (by omega) (by omega) m (o5) s2 l2 (fun c hc9_ => hF2 c (by omega)) (fun c hc9_ => hG2 c (by omega)) (hf2) hJ2 (by rw [e8]; exact hm9)
          rw [e8] at q9
          exact q9
    exact loop18_ 0 (by omega) (by omega) 1000000 _ s l (fun c _ => rfl) (fun c _ => rfl) (fun k _ => rfl) hJ rfl
  · refine wi_ic hc rfl ?_
    refine wi_ri hc rfl (by rw [cm_278]; rfl) ?_
    have hR : chpP A T x = -1 := by unfold chpP; rw [if_neg (by omega)]
    rw [hR]
    exact ⟨s, l, rfl, fun c _ => rfl, fun c _ => rfl, fun k _ => rfl, hJ⟩
