/-! The class's CALM, BASIN, NEVER. -/
def mS (S : Int) : Nat := (blN S.toNat 10).length
def isS (A : Int → Int) (S : Int) : Prop := (0 < S ∧ S < 2 ^ (A 0).toNat) ∧ popI S ≤ 6
theorem mS_7 {S : Int} (h0 : 0 ≤ S) (h1 : S < 1024) (h : popI S ≤ 6) : mS S < 7 ∧ ((mS S : Nat) : Int) = popI S := by
  have := popI_len h0 h1
  unfold mS
  omega
theorem isS_1 {A : Int → Int} {S : Int} (hA : 0 ≤ A 0 ∧ A 0 ≤ 10) (h : (0 < S ∧ S < 2 ^ (A 0).toNat) ∧ popI S ≤ 6) : (0 ≤ S ∧ S < 1024) ∧ mS S < 7 := by
  have := pw_10 hA.1 hA.2
  exact ⟨⟨by omega, by omega⟩, (mS_7 (by omega) (by omega) h.2).1⟩
def calmP (A T : Int → Int) (S i p : Int) : Int := if (0 < S ∧ S < 2 ^ (A 0).toNat) ∧ popI S ≤ 6 then (if i = -1 then cntO (cF A T) S (mS S) (fct (mS S)) else if 0 ≤ fdO (cF A T) S (mS S) i ∧ 0 ≤ p ∧ p < mS S then elF S (dgI (mS S) (fdO (cF A T) S (mS S) i) p) else -1) else -1
def basinP (A T : Int → Int) (S i : Int) : Int := if (0 < S ∧ S < 2 ^ (A 0).toNat) ∧ popI S ≤ 6 then (if fdO (cF A T) S (mS S) i = -1 then -1 else cgO (cF A T) S (mS S) (fdO (cF A T) S (mS S) i) (fct (mS S))) else -1
def neverP (A T : Int → Int) (S : Int) : Int := if (0 < S ∧ S < 2 ^ (A 0).toNat) ∧ popI S ≤ 6 then cgO (cF A T) S (mS S) (-1) (fct (mS S)) else -1
theorem sp_39 {d L t : Nat} {s l : Nat → Int → Int} {S : Int} {m : Nat} (S0 : 0 ≤ S) (S1 : S < 1024) (hm : (blN S.toNat 10).length = m) (m7 : m < 7) (hFc : FcH s) (hS : s 594 2 = S) (hM : s 594 3 = (m : Int)) (hN : s 594 4 = ((fct m : Nat) : Int)) {c : Int → Int → Int} (hC : CHc s c S) (h01 : ∀ x y, c x y = 0 ∨ c x y = 1) {g : Int} (hg : rI g) : ∃ s1, mm_Ev mm_ct mm_CM (d + 7) 39 [.ref 594, .ref 590, .int (iI g)] (MX L t s l) (some (.int (iI (cgO c S m g (fct m)))), MX L t s1 l) ∧ (∀ c, c ≠ 595 ∧ c ≠ 596 → s1 c = s c) := by
  have hc : (mm_CM 39).2.2.2.2.2.2.2 = mm_cf cd_39 := by rw [cm_39]; rfl
  refine ev_xs ?_
  refine ev_to (mx := 5) (by rw [cm_39]; decide) (by rw [cm_39]; rfl) (by show 3 ≤ _; decide) ?_
  show mm_wp _ _ (0, [some (.ref 594), some (.ref 590), some (.int (iI g)), none, none], [], MX L t s l) (fun res => ∃ s1, res = (some (.int (iI (cgO c S m g (fct m)))), MX L t s1 l) ∧ (∀ c, c ≠ 595 ∧ c ≠ 596 → s1 c = s c))
  have hfm := fct_r m
  refine wi_ic hc rfl ?_
  refine wi_is1 (L' := [some (.ref 594), some (.ref 590), some (.int (iI g)), some (.int (iI 0)), none]) hc rfl (Nat.le_of_ble_eq_true rfl) rfl ?_
  have loop2_ : ∀ x : Int, x ≤ 2 * ((fct m : Nat) : Int) → 0 ≤ x → ∀ s2 : Nat → Int → Int, (∀ c, c ≠ 595 ∧ c ≠ 596 → s2 c = s c) → (∀ z, 0 ≤ z → z < x → s2 595 z = -2) → mm_wp (mm_Ev mm_ct mm_CM (d + 6)) 39 (2, [some (.ref 594), some (.ref 590), some (.int (iI g)), some (.int (iI x)), none], [], MX L t s2 l) (fun res => ∃ s1, res = (some (.int (iI (cgO c S m g (fct m)))), MX L t s1 l) ∧ (∀ c, c ≠ 595 ∧ c ≠ 596 → s1 c = s c)) := by
    refine up_ind ?_
    intro x hx9 ih x0 s2 hF2 hz2
    refine wi_i1 hc rfl rfl ?_
    refine wi_ic hc rfl ?_
    refine wi_a1 hc rfl rfl ?_
    refine wi_gfv (kz := 4) rfl hc rfl rfl (by decide) (Nat.le_of_ble_eq_true rfl) rfl (v := ((fct m : Nat) : Int)) ((congrFun (hF2 594 (by decide)) _).trans hN) ?_
    refine wi_mul hc rfl ?_
    refine wi_cge hc rfl ⟨by omega, by omega⟩ ⟨by omega, by omega⟩ (fun h1_ => ?_) (fun h1_ => ?_)
    · refine wi_ic hc rfl ?_
      refine wi_is1 (L' := [some (.ref 594), some (.ref 590), some (.int (iI g)), some (.int (iI 0)), none]) hc rfl (Nat.le_of_ble_eq_true rfl) rfl ?_
      refine wi_ic hc rfl ?_
      refine wi_is2 (L' := [some (.ref 594), some (.ref 590), some (.int (iI g)), some (.int (iI 0)), some (.int (iI 0))]) hc rfl (Nat.le_of_ble_eq_true rfl) rfl ?_
      have loop31_ : ∀ k : Int, k ≤ ((fct m : Nat) : Int) → 0 ≤ k → ∀ s3 : Nat → Int → Int, (∀ c, c ≠ 595 ∧ c ≠ 596 → s3 c = s c) → GI c S m (s3 595) → mm_wp (mm_Ev mm_ct mm_CM (d + 6)) 39 (31, [some (.ref 594), some (.ref 590), some (.int (iI g)), some (.int (iI (cgO c S m g k.toNat))), some (.int (iI k))], [], MX L t s3 l) (fun res => ∃ s1, res = (some (.int (iI (cgO c S m g (fct m)))), MX L t s1 l) ∧ (∀ c, c ≠ 595 ∧ c ≠ 596 → s1 c = s c)) := by
        refine up_ind ?_
        intro k hk9 ih k0 s3 hF3 hG3
        have hct := cgO_r c S m g k.toNat
        refine wi_i2 hc rfl rfl ?_
        refine wi_a1 hc rfl rfl ?_
        refine wi_gfv (kz := 4) rfl hc rfl rfl (by decide) (Nat.le_of_ble_eq_true rfl) rfl (v := ((fct m : Nat) : Int)) ((congrFun (hF3 594 (by decide)) _).trans hN) ?_
        refine wi_cge hc rfl ⟨by omega, by omega⟩ ⟨by omega, by omega⟩ (fun h2_ => ?_) (fun h2_ => ?_)
        · refine wi_i1 hc rfl rfl ?_
          refine wi_ri hc rfl (by rw [cm_39]; rfl) ?_
          rw [show fct m = k.toNat by omega]
          exact ⟨s3, rfl, hF3⟩
        · refine wi_a1 hc rfl rfl ?_
          refine wi_a1 hc rfl rfl ?_
          refine wi_ic hc rfl ?_
          refine wi_i2 hc rfl rfl ?_
          refine wi_mul hc rfl ?_
          obtain ⟨s1_, hE1_, hF1_, hGI1_⟩ := sp_40 (d := 0) (L := L) (t := t) (l := l) S0 S1 hm m7 (hFc.of (hF3 1000000 (by decide))) ((congrFun (hF3 594 (by decide)) _).trans hS) ((congrFun (hF3 594 (by decide)) _).trans hM) ((congrFun (hF3 594 (by decide)) _).trans hN) (hC.of (hF3 592 (by decide))) h01 hG3 (x := 2 * k) (by omega) (by omega)
          refine wp_cv (b := 594) (As := [.ref 590, .int (iI (2 * k))]) (r := []) hc rfl (by rw [cm_40]; rfl) rfl (Nat.le_of_ble_eq_true rfl) (show 594 < 621 by decide) (by rw [cm_40]; rfl) (ev_mono hE1_ (by omega)) ?_
          have hgsr := Gs_r (c := c) (S := S) m7 (x := 2 * k) (by omega) (by omega)
          show mm_wp _ _ (49, [some (.ref 594), some (.ref 590), some (.int (iI g)), some (.int (iI (cgO c S m g k.toNat))), some (.int (iI k))], [.int (iI (Gs c S m (2 * k)))], MX L t s1_ l) _
          refine wi_i1 hc rfl rfl ?_
          refine wi_cne hc rfl ⟨by omega, by omega⟩ hg (fun h3_ => ?_) (fun h3_ => ?_)
          · refine wi_inc (L' := [some (.ref 594), some (.ref 590), some (.int (iI g)), some (.int (iI (cgO c S m g k.toNat))), some (.int (iI (k + 1)))]) hc rfl rfl rfl ?_
            refine wi_go hc rfl ?_
            have e9 : cgO c S m g k.toNat = cgO c S m g (k + 1).toNat := by rw [cgO_s k0, if_neg (by omega)]; omega
            rw [e9]
            exact ih (by omega) (by omega) s1_ (fun c hc9_ => (hF1_ c (by omega)).trans (hF3 c (by omega))) hGI1_
          · refine wi_inc (L' := [some (.ref 594), some (.ref 590), some (.int (iI g)), some (.int (iI (cgO c S m g k.toNat + 1))), some (.int (iI k))]) hc rfl rfl rfl ?_
            refine wi_inc (L' := [some (.ref 594), some (.ref 590), some (.int (iI g)), some (.int (iI (cgO c S m g k.toNat + 1))), some (.int (iI (k + 1)))]) hc rfl rfl rfl ?_
            refine wi_go hc rfl ?_
            have e9 : cgO c S m g k.toNat + 1 = cgO c S m g (k + 1).toNat := by rw [cgO_s k0, if_pos (by omega)]
            rw [e9]
            exact ih (by omega) (by omega) s1_ (fun c hc9_ => (hF1_ c (by omega)).trans (hF3 c (by omega))) hGI1_
      exact loop31_ 0 (by omega) (by omega) s2 hF2 (fun z z0 z1 => Or.inl (hz2 z z0 (by omega)))
    · refine wi_a1 hc rfl rfl ?_
      refine wi_gr (w := 595) hc rfl rfl (by decide) (Nat.le_of_ble_eq_true rfl) rfl ?_
      refine wi_i1 hc rfl rfl ?_
      refine wi_bi hc rfl rfl ?_
      refine wi_ist (N := 1440) hc rfl rfl (by decide) (by decide) (by omega) (by omega) ?_
      obtain ⟨s2_, es2_⟩ : ∃ q, q = up s2 595 x (-2) := ⟨_, rfl⟩
      rw [← es2_]
      refine wi_inc (L' := [some (.ref 594), some (.ref 590), some (.int (iI g)), some (.int (iI (x + 1))), none]) hc rfl rfl rfl ?_
      refine wi_go hc rfl ?_
      refine ih (by omega) (by omega) s2_ (fun c hc9_ => ((congrFun es2_ c).trans (up_cc (by omega))).trans (hF2 c (by omega))) (fun z z0 z1 => ?_)
      rw [es2_, up_ite]
      split
      · rfl
      · exact hz2 z z0 (by omega)
  exact loop2_ 0 (by omega) (by omega) s (fun c _ => rfl) (fun z z0 z1 => by omega)
theorem sp_108 {d L t : Nat} {s l : Nat → Int → Int} {A T : Int → Int} (hJ : JC s A T) (hK : KA A T) (hFc : FcH s) {S i p : Int} (hS : rI S) (hi : rI i) (hp : rI p) : ∃ s1, mm_Ev mm_ct mm_CM (d + 6) 108 [.ref 0, .int (iI S), .int (iI i), .int (iI p)] (MX L t s l) (some (.int (iI (calmP A T S i p))), MX L t s1 l) ∧ (∀ c, c ≠ 578 ∧ c ≠ 579 ∧ c ≠ 592 ∧ c ≠ 594 ∧ c ≠ 595 ∧ c ≠ 596 → s1 c = s c) ∧ JC s1 A T := by
  have hc : (mm_CM 108).2.2.2.2.2.2.2 = mm_cf cd_108 := by rw [cm_108]; rfl
  refine ev_xs ?_
  refine ev_to (mx := 5) (by rw [cm_108]; decide) (by rw [cm_108]; rfl) (by show 4 ≤ _; decide) ?_
  show mm_wp _ _ (0, [some (.ref 0), some (.int (iI S)), some (.int (iI i)), some (.int (iI p)), none], [], MX L t s l) (fun res => ∃ s1, res = (some (.int (iI (calmP A T S i p))), MX L t s1 l) ∧ (∀ c, c ≠ 578 ∧ c ≠ 579 ∧ c ≠ 592 ∧ c ≠ 594 ∧ c ≠ 595 ∧ c ≠ 596 → s1 c = s c) ∧ JC s1 A T)
  have hV := hK.1
  have hB := hK.2.1
  have g0 := hB.1
  have hpw := pw_10 g0.1 g0.2
  refine wi_a1 hc rfl rfl ?_
  refine wi_i1 hc rfl rfl ?_
  refine wp_cv (b := 0) (As := [.int (iI S)]) (r := []) hc rfl (by rw [cm_133]; rfl) rfl (Nat.le_of_ble_eq_true rfl) (show 0 < 621 by decide) (by rw [cm_133]; rfl) (ev_mono (sp_133 (d := 0) hJ hK (m := S) hS) (by omega)) ?_
  show mm_wp _ _ (5, [some (.ref 0), some (.int (iI S)), some (.int (iI i)), some (.int (iI p)), none], [.int (iI (bI ((0 < S ∧ S < 2 ^ (A 0).toNat) ∧ popI S ≤ 6)))], MX L t s l) _
  refine wi_bne hc rfl (fun h1_ => ?_) (fun h1_ => ?_)
  · refine wi_a1 hc rfl rfl ?_
    refine wi_gr (w := 590) hc rfl rfl (by decide) (Nat.le_of_ble_eq_true rfl) rfl ?_
    refine wi_a1 hc rfl rfl ?_
    refine wi_gr (w := 1) hc rfl rfl (by decide) (Nat.le_of_ble_eq_true rfl) rfl ?_
    refine wi_a1 hc rfl rfl ?_
    refine wi_gr (w := 577) hc rfl rfl (by decide) (Nat.le_of_ble_eq_true rfl) rfl ?_
    refine wi_i1 hc rfl rfl ?_
    have hs9 := isS_1 g0 (by assumption)
    have hS0 := hs9.1.1
    have hS1 := hs9.1.2
    have hm7 := hs9.2
    obtain ⟨m, hm⟩ : ∃ m9, m9 = mS S := ⟨_, rfl⟩
    rw [← hm] at hm7
    have hfm := fct_r m
    obtain ⟨s1_, hE1_, hF1_, hJ1_, hC1_⟩ := sp_16 (d := 0) (L := L) (t := t) (l := l) hJ hK (set := S) (by omega) (by omega)
    refine wp_cv (b := 590) (As := [.ref 1, .ref 577, .int (iI S)]) (r := []) hc rfl (by rw [cm_16]; rfl) rfl (Nat.le_of_ble_eq_true rfl) (show 590 < 621 by decide) (by rw [cm_16]; rfl) (ev_mono hE1_ (by omega)) ?_
    show mm_wp _ _ (26, [some (.ref 0), some (.int (iI S)), some (.int (iI i)), some (.int (iI p)), none], [], MX L t s1_ l) _
    refine wi_a1 hc rfl rfl ?_
    refine wi_gr (w := 594) hc rfl rfl (by decide) (Nat.le_of_ble_eq_true rfl) rfl ?_
    refine wi_i1 hc rfl rfl ?_
    obtain ⟨s2_, hE2_, hF2_, hS2_, hM2_, hN2_⟩ := sp_33 (d := 0) (L := L) (t := t) (l := l) (S := S) (m := m) hS0 hS1 hm.symm hm7 (hFc.of (hF1_ 1000000 (by decide)))
    refine wp_cv (b := 594) (As := [.int (iI S)]) (r := []) hc rfl (by rw [cm_33]; rfl) rfl (Nat.le_of_ble_eq_true rfl) (show 594 < 621 by decide) (by rw [cm_33]; rfl) (ev_mono hE2_ (by omega)) ?_
    have hFc9 : FcH s2_ := hFc.of ((hF2_ 1000000 (by decide)).trans (hF1_ 1000000 (by decide)))
    have hS9 := hS2_
    have hM9 := hM2_
    have hN9 : s2_ 594 4 = ((fct m : Nat) : Int) := by rw [hN2_]; unfold fI; rw [Int.toNat_natCast]
    have hC9 : CHc s2_ (cF A T) S := hC1_.of (hF2_ 592 (by decide))
    have hJ2_ : JC s2_ A T := hJ1_.of hV (fun e h1_ h2_ => hF2_ e (by omega)) (hF2_ 578 (by decide))
    show mm_wp _ _ (34, [some (.ref 0), some (.int (iI S)), some (.int (iI i)), some (.int (iI p)), none], [], MX L t s2_ l) _
    refine wi_i1 hc rfl rfl ?_
    refine wi_ic hc rfl ?_
    refine wi_cne hc rfl hi ⟨by decide, by decide⟩ (fun h2_ => ?_) (fun h2_ => ?_)
    · refine wi_a1 hc rfl rfl ?_
      refine wi_gr (w := 594) hc rfl rfl (by decide) (Nat.le_of_ble_eq_true rfl) rfl ?_
      refine wi_a1 hc rfl rfl ?_
      refine wi_gr (w := 590) hc rfl rfl (by decide) (Nat.le_of_ble_eq_true rfl) rfl ?_
      refine wi_i1 hc rfl rfl ?_
      refine wp_cv (b := 594) (As := [.ref 590, .int (iI i)]) (r := []) hc rfl (by rw [cm_38]; rfl) rfl (Nat.le_of_ble_eq_true rfl) (show 594 < 621 by decide) (by rw [cm_38]; rfl) (ev_mono (sp_38 (d := 0) hS0 hS1 hm.symm hm7 hFc9 hS9 hM9 hN9 hC9 (cF_01 A T) (i := i) hi) (by omega)) ?_
      have hfdr := fndO_r (c := cF A T) (S := S) (m := m) (i := i) (fct m) 0 0 (by omega)
      have hfdr : fdO (cF A T) S m i = -1 ∨ (0 ≤ fdO (cF A T) S m i ∧ fdO (cF A T) S m i < 0 + ((fct m : Nat) : Int) ∧ cmO (cF A T) S m (fdO (cF A T) S m i) = 1) := hfdr
      show mm_wp _ _ (63, [some (.ref 0), some (.int (iI S)), some (.int (iI i)), some (.int (iI p)), none], [.int (iI (fdO (cF A T) S m i))], MX L t s2_ l) _
      refine wi_is2 (L' := [some (.ref 0), some (.int (iI S)), some (.int (iI i)), some (.int (iI p)), some (.int (iI (fdO (cF A T) S m i)))]) hc rfl (Nat.le_of_ble_eq_true rfl) rfl ?_
      refine wi_i2 hc rfl rfl ?_
      refine wi_ic hc rfl ?_
      refine wi_ceq hc rfl ⟨by omega, by omega⟩ ⟨by decide, by decide⟩ (fun h3_ => ?_) (fun h3_ => ?_)
      · refine wi_ic hc rfl ?_
        refine wi_ri hc rfl (by rw [cm_108]; rfl) ?_
        have hR : calmP A T S i p = (-1) := by
          unfold calmP
          rw [if_pos (by assumption), ← hm]
          rw [if_neg (by omega), if_neg (by omega)]
        rw [hR]
        exact ⟨s2_, rfl, fun c hc9_ => (hF2_ c (by omega)).trans (hF1_ c (by omega)), hJ2_⟩
      · refine wi_i1 hc rfl rfl ?_
        refine wi_zlt hc rfl hp (fun h4_ => ?_) (fun h4_ => ?_)
        · refine wi_ic hc rfl ?_
          refine wi_ri hc rfl (by rw [cm_108]; rfl) ?_
          have hR : calmP A T S i p = (-1) := by
            unfold calmP
            rw [if_pos (by assumption), ← hm]
            rw [if_neg (by omega), if_neg (by omega)]
          rw [hR]
          exact ⟨s2_, rfl, fun c hc9_ => (hF2_ c (by omega)).trans (hF1_ c (by omega)), hJ2_⟩
        · refine wi_i1 hc rfl rfl ?_
          refine wi_a1 hc rfl rfl ?_
          refine wi_gr (w := 594) hc rfl rfl (by decide) (Nat.le_of_ble_eq_true rfl) rfl ?_
          refine wi_gfv (kz := 3) rfl hc rfl rfl (by decide) (Nat.le_of_ble_eq_true rfl) rfl (v := (m : Int)) (hM9) ?_
          refine wi_clt hc rfl hp ⟨by omega, by omega⟩ (fun h5_ => ?_) (fun h5_ => ?_)
          · refine wi_a1 hc rfl rfl ?_
            refine wi_gr (w := 594) hc rfl rfl (by decide) (Nat.le_of_ble_eq_true rfl) rfl ?_
            refine wi_i2 hc rfl rfl ?_
            have hdg := dg_ok hm7 (n := fdO (cF A T) S m i) (by omega) (by omega)
            refine wp_cv (b := 594) (As := [.int (iI (fdO (cF A T) S m i))]) (r := []) hc rfl (by rw [cm_35]; rfl) rfl (Nat.le_of_ble_eq_true rfl) (show 594 < 621 by decide) (by rw [cm_35]; rfl) (ev_mono (sp_35 (d := 0) hS0 hS1 hm.symm hm7 hFc9 hS9 hM9 (n := fdO (cF A T) S m i) (by omega) (by omega)) (by omega)) ?_
            show mm_wp _ _ (97, [some (.ref 0), some (.int (iI S)), some (.int (iI i)), some (.int (iI p)), some (.int (iI (fdO (cF A T) S m i)))], [.long (lI (rwE (fun p => elF S (dgI m (fdO (cF A T) S m i) p)) (m : Int)))], MX L t s2_ l) _
            refine wi_i1 hc rfl rfl ?_
            refine wp_cs (As := [.long (lI (rwE (fun p => elF S (dgI m (fdO (cF A T) S m i) p)) (m : Int))), .int (iI p)]) (r := []) hc rfl (by rw [cm_127]; rfl) rfl (Nat.le_of_ble_eq_true rfl) (ev_mono (sp_127f (d := 0) (inS_el hS0 hm.symm hdg.1) (by omega) (by omega) (p := p) (by omega) (by omega)) (by omega)) ?_
            show mm_wp _ _ (101, [some (.ref 0), some (.int (iI S)), some (.int (iI i)), some (.int (iI p)), some (.int (iI (fdO (cF A T) S m i)))], [.int (iI (elF S (dgI m (fdO (cF A T) S m i) p)))], MX L t s2_ l) _
            refine wi_ri hc rfl (by rw [cm_108]; rfl) ?_
            have hR : calmP A T S i p = elF S (dgI m (fdO (cF A T) S m i) p) := by
              unfold calmP
              rw [if_pos (by assumption), ← hm]
              rw [if_neg (by omega), if_pos ⟨by omega, by omega, by omega⟩]
            rw [hR]
            exact ⟨s2_, rfl, fun c hc9_ => (hF2_ c (by omega)).trans (hF1_ c (by omega)), hJ2_⟩
          · refine wi_ic hc rfl ?_
            refine wi_ri hc rfl (by rw [cm_108]; rfl) ?_
            have hR : calmP A T S i p = (-1) := by
              unfold calmP
              rw [if_pos (by assumption), ← hm]
              rw [if_neg (by omega), if_neg (by omega)]
            rw [hR]
            exact ⟨s2_, rfl, fun c hc9_ => (hF2_ c (by omega)).trans (hF1_ c (by omega)), hJ2_⟩
    · refine wi_a1 hc rfl rfl ?_
      refine wi_gr (w := 594) hc rfl rfl (by decide) (Nat.le_of_ble_eq_true rfl) rfl ?_
      refine wi_a1 hc rfl rfl ?_
      refine wi_gr (w := 590) hc rfl rfl (by decide) (Nat.le_of_ble_eq_true rfl) rfl ?_
      refine wp_cv (b := 594) (As := [.ref 590]) (r := []) hc rfl (by rw [cm_37]; rfl) rfl (Nat.le_of_ble_eq_true rfl) (show 594 < 621 by decide) (by rw [cm_37]; rfl) (ev_mono (sp_37 (d := 0) hS0 hS1 hm.symm hm7 hFc9 hS9 hM9 hN9 hC9 (cF_01 A T)) (by omega)) ?_
      show mm_wp _ _ (50, [some (.ref 0), some (.int (iI S)), some (.int (iI i)), some (.int (iI p)), none], [.int (iI (cntO (cF A T) S m (fct m)))], MX L t s2_ l) _
      refine wi_ri hc rfl (by rw [cm_108]; rfl) ?_
      have hR : calmP A T S i p = cntO (cF A T) S m (fct m) := by
        unfold calmP
        rw [if_pos (by assumption), ← hm]
        rw [if_pos (by omega)]
      rw [hR]
      exact ⟨s2_, rfl, fun c hc9_ => (hF2_ c (by omega)).trans (hF1_ c (by omega)), hJ2_⟩
  · refine wi_ic hc rfl ?_
    refine wi_ri hc rfl (by rw [cm_108]; rfl) ?_
    have hR : calmP A T S i p = -1 := by unfold calmP; rw [if_neg (by assumption)]
    rw [hR]
    exact ⟨s, rfl, fun c _ => rfl, hJ⟩
theorem sp_109 {d L t : Nat} {s l : Nat → Int → Int} {A T : Int → Int} (hJ : JC s A T) (hK : KA A T) (hFc : FcH s) {S i : Int} (hS : rI S) (hi : rI i) : ∃ s1, mm_Ev mm_ct mm_CM (d + 8) 109 [.ref 0, .int (iI S), .int (iI i)] (MX L t s l) (some (.int (iI (basinP A T S i))), MX L t s1 l) ∧ (∀ c, c ≠ 578 ∧ c ≠ 579 ∧ c ≠ 592 ∧ c ≠ 594 ∧ c ≠ 595 ∧ c ≠ 596 → s1 c = s c) ∧ JC s1 A T := by
  have hc : (mm_CM 109).2.2.2.2.2.2.2 = mm_cf cd_109 := by rw [cm_109]; rfl
  refine ev_xs ?_
  refine ev_to (mx := 4) (by rw [cm_109]; decide) (by rw [cm_109]; rfl) (by show 3 ≤ _; decide) ?_
  show mm_wp _ _ (0, [some (.ref 0), some (.int (iI S)), some (.int (iI i)), none], [], MX L t s l) (fun res => ∃ s1, res = (some (.int (iI (basinP A T S i))), MX L t s1 l) ∧ (∀ c, c ≠ 578 ∧ c ≠ 579 ∧ c ≠ 592 ∧ c ≠ 594 ∧ c ≠ 595 ∧ c ≠ 596 → s1 c = s c) ∧ JC s1 A T)
  have hV := hK.1
  have hB := hK.2.1
  have g0 := hB.1
  have hpw := pw_10 g0.1 g0.2
  refine wi_a1 hc rfl rfl ?_
  refine wi_i1 hc rfl rfl ?_
  refine wp_cv (b := 0) (As := [.int (iI S)]) (r := []) hc rfl (by rw [cm_133]; rfl) rfl (Nat.le_of_ble_eq_true rfl) (show 0 < 621 by decide) (by rw [cm_133]; rfl) (ev_mono (sp_133 (d := 0) hJ hK (m := S) hS) (by omega)) ?_
  show mm_wp _ _ (5, [some (.ref 0), some (.int (iI S)), some (.int (iI i)), none], [.int (iI (bI ((0 < S ∧ S < 2 ^ (A 0).toNat) ∧ popI S ≤ 6)))], MX L t s l) _
  refine wi_bne hc rfl (fun h1_ => ?_) (fun h1_ => ?_)
  · refine wi_a1 hc rfl rfl ?_
    refine wi_gr (w := 590) hc rfl rfl (by decide) (Nat.le_of_ble_eq_true rfl) rfl ?_
    refine wi_a1 hc rfl rfl ?_
    refine wi_gr (w := 1) hc rfl rfl (by decide) (Nat.le_of_ble_eq_true rfl) rfl ?_
    refine wi_a1 hc rfl rfl ?_
    refine wi_gr (w := 577) hc rfl rfl (by decide) (Nat.le_of_ble_eq_true rfl) rfl ?_
    refine wi_i1 hc rfl rfl ?_
    have hs9 := isS_1 g0 (by assumption)
    have hS0 := hs9.1.1
    have hS1 := hs9.1.2
    have hm7 := hs9.2
    obtain ⟨m, hm⟩ : ∃ m9, m9 = mS S := ⟨_, rfl⟩
    rw [← hm] at hm7
    have hfm := fct_r m
    obtain ⟨s1_, hE1_, hF1_, hJ1_, hC1_⟩ := sp_16 (d := 0) (L := L) (t := t) (l := l) hJ hK (set := S) (by omega) (by omega)
    refine wp_cv (b := 590) (As := [.ref 1, .ref 577, .int (iI S)]) (r := []) hc rfl (by rw [cm_16]; rfl) rfl (Nat.le_of_ble_eq_true rfl) (show 590 < 621 by decide) (by rw [cm_16]; rfl) (ev_mono hE1_ (by omega)) ?_
    show mm_wp _ _ (26, [some (.ref 0), some (.int (iI S)), some (.int (iI i)), none], [], MX L t s1_ l) _
    refine wi_a1 hc rfl rfl ?_
    refine wi_gr (w := 594) hc rfl rfl (by decide) (Nat.le_of_ble_eq_true rfl) rfl ?_
    refine wi_i1 hc rfl rfl ?_
    obtain ⟨s2_, hE2_, hF2_, hS2_, hM2_, hN2_⟩ := sp_33 (d := 0) (L := L) (t := t) (l := l) (S := S) (m := m) hS0 hS1 hm.symm hm7 (hFc.of (hF1_ 1000000 (by decide)))
    refine wp_cv (b := 594) (As := [.int (iI S)]) (r := []) hc rfl (by rw [cm_33]; rfl) rfl (Nat.le_of_ble_eq_true rfl) (show 594 < 621 by decide) (by rw [cm_33]; rfl) (ev_mono hE2_ (by omega)) ?_
    have hFc9 : FcH s2_ := hFc.of ((hF2_ 1000000 (by decide)).trans (hF1_ 1000000 (by decide)))
    have hS9 := hS2_
    have hM9 := hM2_
    have hN9 : s2_ 594 4 = ((fct m : Nat) : Int) := by rw [hN2_]; unfold fI; rw [Int.toNat_natCast]
    have hC9 : CHc s2_ (cF A T) S := hC1_.of (hF2_ 592 (by decide))
    have hJ2_ : JC s2_ A T := hJ1_.of hV (fun e h1_ h2_ => hF2_ e (by omega)) (hF2_ 578 (by decide))
    show mm_wp _ _ (34, [some (.ref 0), some (.int (iI S)), some (.int (iI i)), none], [], MX L t s2_ l) _
    refine wi_a1 hc rfl rfl ?_
    refine wi_gr (w := 594) hc rfl rfl (by decide) (Nat.le_of_ble_eq_true rfl) rfl ?_
    refine wi_a1 hc rfl rfl ?_
    refine wi_gr (w := 590) hc rfl rfl (by decide) (Nat.le_of_ble_eq_true rfl) rfl ?_
    refine wi_i1 hc rfl rfl ?_
    refine wp_cv (b := 594) (As := [.ref 590, .int (iI i)]) (r := []) hc rfl (by rw [cm_38]; rfl) rfl (Nat.le_of_ble_eq_true rfl) (show 594 < 621 by decide) (by rw [cm_38]; rfl) (ev_mono (sp_38 (d := 0) hS0 hS1 hm.symm hm7 hFc9 hS9 hM9 hN9 hC9 (cF_01 A T) (i := i) hi) (by omega)) ?_
    have hfdr := fndO_r (c := cF A T) (S := S) (m := m) (i := i) (fct m) 0 0 (by omega)
    have hfdr : fdO (cF A T) S m i = -1 ∨ (0 ≤ fdO (cF A T) S m i ∧ fdO (cF A T) S m i < 0 + ((fct m : Nat) : Int) ∧ cmO (cF A T) S m (fdO (cF A T) S m i) = 1) := hfdr
    show mm_wp _ _ (46, [some (.ref 0), some (.int (iI S)), some (.int (iI i)), none], [.int (iI (fdO (cF A T) S m i))], MX L t s2_ l) _
    refine wi_is1 (L' := [some (.ref 0), some (.int (iI S)), some (.int (iI i)), some (.int (iI (fdO (cF A T) S m i)))]) hc rfl (Nat.le_of_ble_eq_true rfl) rfl ?_
    refine wi_i1 hc rfl rfl ?_
    refine wi_ic hc rfl ?_
    refine wi_cne hc rfl ⟨by omega, by omega⟩ ⟨by decide, by decide⟩ (fun h2_ => ?_) (fun h2_ => ?_)
    · refine wi_a1 hc rfl rfl ?_
      refine wi_gr (w := 594) hc rfl rfl (by decide) (Nat.le_of_ble_eq_true rfl) rfl ?_
      refine wi_a1 hc rfl rfl ?_
      refine wi_gr (w := 590) hc rfl rfl (by decide) (Nat.le_of_ble_eq_true rfl) rfl ?_
      refine wi_i1 hc rfl rfl ?_
      obtain ⟨s3_, hE3_, hF3_⟩ := sp_39 (d := 0) (L := L) (t := t) (l := l) hS0 hS1 hm.symm hm7 hFc9 hS9 hM9 hN9 hC9 (cF_01 A T) (g := fdO (cF A T) S m i) (rI_of (by omega) (by omega))
      refine wp_cv (b := 594) (As := [.ref 590, .int (iI (fdO (cF A T) S m i))]) (r := []) hc rfl (by rw [cm_39]; rfl) rfl (Nat.le_of_ble_eq_true rfl) (show 594 < 621 by decide) (by rw [cm_39]; rfl) (ev_mono hE3_ (by omega)) ?_
      have hJ3_ : JC s3_ A T := hJ2_.of hV (fun e h1_ h2_ => hF3_ e (by omega)) (hF3_ 578 (by decide))
      show mm_wp _ _ (68, [some (.ref 0), some (.int (iI S)), some (.int (iI i)), some (.int (iI (fdO (cF A T) S m i)))], [.int (iI (cgO (cF A T) S m (fdO (cF A T) S m i) (fct m)))], MX L t s3_ l) _
      refine wi_ri hc rfl (by rw [cm_109]; rfl) ?_
      have hR : basinP A T S i = cgO (cF A T) S m (fdO (cF A T) S m i) (fct m) := by
        unfold basinP
        rw [if_pos (by assumption), ← hm]
        rw [if_neg (by omega)]
      rw [hR]
      exact ⟨s3_, rfl, fun c hc9_ => (hF3_ c (by omega)).trans ((hF2_ c (by omega)).trans (hF1_ c (by omega))), hJ3_⟩
    · refine wi_ic hc rfl ?_
      refine wi_go hc rfl ?_
      refine wi_ri hc rfl (by rw [cm_109]; rfl) ?_
      have hR : basinP A T S i = (-1) := by
        unfold basinP
        rw [if_pos (by assumption), ← hm]
        rw [if_pos (by omega)]
      rw [hR]
      exact ⟨s2_, rfl, fun c hc9_ => (hF2_ c (by omega)).trans (hF1_ c (by omega)), hJ2_⟩
  · refine wi_ic hc rfl ?_
    refine wi_ri hc rfl (by rw [cm_109]; rfl) ?_
    have hR : basinP A T S i = -1 := by unfold basinP; rw [if_neg (by assumption)]
    rw [hR]
    exact ⟨s, rfl, fun c _ => rfl, hJ⟩
theorem sp_110 {d L t : Nat} {s l : Nat → Int → Int} {A T : Int → Int} (hJ : JC s A T) (hK : KA A T) (hFc : FcH s) {S : Int} (hS : rI S) : ∃ s1, mm_Ev mm_ct mm_CM (d + 8) 110 [.ref 0, .int (iI S)] (MX L t s l) (some (.int (iI (neverP A T S))), MX L t s1 l) ∧ (∀ c, c ≠ 578 ∧ c ≠ 579 ∧ c ≠ 592 ∧ c ≠ 594 ∧ c ≠ 595 ∧ c ≠ 596 → s1 c = s c) ∧ JC s1 A T := by
  have hc : (mm_CM 110).2.2.2.2.2.2.2 = mm_cf cd_110 := by rw [cm_110]; rfl
  refine ev_xs ?_
  refine ev_to (mx := 2) (by rw [cm_110]; decide) (by rw [cm_110]; rfl) (by show 2 ≤ _; decide) ?_
  show mm_wp _ _ (0, [some (.ref 0), some (.int (iI S))], [], MX L t s l) (fun res => ∃ s1, res = (some (.int (iI (neverP A T S))), MX L t s1 l) ∧ (∀ c, c ≠ 578 ∧ c ≠ 579 ∧ c ≠ 592 ∧ c ≠ 594 ∧ c ≠ 595 ∧ c ≠ 596 → s1 c = s c) ∧ JC s1 A T)
  have hV := hK.1
  have hB := hK.2.1
  have g0 := hB.1
  have hpw := pw_10 g0.1 g0.2
  refine wi_a1 hc rfl rfl ?_
  refine wi_i1 hc rfl rfl ?_
  refine wp_cv (b := 0) (As := [.int (iI S)]) (r := []) hc rfl (by rw [cm_133]; rfl) rfl (Nat.le_of_ble_eq_true rfl) (show 0 < 621 by decide) (by rw [cm_133]; rfl) (ev_mono (sp_133 (d := 0) hJ hK (m := S) hS) (by omega)) ?_
  show mm_wp _ _ (5, [some (.ref 0), some (.int (iI S))], [.int (iI (bI ((0 < S ∧ S < 2 ^ (A 0).toNat) ∧ popI S ≤ 6)))], MX L t s l) _
  refine wi_bne hc rfl (fun h1_ => ?_) (fun h1_ => ?_)
  · refine wi_a1 hc rfl rfl ?_
    refine wi_gr (w := 590) hc rfl rfl (by decide) (Nat.le_of_ble_eq_true rfl) rfl ?_
    refine wi_a1 hc rfl rfl ?_
    refine wi_gr (w := 1) hc rfl rfl (by decide) (Nat.le_of_ble_eq_true rfl) rfl ?_
    refine wi_a1 hc rfl rfl ?_
    refine wi_gr (w := 577) hc rfl rfl (by decide) (Nat.le_of_ble_eq_true rfl) rfl ?_
    refine wi_i1 hc rfl rfl ?_
    have hs9 := isS_1 g0 (by assumption)
    have hS0 := hs9.1.1
    have hS1 := hs9.1.2
    have hm7 := hs9.2
    obtain ⟨m, hm⟩ : ∃ m9, m9 = mS S := ⟨_, rfl⟩
    rw [← hm] at hm7
    have hfm := fct_r m
    obtain ⟨s1_, hE1_, hF1_, hJ1_, hC1_⟩ := sp_16 (d := 0) (L := L) (t := t) (l := l) hJ hK (set := S) (by omega) (by omega)
    refine wp_cv (b := 590) (As := [.ref 1, .ref 577, .int (iI S)]) (r := []) hc rfl (by rw [cm_16]; rfl) rfl (Nat.le_of_ble_eq_true rfl) (show 590 < 621 by decide) (by rw [cm_16]; rfl) (ev_mono hE1_ (by omega)) ?_
    show mm_wp _ _ (26, [some (.ref 0), some (.int (iI S))], [], MX L t s1_ l) _
    refine wi_a1 hc rfl rfl ?_
    refine wi_gr (w := 594) hc rfl rfl (by decide) (Nat.le_of_ble_eq_true rfl) rfl ?_
    refine wi_i1 hc rfl rfl ?_
    obtain ⟨s2_, hE2_, hF2_, hS2_, hM2_, hN2_⟩ := sp_33 (d := 0) (L := L) (t := t) (l := l) (S := S) (m := m) hS0 hS1 hm.symm hm7 (hFc.of (hF1_ 1000000 (by decide)))
    refine wp_cv (b := 594) (As := [.int (iI S)]) (r := []) hc rfl (by rw [cm_33]; rfl) rfl (Nat.le_of_ble_eq_true rfl) (show 594 < 621 by decide) (by rw [cm_33]; rfl) (ev_mono hE2_ (by omega)) ?_
    have hFc9 : FcH s2_ := hFc.of ((hF2_ 1000000 (by decide)).trans (hF1_ 1000000 (by decide)))
    have hS9 := hS2_
    have hM9 := hM2_
    have hN9 : s2_ 594 4 = ((fct m : Nat) : Int) := by rw [hN2_]; unfold fI; rw [Int.toNat_natCast]
    have hC9 : CHc s2_ (cF A T) S := hC1_.of (hF2_ 592 (by decide))
    have hJ2_ : JC s2_ A T := hJ1_.of hV (fun e h1_ h2_ => hF2_ e (by omega)) (hF2_ 578 (by decide))
    show mm_wp _ _ (34, [some (.ref 0), some (.int (iI S))], [], MX L t s2_ l) _
    refine wi_a1 hc rfl rfl ?_
    refine wi_gr (w := 594) hc rfl rfl (by decide) (Nat.le_of_ble_eq_true rfl) rfl ?_
    refine wi_a1 hc rfl rfl ?_
    refine wi_gr (w := 590) hc rfl rfl (by decide) (Nat.le_of_ble_eq_true rfl) rfl ?_
    refine wi_ic hc rfl ?_
    obtain ⟨s3_, hE3_, hF3_⟩ := sp_39 (d := 0) (L := L) (t := t) (l := l) hS0 hS1 hm.symm hm7 hFc9 hS9 hM9 hN9 hC9 (cF_01 A T) (g := (-1)) (rI_of (by omega) (by omega))
    refine wp_cv (b := 594) (As := [.ref 590, .int (iI (-1))]) (r := []) hc rfl (by rw [cm_39]; rfl) rfl (Nat.le_of_ble_eq_true rfl) (show 594 < 621 by decide) (by rw [cm_39]; rfl) (ev_mono hE3_ (by omega)) ?_
    have hJ3_ : JC s3_ A T := hJ2_.of hV (fun e h1_ h2_ => hF3_ e (by omega)) (hF3_ 578 (by decide))
    show mm_wp _ _ (46, [some (.ref 0), some (.int (iI S))], [.int (iI (cgO (cF A T) S m (-1) (fct m)))], MX L t s3_ l) _
    refine wi_ri hc rfl (by rw [cm_110]; rfl) ?_
    have hR : neverP A T S = cgO (cF A T) S m (-1) (fct m) := by
      unfold neverP
      rw [if_pos (by assumption), ← hm]
    rw [hR]
    exact ⟨s3_, rfl, fun c hc9_ => (hF3_ c (by omega)).trans ((hF2_ c (by omega)).trans (hF1_ c (by omega))), hJ3_⟩
  · refine wi_ic hc rfl ?_
    refine wi_ri hc rfl (by rw [cm_110]; rfl) ?_
    have hR : neverP A T S = -1 := by unfold neverP; rw [if_neg (by assumption)]
    rw [hR]
    exact ⟨s, rfl, fun c _ => rfl, hJ⟩
