/-! The model's CALM, BASIN, NEVER. -/
theorem cgO_0 {c : Int → Int → Int} {S : Int} {m : Nat} {g : Int} : ∀ n : Nat, cgO c S m g n = 0 ↔ ∀ j : Nat, j < n → Gs c S m (2 * j) ≠ g
  | 0 => ⟨fun _ j hj => absurd hj (by omega), fun _ => rfl⟩
  | n + 1 => by
    have ih := cgO_0 (c := c) (S := S) (m := m) (g := g) n
    have hr := cgO_r c S m g n
    rw [cgO]
    constructor
    · intro h j hj
      have h0 : cgO c S m g n = 0 := by split at h <;> omega
      rcases (by omega : j < n ∨ j = n) with q | q
      · exact ih.mp h0 j q
      · subst q
        intro e
        rw [if_pos e] at h
        omega
    · intro h
      rw [ih.mpr (fun j hj => h j (by omega)), if_neg (h n (by omega))]
      rfl
theorem sp_263 {d L t : Nat} {s l : Nat → Int → Int} {c : Int → Int → Int} {S : Int} {m : Nat} (m7 : m < 7) (hO : OM m s) (hL : LM c S m s) : mm_Ev mm_ct mm_CM (d + 2) 263 [.ref 598] (MX L t s l) (some (.int (iI (bI (cgO c S m (-1) (fct m) ≠ 0)))), MX L t s l) := by
  have hc : (mm_CM 263).2.2.2.2.2.2.2 = mm_cf cd_263 := by rw [cm_263]; rfl
  refine ev_of (mx := 2) (by rw [cm_263]; decide) (by rw [cm_263]; rfl) (by show 1 ≤ _; decide) ?_
  show mm_wp _ _ (0, [some (.ref 598), none], [], MX L t s l) (fun r => r = (some (.int (iI (bI (cgO c S m (-1) (fct m) ≠ 0)))), MX L t s l))
  have hfm := fct_r m
  refine wi_ic hc rfl ?_
  refine wi_is1 (L' := [some (.ref 598), some (.int (iI 0))]) hc rfl (Nat.le_of_ble_eq_true rfl) rfl ?_
  have loop2_ : ∀ k : Int, k ≤ ((fct m : Nat) : Int) → 0 ≤ k → (∀ j : Nat, (j : Int) < k → Gs c S m (2 * j) ≠ -1) → mm_wp (mm_Ev mm_ct mm_CM (d + 1)) 263 (2, [some (.ref 598), some (.int (iI k))], [], MX L t s l) (fun r => r = (some (.int (iI (bI (cgO c S m (-1) (fct m) ≠ 0)))), MX L t s l)) := by
    refine up_ind ?_
    intro k hk9 ih k0 hno
    refine wi_i1 hc rfl rfl ?_
    refine wi_a1 hc rfl rfl ?_
    refine wi_gfv (kz := 35) rfl hc rfl rfl (by decide) (Nat.le_of_ble_eq_true rfl) rfl (v := ((fct m : Nat) : Int)) (hO.2.1) ?_
    refine wi_cge hc rfl ⟨by omega, by omega⟩ ⟨by omega, by omega⟩ (fun h1_ => ?_) (fun h1_ => ?_)
    · refine wi_ic hc rfl ?_
      refine wi_r0 hc rfl (by rw [cm_263]; rfl) ?_
      rw [bI_f (p := cgO c S m (-1) (fct m) ≠ 0) (fun q => q ((cgO_0 (fct m)).mpr (fun j hj => hno j (by omega))))]
    · refine wi_a1 hc rfl rfl ?_
      refine wi_i1 hc rfl rfl ?_
      refine wp_cv (b := 598) (As := [.int (iI k)]) (r := []) hc rfl (by rw [cm_260]; rfl) rfl (Nat.le_of_ble_eq_true rfl) (show 598 < 621 by decide) (by rw [cm_260]; rfl) (ev_mono (sp_260 (d := 0) m7 hO hL (n := k) (by omega) (by omega)) (by omega)) ?_
      have hgr := Gs_r (c := c) (S := S) (m := m) m7 (x := 2 * k) (by omega) (by omega)
      show mm_wp _ _ (15, [some (.ref 598), some (.int (iI k))], [.int (iI (Gs c S m (2 * k)))], MX L t s l) _
      refine wi_zge hc rfl ⟨by omega, by omega⟩ (fun h2_ => ?_) (fun h2_ => ?_)
      · refine wi_inc (L' := [some (.ref 598), some (.int (iI (k + 1)))]) hc rfl rfl rfl ?_
        refine wi_go hc rfl ?_
        refine ih (by omega) (by omega) (fun j j1 => ?_)
        by_cases q : (j : Int) = k
        · rw [q]; omega
        · exact hno j (by omega)
      · refine wi_ic hc rfl ?_
        refine wi_r1 hc rfl (by rw [cm_263]; rfl) ?_
        rw [bI_t (p := cgO c S m (-1) (fct m) ≠ 0) (fun q => (cgO_0 (fct m)).mp q k.toNat (by omega) (by rw [show ((k.toNat : Nat) : Int) = k by omega]; omega))]
  exact loop2_ 0 (by omega) (by omega) (fun j j1 => by omega)
theorem sp_259 {d L t : Nat} {s l : Nat → Int → Int} {A T : Int → Int} (hJ : JM s A T) (hK : KA A T) {S i p : Int} (hS : rI S) (hi : rI i) (hp : rI p) : ∃ s1 l1, mm_Ev mm_ct mm_CM (d + 9) 259 [.ref 598, .int (iI S), .int (iI i), .int (iI p)] (MX L t s l) (some (.int (iI (calmP A T S i p))), MX L t s1 l1) ∧ (∀ c, c ≠ 598 ∧ c ≠ 604 ∧ c ≠ 606 ∧ c ≠ 607 ∧ c ≠ 610 ∧ c ≠ 611 ∧ c ≠ 612 ∧ c ≠ 613 ∧ c ≠ 614 → s1 c = s c) ∧ (∀ c, c ≠ 605 → l1 c = l c) ∧ (∀ k, k ≠ 34 → k ≠ 35 → s1 598 k = s 598 k) ∧ JM s1 A T := by
  have hc : (mm_CM 259).2.2.2.2.2.2.2 = mm_cf cd_259 := by rw [cm_259]; rfl
  refine ev_xsl ?_
  refine ev_to (mx := 6) (by rw [cm_259]; decide) (by rw [cm_259]; rfl) (by show 4 ≤ _; decide) ?_
  show mm_wp _ _ (0, [some (.ref 598), some (.int (iI S)), some (.int (iI i)), some (.int (iI p)), none, none], [], MX L t s l) (fun res => ∃ s1 l1, res = (some (.int (iI (calmP A T S i p))), MX L t s1 l1) ∧ (∀ c, c ≠ 598 ∧ c ≠ 604 ∧ c ≠ 606 ∧ c ≠ 607 ∧ c ≠ 610 ∧ c ≠ 611 ∧ c ≠ 612 ∧ c ≠ 613 ∧ c ≠ 614 → s1 c = s c) ∧ (∀ c, c ≠ 605 → l1 c = l c) ∧ (∀ k, k ≠ 34 → k ≠ 35 → s1 598 k = s 598 k) ∧ JM s1 A T)
  have hV := hK.1
  have hB := hK.2.1
  have g0 := hB.1
  have hpw := pw_10 g0.1 g0.2
  refine wi_a1 hc rfl rfl ?_
  refine wi_i1 hc rfl rfl ?_
  refine wp_cv (b := 598) (As := [.int (iI S)]) (r := []) hc rfl (by rw [cm_256]; rfl) rfl (Nat.le_of_ble_eq_true rfl) (show 598 < 621 by decide) (by rw [cm_256]; rfl) (ev_mono (sp_256 (d := 0) hJ hK (m := S) hS) (by omega)) ?_
  show mm_wp _ _ (5, [some (.ref 598), some (.int (iI S)), some (.int (iI i)), some (.int (iI p)), none, none], [.int (iI (bI ((0 < S ∧ S < 2 ^ (A 0).toNat) ∧ popI S ≤ 6)))], MX L t s l) _
  refine wi_beq hc rfl (fun h1_ => ?_) (fun h1_ => ?_)
  · refine wi_ic hc rfl ?_
    refine wi_ri hc rfl (by rw [cm_259]; rfl) ?_
    have hR : calmP A T S i p = -1 := by
      unfold calmP
      by_cases q : (0 < S ∧ S < 2 ^ (A 0).toNat) ∧ popI S ≤ 6
      · rw [if_pos q]
        first
          | exact absurd q (by assumption)
          | (have hfn : fdO (cF A T) S (mS S) i = -1 := fndO_neg (by omega) _ _ _ (by omega)
             rw [if_neg (by omega), if_neg (by omega)])
      · rw [if_neg q]
    rw [hR]
    exact ⟨s, l, rfl, fun c _ => rfl, fun c _ => rfl, fun k _ _ => rfl, hJ⟩
  · refine wi_i1 hc rfl rfl ?_
    refine wi_ic hc rfl ?_
    refine wi_cge hc rfl hi ⟨by decide, by decide⟩ (fun h2_ => ?_) (fun h2_ => ?_)
    · refine wi_a1 hc rfl rfl ?_
      refine wi_i1 hc rfl rfl ?_
      have hs9 := isS_1 g0 (by first | assumption | omega)
      have hS0 := hs9.1.1
      have hm7 := hs9.2
      have hfm := fct_r (mS S)
      obtain ⟨s1_, l1_, hE1_, hF1_, hG1_, hk1_, hJ1_, hO9, hM9, hL9, hC9⟩ := sp_257 (d := 0) (L := L) (t := t) (l := l) hJ hK (S := S) hS0 (by omega) hm7
      refine wp_cv (b := 598) (As := [.int (iI S)]) (r := []) hc rfl (by rw [cm_257]; rfl) rfl (Nat.le_of_ble_eq_true rfl) (show 598 < 621 by decide) (by rw [cm_257]; rfl) (ev_mono hE1_ (by omega)) ?_
      show mm_wp _ _ (20, [some (.ref 598), some (.int (iI S)), some (.int (iI i)), some (.int (iI p)), none, none], [], MX L t s1_ l1_) _
      refine wi_i1 hc rfl rfl ?_
      refine wi_ic hc rfl ?_
      refine wi_cne hc rfl hi ⟨by decide, by decide⟩ (fun h3_ => ?_) (fun h3_ => ?_)
      · refine wi_a1 hc rfl rfl ?_
        refine wi_i1 hc rfl rfl ?_
        refine wp_cv (b := 598) (As := [.int (iI i)]) (r := []) hc rfl (by rw [cm_258]; rfl) rfl (Nat.le_of_ble_eq_true rfl) (show 598 < 621 by decide) (by rw [cm_258]; rfl) (ev_mono (sp_258 (d := 0) hm7 hO9 hL9 (i := i) hi) (by omega)) ?_
        have hfdr := fndO_r (c := cF A T) (S := S) (m := mS S) (i := i) (fct (mS S)) 0 0 (by omega)
        have hfdr : fdO (cF A T) S (mS S) i = -1 ∨ (0 ≤ fdO (cF A T) S (mS S) i ∧ fdO (cF A T) S (mS S) i < 0 + ((fct (mS S) : Nat) : Int) ∧ cmO (cF A T) S (mS S) (fdO (cF A T) S (mS S) i) = 1) := hfdr
        show mm_wp _ _ (74, [some (.ref 598), some (.int (iI S)), some (.int (iI i)), some (.int (iI p)), none, none], [.int (iI (fdO (cF A T) S (mS S) i))], MX L t s1_ l1_) _
        refine wi_is2 (L' := [some (.ref 598), some (.int (iI S)), some (.int (iI i)), some (.int (iI p)), some (.int (iI (fdO (cF A T) S (mS S) i))), none]) hc rfl (Nat.le_of_ble_eq_true rfl) rfl ?_
        refine wi_i2 hc rfl rfl ?_
        refine wi_zlt hc rfl ⟨by omega, by omega⟩ (fun h4_ => ?_) (fun h4_ => ?_)
        · refine wi_ic hc rfl ?_
          refine wi_ri hc rfl (by rw [cm_259]; rfl) ?_
          have hR : calmP A T S i p = (-1) := by
            unfold calmP
            rw [if_pos (by first | assumption | omega)]
            rw [if_neg (by omega), if_neg (by omega)]
          rw [hR]
          exact ⟨s1_, l1_, rfl, fun c hc9_ => hF1_ c (by omega), fun c hc9_ => hG1_ c (by omega), hk1_, hJ1_⟩
        · refine wi_i1 hc rfl rfl ?_
          refine wi_ic hc rfl ?_
          refine wi_a1 hc rfl rfl ?_
          refine wi_gfv (kz := 34) rfl hc rfl rfl (by decide) (Nat.le_of_ble_eq_true rfl) rfl (v := ((mS S : Nat) : Int)) (hO9.1) ?_
          refine wi_ic hc rfl ?_
          refine wi_sub hc rfl ?_
          refine wp_cs (As := [.int (iI p), .int (iI 0), .int (iI (((mS S : Nat) : Int) - 1))]) (r := []) hc rfl (by rw [cm_148]; rfl) rfl (Nat.le_of_ble_eq_true rfl) (ev_mono (sp_148 (d := 0) hp ⟨by decide, by decide⟩ ⟨by omega, by omega⟩) (by omega)) ?_
          show mm_wp _ _ (92, [some (.ref 598), some (.int (iI S)), some (.int (iI i)), some (.int (iI p)), some (.int (iI (fdO (cF A T) S (mS S) i))), none], [.int (iI (bI (0 ≤ p ∧ p ≤ ((mS S : Nat) : Int) - 1)))], MX L t s1_ l1_) _
          refine wi_beq hc rfl (fun h5_ => ?_) (fun h5_ => ?_)
          · refine wi_ic hc rfl ?_
            refine wi_ri hc rfl (by rw [cm_259]; rfl) ?_
            have hR : calmP A T S i p = (-1) := by
              unfold calmP
              rw [if_pos (by first | assumption | omega)]
              rw [if_neg (by omega), if_neg (by omega)]
            rw [hR]
            exact ⟨s1_, l1_, rfl, fun c hc9_ => hF1_ c (by omega), fun c hc9_ => hG1_ c (by omega), hk1_, hJ1_⟩
          · have hdg := dg_ok hm7 (n := fdO (cF A T) S (mS S) i) (by omega) (by omega)
            have hd1 := hdg.1 p (by omega) (by omega)
            refine wi_a1 hc rfl rfl ?_
            refine wi_gr (w := 613) hc rfl rfl (by decide) (Nat.le_of_ble_eq_true rfl) rfl ?_
            refine wi_a1 hc rfl rfl ?_
            refine wi_gr (w := 610) hc rfl rfl (by decide) (Nat.le_of_ble_eq_true rfl) rfl ?_
            refine wi_bi hc rfl rfl ?_
            refine wi_i2 hc rfl rfl ?_
            refine wi_mul hc rfl ?_
            refine wi_i1 hc rfl rfl ?_
            refine wi_add hc rfl ?_
            refine wi_ildv (N := 4320) hc rfl rfl (by decide) (by decide) (by omega) (by omega) (v := dgI (mS S) (fdO (cF A T) S (mS S) i) p) (hO9.2.2 _ _ (by omega) (by omega) (by omega) (by omega)) ?_
            refine wi_ildv (N := 10) hc rfl rfl (by decide) (by decide) (by omega) (by omega) (v := elF S (dgI (mS S) (fdO (cF A T) S (mS S) i) p)) (hM9 _ (by omega) (by omega)) ?_
            refine wi_go hc rfl ?_
            refine wi_ri hc rfl (by rw [cm_259]; rfl) ?_
            have hR : calmP A T S i p = elF S (dgI (mS S) (fdO (cF A T) S (mS S) i) p) := by
              unfold calmP
              rw [if_pos (by first | assumption | omega)]
              rw [if_neg (by omega), if_pos ⟨by omega, by omega, by omega⟩]
            rw [hR]
            exact ⟨s1_, l1_, rfl, fun c hc9_ => hF1_ c (by omega), fun c hc9_ => hG1_ c (by omega), hk1_, hJ1_⟩
      · refine wi_ic hc rfl ?_
        refine wi_is2 (L' := [some (.ref 598), some (.int (iI S)), some (.int (iI i)), some (.int (iI p)), some (.int (iI 0)), none]) hc rfl (Nat.le_of_ble_eq_true rfl) rfl ?_
        refine wi_ic hc rfl ?_
        refine wi_is2 (L' := [some (.ref 598), some (.int (iI S)), some (.int (iI i)), some (.int (iI p)), some (.int (iI 0)), some (.int (iI 0))]) hc rfl (Nat.le_of_ble_eq_true rfl) rfl ?_
        have loop31_ : ∀ k : Int, k ≤ ((fct (mS S) : Nat) : Int) → 0 ≤ k → mm_wp (mm_Ev mm_ct mm_CM (d + 8)) 259 (31, [some (.ref 598), some (.int (iI S)), some (.int (iI i)), some (.int (iI p)), some (.int (iI (cntO (cF A T) S (mS S) k.toNat))), some (.int (iI k))], [], MX L t s1_ l1_) (fun res => ∃ s1 l1, res = (some (.int (iI (calmP A T S i p))), MX L t s1 l1) ∧ (∀ c, c ≠ 598 ∧ c ≠ 604 ∧ c ≠ 606 ∧ c ≠ 607 ∧ c ≠ 610 ∧ c ≠ 611 ∧ c ≠ 612 ∧ c ≠ 613 ∧ c ≠ 614 → s1 c = s c) ∧ (∀ c, c ≠ 605 → l1 c = l c) ∧ (∀ k, k ≠ 34 → k ≠ 35 → s1 598 k = s 598 k) ∧ JM s1 A T) := by
          refine up_ind ?_
          intro k hk9 ih k0
          have hct := cntO_r (cF A T) S (mS S) k.toNat
          have h9_ := cmO_01 (cF A T) S (mS S) k
          refine wi_i2 hc rfl rfl ?_
          refine wi_a1 hc rfl rfl ?_
          refine wi_gfv (kz := 35) rfl hc rfl rfl (by decide) (Nat.le_of_ble_eq_true rfl) rfl (v := ((fct (mS S) : Nat) : Int)) (hO9.2.1) ?_
          refine wi_cge hc rfl ⟨by omega, by omega⟩ ⟨by omega, by omega⟩ (fun h6_ => ?_) (fun h6_ => ?_)
          · refine wi_i2 hc rfl rfl ?_
            refine wi_ri hc rfl (by rw [cm_259]; rfl) ?_
            have hR : calmP A T S i p = cntO (cF A T) S (mS S) k.toNat := by
              unfold calmP
              rw [if_pos (by first | assumption | omega)]
              rw [if_pos (by omega), show fct (mS S) = k.toNat by omega]
            rw [hR]
            exact ⟨s1_, l1_, rfl, fun c hc9_ => hF1_ c (by omega), fun c hc9_ => hG1_ c (by omega), hk1_, hJ1_⟩
          · refine wi_i2 hc rfl rfl ?_
            refine wi_a1 hc rfl rfl ?_
            refine wi_gr (w := 612) hc rfl rfl (by decide) (Nat.le_of_ble_eq_true rfl) rfl ?_
            refine wi_i2 hc rfl rfl ?_
            refine wi_bldv (N := 720) hc rfl rfl (by decide) (by decide) (by omega) (by omega) (v := cmO (cF A T) S (mS S) k) (hL9.2 _ (by omega) (by omega)) ?_
            refine wi_b01 hc rfl rfl rfl rfl (by omega) ?_
            refine wi_add hc rfl ?_
            refine wi_is2 (L' := [some (.ref 598), some (.int (iI S)), some (.int (iI i)), some (.int (iI p)), some (.int (iI ((cntO (cF A T) S (mS S) k.toNat) + (cmO (cF A T) S (mS S) k)))), some (.int (iI k))]) hc rfl (Nat.le_of_ble_eq_true rfl) rfl ?_
            refine wi_inc (L' := [some (.ref 598), some (.int (iI S)), some (.int (iI i)), some (.int (iI p)), some (.int (iI ((cntO (cF A T) S (mS S) k.toNat) + (cmO (cF A T) S (mS S) k)))), some (.int (iI (k + 1)))]) hc rfl rfl rfl ?_
            refine wi_go hc rfl ?_
            have e9 : (cntO (cF A T) S (mS S) k.toNat) + (cmO (cF A T) S (mS S) k) = cntO (cF A T) S (mS S) (k + 1).toNat := by rw [cntO_s k0]; split <;> omega
            rw [e9]
            exact ih (by omega) (by omega)
        exact loop31_ 0 (by omega) (by omega)
    · refine wi_ic hc rfl ?_
      refine wi_ri hc rfl (by rw [cm_259]; rfl) ?_
      have hR : calmP A T S i p = -1 := by
        unfold calmP
        by_cases q : (0 < S ∧ S < 2 ^ (A 0).toNat) ∧ popI S ≤ 6
        · rw [if_pos q]
          first
            | exact absurd q (by assumption)
            | (have hfn : fdO (cF A T) S (mS S) i = -1 := fndO_neg (by omega) _ _ _ (by omega)
               rw [if_neg (by omega), if_neg (by omega)])
        · rw [if_neg q]
      rw [hR]
      exact ⟨s, l, rfl, fun c _ => rfl, fun c _ => rfl, fun k _ _ => rfl, hJ⟩
theorem sp_261 {d L t : Nat} {s l : Nat → Int → Int} {A T : Int → Int} (hJ : JM s A T) (hK : KA A T) {S i : Int} (hS : rI S) (hi : rI i) : ∃ s1 l1, mm_Ev mm_ct mm_CM (d + 9) 261 [.ref 598, .int (iI S), .int (iI i)] (MX L t s l) (some (.int (iI (basinP A T S i))), MX L t s1 l1) ∧ (∀ c, c ≠ 598 ∧ c ≠ 604 ∧ c ≠ 606 ∧ c ≠ 607 ∧ c ≠ 610 ∧ c ≠ 611 ∧ c ≠ 612 ∧ c ≠ 613 ∧ c ≠ 614 → s1 c = s c) ∧ (∀ c, c ≠ 605 → l1 c = l c) ∧ (∀ k, k ≠ 34 → k ≠ 35 → s1 598 k = s 598 k) ∧ JM s1 A T := by
  have hc : (mm_CM 261).2.2.2.2.2.2.2 = mm_cf cd_261 := by rw [cm_261]; rfl
  refine ev_xsl ?_
  refine ev_to (mx := 6) (by rw [cm_261]; decide) (by rw [cm_261]; rfl) (by show 3 ≤ _; decide) ?_
  show mm_wp _ _ (0, [some (.ref 598), some (.int (iI S)), some (.int (iI i)), none, none, none], [], MX L t s l) (fun res => ∃ s1 l1, res = (some (.int (iI (basinP A T S i))), MX L t s1 l1) ∧ (∀ c, c ≠ 598 ∧ c ≠ 604 ∧ c ≠ 606 ∧ c ≠ 607 ∧ c ≠ 610 ∧ c ≠ 611 ∧ c ≠ 612 ∧ c ≠ 613 ∧ c ≠ 614 → s1 c = s c) ∧ (∀ c, c ≠ 605 → l1 c = l c) ∧ (∀ k, k ≠ 34 → k ≠ 35 → s1 598 k = s 598 k) ∧ JM s1 A T)
  have hV := hK.1
  have hB := hK.2.1
  have g0 := hB.1
  have hpw := pw_10 g0.1 g0.2
  refine wi_a1 hc rfl rfl ?_
  refine wi_i1 hc rfl rfl ?_
  refine wp_cv (b := 598) (As := [.int (iI S)]) (r := []) hc rfl (by rw [cm_256]; rfl) rfl (Nat.le_of_ble_eq_true rfl) (show 598 < 621 by decide) (by rw [cm_256]; rfl) (ev_mono (sp_256 (d := 0) hJ hK (m := S) hS) (by omega)) ?_
  show mm_wp _ _ (5, [some (.ref 598), some (.int (iI S)), some (.int (iI i)), none, none, none], [.int (iI (bI ((0 < S ∧ S < 2 ^ (A 0).toNat) ∧ popI S ≤ 6)))], MX L t s l) _
  refine wi_beq hc rfl (fun h1_ => ?_) (fun h1_ => ?_)
  · refine wi_ic hc rfl ?_
    refine wi_ri hc rfl (by rw [cm_261]; rfl) ?_
    have hR : basinP A T S i = -1 := by
      unfold basinP
      by_cases q : (0 < S ∧ S < 2 ^ (A 0).toNat) ∧ popI S ≤ 6
      · rw [if_pos q]
        first
          | exact absurd q (by assumption)
          | (have hfn : fdO (cF A T) S (mS S) i = -1 := fndO_neg (by omega) _ _ _ (by omega)
             rw [if_pos hfn])
      · rw [if_neg q]
    rw [hR]
    exact ⟨s, l, rfl, fun c _ => rfl, fun c _ => rfl, fun k _ _ => rfl, hJ⟩
  · refine wi_i1 hc rfl rfl ?_
    refine wi_zge hc rfl hi (fun h2_ => ?_) (fun h2_ => ?_)
    · refine wi_a1 hc rfl rfl ?_
      refine wi_i1 hc rfl rfl ?_
      have hs9 := isS_1 g0 (by first | assumption | omega)
      have hS0 := hs9.1.1
      have hm7 := hs9.2
      have hfm := fct_r (mS S)
      obtain ⟨s1_, l1_, hE1_, hF1_, hG1_, hk1_, hJ1_, hO9, hM9, hL9, hC9⟩ := sp_257 (d := 0) (L := L) (t := t) (l := l) hJ hK (S := S) hS0 (by omega) hm7
      refine wp_cv (b := 598) (As := [.int (iI S)]) (r := []) hc rfl (by rw [cm_257]; rfl) rfl (Nat.le_of_ble_eq_true rfl) (show 598 < 621 by decide) (by rw [cm_257]; rfl) (ev_mono hE1_ (by omega)) ?_
      show mm_wp _ _ (19, [some (.ref 598), some (.int (iI S)), some (.int (iI i)), none, none, none], [], MX L t s1_ l1_) _
      refine wi_a1 hc rfl rfl ?_
      refine wi_i1 hc rfl rfl ?_
      refine wp_cv (b := 598) (As := [.int (iI i)]) (r := []) hc rfl (by rw [cm_258]; rfl) rfl (Nat.le_of_ble_eq_true rfl) (show 598 < 621 by decide) (by rw [cm_258]; rfl) (ev_mono (sp_258 (d := 0) hm7 hO9 hL9 (i := i) hi) (by omega)) ?_
      have hfdr := fndO_r (c := cF A T) (S := S) (m := mS S) (i := i) (fct (mS S)) 0 0 (by omega)
      have hfdr : fdO (cF A T) S (mS S) i = -1 ∨ (0 ≤ fdO (cF A T) S (mS S) i ∧ fdO (cF A T) S (mS S) i < 0 + ((fct (mS S) : Nat) : Int) ∧ cmO (cF A T) S (mS S) (fdO (cF A T) S (mS S) i) = 1) := hfdr
      show mm_wp _ _ (24, [some (.ref 598), some (.int (iI S)), some (.int (iI i)), none, none, none], [.int (iI (fdO (cF A T) S (mS S) i))], MX L t s1_ l1_) _
      refine wi_is1 (L' := [some (.ref 598), some (.int (iI S)), some (.int (iI i)), some (.int (iI (fdO (cF A T) S (mS S) i))), none, none]) hc rfl (Nat.le_of_ble_eq_true rfl) rfl ?_
      refine wi_i1 hc rfl rfl ?_
      refine wi_zge hc rfl ⟨by omega, by omega⟩ (fun h3_ => ?_) (fun h3_ => ?_)
      · refine wi_ic hc rfl ?_
        refine wi_is2 (L' := [some (.ref 598), some (.int (iI S)), some (.int (iI i)), some (.int (iI (fdO (cF A T) S (mS S) i))), some (.int (iI 0)), none]) hc rfl (Nat.le_of_ble_eq_true rfl) rfl ?_
        refine wi_ic hc rfl ?_
        refine wi_is2 (L' := [some (.ref 598), some (.int (iI S)), some (.int (iI i)), some (.int (iI (fdO (cF A T) S (mS S) i))), some (.int (iI 0)), some (.int (iI 0))]) hc rfl (Nat.le_of_ble_eq_true rfl) rfl ?_
        have loop37_ : ∀ k : Int, k ≤ ((fct (mS S) : Nat) : Int) → 0 ≤ k → mm_wp (mm_Ev mm_ct mm_CM (d + 8)) 261 (37, [some (.ref 598), some (.int (iI S)), some (.int (iI i)), some (.int (iI (fdO (cF A T) S (mS S) i))), some (.int (iI (cgO (cF A T) S (mS S) (fdO (cF A T) S (mS S) i) k.toNat))), some (.int (iI k))], [], MX L t s1_ l1_) (fun res => ∃ s1 l1, res = (some (.int (iI (basinP A T S i))), MX L t s1 l1) ∧ (∀ c, c ≠ 598 ∧ c ≠ 604 ∧ c ≠ 606 ∧ c ≠ 607 ∧ c ≠ 610 ∧ c ≠ 611 ∧ c ≠ 612 ∧ c ≠ 613 ∧ c ≠ 614 → s1 c = s c) ∧ (∀ c, c ≠ 605 → l1 c = l c) ∧ (∀ k, k ≠ 34 → k ≠ 35 → s1 598 k = s 598 k) ∧ JM s1 A T) := by
          refine up_ind ?_
          intro k hk9 ih k0
          have hct := cgO_r (cF A T) S (mS S) (fdO (cF A T) S (mS S) i) k.toNat
          refine wi_i2 hc rfl rfl ?_
          refine wi_a1 hc rfl rfl ?_
          refine wi_gfv (kz := 35) rfl hc rfl rfl (by decide) (Nat.le_of_ble_eq_true rfl) rfl (v := ((fct (mS S) : Nat) : Int)) (hO9.2.1) ?_
          refine wi_cge hc rfl ⟨by omega, by omega⟩ ⟨by omega, by omega⟩ (fun h4_ => ?_) (fun h4_ => ?_)
          · refine wi_i2 hc rfl rfl ?_
            refine wi_ri hc rfl (by rw [cm_261]; rfl) ?_
            have hR : basinP A T S i = cgO (cF A T) S (mS S) (fdO (cF A T) S (mS S) i) k.toNat := by
              unfold basinP
              rw [if_pos (by first | assumption | omega)]
              rw [if_neg (by omega), show fct (mS S) = k.toNat by omega]
            rw [hR]
            exact ⟨s1_, l1_, rfl, fun c hc9_ => hF1_ c (by omega), fun c hc9_ => hG1_ c (by omega), hk1_, hJ1_⟩
          · refine wi_i2 hc rfl rfl ?_
            refine wi_a1 hc rfl rfl ?_
            refine wi_i2 hc rfl rfl ?_
            refine wp_cv (b := 598) (As := [.int (iI k)]) (r := [.int (iI (cgO (cF A T) S (mS S) (fdO (cF A T) S (mS S) i) k.toNat))]) hc rfl (by rw [cm_260]; rfl) rfl (Nat.le_of_ble_eq_true rfl) (show 598 < 621 by decide) (by rw [cm_260]; rfl) (ev_mono (sp_260 (d := 0) hm7 hO9 hL9 (n := k) (by omega) (by omega)) (by omega)) ?_
            have hgr := Gs_r (c := (cF A T)) (S := S) (m := (mS S)) hm7 (x := 2 * k) (by omega) (by omega)
            show mm_wp _ _ (54, [some (.ref 598), some (.int (iI S)), some (.int (iI i)), some (.int (iI (fdO (cF A T) S (mS S) i))), some (.int (iI (cgO (cF A T) S (mS S) (fdO (cF A T) S (mS S) i) k.toNat))), some (.int (iI k))], [.int (iI (Gs (cF A T) S (mS S) (2 * k))), .int (iI (cgO (cF A T) S (mS S) (fdO (cF A T) S (mS S) i) k.toNat))], MX L t s1_ l1_) _
            refine wi_i1 hc rfl rfl ?_
            refine wi_cne hc rfl ⟨by omega, by omega⟩ ⟨by omega, by omega⟩ (fun h5_ => ?_) (fun h5_ => ?_)
            · refine wi_ic hc rfl ?_
              refine wi_add hc rfl ?_
              refine wi_is2 (L' := [some (.ref 598), some (.int (iI S)), some (.int (iI i)), some (.int (iI (fdO (cF A T) S (mS S) i))), some (.int (iI ((cgO (cF A T) S (mS S) (fdO (cF A T) S (mS S) i) k.toNat) + 0))), some (.int (iI k))]) hc rfl (Nat.le_of_ble_eq_true rfl) rfl ?_
              refine wi_inc (L' := [some (.ref 598), some (.int (iI S)), some (.int (iI i)), some (.int (iI (fdO (cF A T) S (mS S) i))), some (.int (iI ((cgO (cF A T) S (mS S) (fdO (cF A T) S (mS S) i) k.toNat) + 0))), some (.int (iI (k + 1)))]) hc rfl rfl rfl ?_
              refine wi_go hc rfl ?_
              have e9 : (cgO (cF A T) S (mS S) (fdO (cF A T) S (mS S) i) k.toNat) + 0 = cgO (cF A T) S (mS S) (fdO (cF A T) S (mS S) i) (k + 1).toNat := by rw [cgO_s k0]; split <;> omega
              rw [e9]
              exact ih (by omega) (by omega)
            · refine wi_ic hc rfl ?_
              refine wi_go hc rfl ?_
              refine wi_add hc rfl ?_
              refine wi_is2 (L' := [some (.ref 598), some (.int (iI S)), some (.int (iI i)), some (.int (iI (fdO (cF A T) S (mS S) i))), some (.int (iI ((cgO (cF A T) S (mS S) (fdO (cF A T) S (mS S) i) k.toNat) + 1))), some (.int (iI k))]) hc rfl (Nat.le_of_ble_eq_true rfl) rfl ?_
              refine wi_inc (L' := [some (.ref 598), some (.int (iI S)), some (.int (iI i)), some (.int (iI (fdO (cF A T) S (mS S) i))), some (.int (iI ((cgO (cF A T) S (mS S) (fdO (cF A T) S (mS S) i) k.toNat) + 1))), some (.int (iI (k + 1)))]) hc rfl rfl rfl ?_
              refine wi_go hc rfl ?_
              have e9 : (cgO (cF A T) S (mS S) (fdO (cF A T) S (mS S) i) k.toNat) + 1 = cgO (cF A T) S (mS S) (fdO (cF A T) S (mS S) i) (k + 1).toNat := by rw [cgO_s k0]; split <;> omega
              rw [e9]
              exact ih (by omega) (by omega)
        exact loop37_ 0 (by omega) (by omega)
      · refine wi_ic hc rfl ?_
        refine wi_ri hc rfl (by rw [cm_261]; rfl) ?_
        have hR : basinP A T S i = (-1) := by
          unfold basinP
          rw [if_pos (by first | assumption | omega)]
          rw [if_pos (by omega)]
        rw [hR]
        exact ⟨s1_, l1_, rfl, fun c hc9_ => hF1_ c (by omega), fun c hc9_ => hG1_ c (by omega), hk1_, hJ1_⟩
    · refine wi_ic hc rfl ?_
      refine wi_ri hc rfl (by rw [cm_261]; rfl) ?_
      have hR : basinP A T S i = -1 := by
        unfold basinP
        by_cases q : (0 < S ∧ S < 2 ^ (A 0).toNat) ∧ popI S ≤ 6
        · rw [if_pos q]
          first
            | exact absurd q (by assumption)
            | (have hfn : fdO (cF A T) S (mS S) i = -1 := fndO_neg (by omega) _ _ _ (by omega)
               rw [if_pos hfn])
        · rw [if_neg q]
      rw [hR]
      exact ⟨s, l, rfl, fun c _ => rfl, fun c _ => rfl, fun k _ _ => rfl, hJ⟩
theorem sp_262 {d L t : Nat} {s l : Nat → Int → Int} {A T : Int → Int} (hJ : JM s A T) (hK : KA A T) {S : Int} (hS : rI S) : ∃ s1 l1, mm_Ev mm_ct mm_CM (d + 9) 262 [.ref 598, .int (iI S)] (MX L t s l) (some (.int (iI (neverP A T S))), MX L t s1 l1) ∧ (∀ c, c ≠ 598 ∧ c ≠ 604 ∧ c ≠ 606 ∧ c ≠ 607 ∧ c ≠ 610 ∧ c ≠ 611 ∧ c ≠ 612 ∧ c ≠ 613 ∧ c ≠ 614 → s1 c = s c) ∧ (∀ c, c ≠ 605 → l1 c = l c) ∧ (∀ k, k ≠ 34 → k ≠ 35 → s1 598 k = s 598 k) ∧ JM s1 A T := by
  have hc : (mm_CM 262).2.2.2.2.2.2.2 = mm_cf cd_262 := by rw [cm_262]; rfl
  refine ev_xsl ?_
  refine ev_to (mx := 4) (by rw [cm_262]; decide) (by rw [cm_262]; rfl) (by show 2 ≤ _; decide) ?_
  show mm_wp _ _ (0, [some (.ref 598), some (.int (iI S)), none, none], [], MX L t s l) (fun res => ∃ s1 l1, res = (some (.int (iI (neverP A T S))), MX L t s1 l1) ∧ (∀ c, c ≠ 598 ∧ c ≠ 604 ∧ c ≠ 606 ∧ c ≠ 607 ∧ c ≠ 610 ∧ c ≠ 611 ∧ c ≠ 612 ∧ c ≠ 613 ∧ c ≠ 614 → s1 c = s c) ∧ (∀ c, c ≠ 605 → l1 c = l c) ∧ (∀ k, k ≠ 34 → k ≠ 35 → s1 598 k = s 598 k) ∧ JM s1 A T)
  have hV := hK.1
  have hB := hK.2.1
  have g0 := hB.1
  have hpw := pw_10 g0.1 g0.2
  refine wi_a1 hc rfl rfl ?_
  refine wi_i1 hc rfl rfl ?_
  refine wp_cv (b := 598) (As := [.int (iI S)]) (r := []) hc rfl (by rw [cm_256]; rfl) rfl (Nat.le_of_ble_eq_true rfl) (show 598 < 621 by decide) (by rw [cm_256]; rfl) (ev_mono (sp_256 (d := 0) hJ hK (m := S) hS) (by omega)) ?_
  show mm_wp _ _ (5, [some (.ref 598), some (.int (iI S)), none, none], [.int (iI (bI ((0 < S ∧ S < 2 ^ (A 0).toNat) ∧ popI S ≤ 6)))], MX L t s l) _
  refine wi_bne hc rfl (fun h1_ => ?_) (fun h1_ => ?_)
  · refine wi_a1 hc rfl rfl ?_
    refine wi_i1 hc rfl rfl ?_
    have hs9 := isS_1 g0 (by first | assumption | omega)
    have hS0 := hs9.1.1
    have hm7 := hs9.2
    have hfm := fct_r (mS S)
    obtain ⟨s1_, l1_, hE1_, hF1_, hG1_, hk1_, hJ1_, hO9, hM9, hL9, hC9⟩ := sp_257 (d := 0) (L := L) (t := t) (l := l) hJ hK (S := S) hS0 (by omega) hm7
    refine wp_cv (b := 598) (As := [.int (iI S)]) (r := []) hc rfl (by rw [cm_257]; rfl) rfl (Nat.le_of_ble_eq_true rfl) (show 598 < 621 by decide) (by rw [cm_257]; rfl) (ev_mono hE1_ (by omega)) ?_
    show mm_wp _ _ (15, [some (.ref 598), some (.int (iI S)), none, none], [], MX L t s1_ l1_) _
    refine wi_ic hc rfl ?_
    refine wi_is1 (L' := [some (.ref 598), some (.int (iI S)), some (.int (iI 0)), none]) hc rfl (Nat.le_of_ble_eq_true rfl) rfl ?_
    refine wi_ic hc rfl ?_
    refine wi_is1 (L' := [some (.ref 598), some (.int (iI S)), some (.int (iI 0)), some (.int (iI 0))]) hc rfl (Nat.le_of_ble_eq_true rfl) rfl ?_
    have loop19_ : ∀ k : Int, k ≤ ((fct (mS S) : Nat) : Int) → 0 ≤ k → mm_wp (mm_Ev mm_ct mm_CM (d + 8)) 262 (19, [some (.ref 598), some (.int (iI S)), some (.int (iI (cgO (cF A T) S (mS S) (-1) k.toNat))), some (.int (iI k))], [], MX L t s1_ l1_) (fun res => ∃ s1 l1, res = (some (.int (iI (neverP A T S))), MX L t s1 l1) ∧ (∀ c, c ≠ 598 ∧ c ≠ 604 ∧ c ≠ 606 ∧ c ≠ 607 ∧ c ≠ 610 ∧ c ≠ 611 ∧ c ≠ 612 ∧ c ≠ 613 ∧ c ≠ 614 → s1 c = s c) ∧ (∀ c, c ≠ 605 → l1 c = l c) ∧ (∀ k, k ≠ 34 → k ≠ 35 → s1 598 k = s 598 k) ∧ JM s1 A T) := by
      refine up_ind ?_
      intro k hk9 ih k0
      have hct := cgO_r (cF A T) S (mS S) (-1) k.toNat
      refine wi_i1 hc rfl rfl ?_
      refine wi_a1 hc rfl rfl ?_
      refine wi_gfv (kz := 35) rfl hc rfl rfl (by decide) (Nat.le_of_ble_eq_true rfl) rfl (v := ((fct (mS S) : Nat) : Int)) (hO9.2.1) ?_
      refine wi_cge hc rfl ⟨by omega, by omega⟩ ⟨by omega, by omega⟩ (fun h2_ => ?_) (fun h2_ => ?_)
      · refine wi_i1 hc rfl rfl ?_
        refine wi_ri hc rfl (by rw [cm_262]; rfl) ?_
        have hR : neverP A T S = cgO (cF A T) S (mS S) (-1) k.toNat := by
          unfold neverP
          rw [if_pos (by first | assumption | omega)]
          rw [show fct (mS S) = k.toNat by omega]
        rw [hR]
        exact ⟨s1_, l1_, rfl, fun c hc9_ => hF1_ c (by omega), fun c hc9_ => hG1_ c (by omega), hk1_, hJ1_⟩
      · refine wi_i1 hc rfl rfl ?_
        refine wi_a1 hc rfl rfl ?_
        refine wi_i1 hc rfl rfl ?_
        refine wp_cv (b := 598) (As := [.int (iI k)]) (r := [.int (iI (cgO (cF A T) S (mS S) (-1) k.toNat))]) hc rfl (by rw [cm_260]; rfl) rfl (Nat.le_of_ble_eq_true rfl) (show 598 < 621 by decide) (by rw [cm_260]; rfl) (ev_mono (sp_260 (d := 0) hm7 hO9 hL9 (n := k) (by omega) (by omega)) (by omega)) ?_
        have hgr := Gs_r (c := (cF A T)) (S := S) (m := (mS S)) hm7 (x := 2 * k) (by omega) (by omega)
        show mm_wp _ _ (33, [some (.ref 598), some (.int (iI S)), some (.int (iI (cgO (cF A T) S (mS S) (-1) k.toNat))), some (.int (iI k))], [.int (iI (Gs (cF A T) S (mS S) (2 * k))), .int (iI (cgO (cF A T) S (mS S) (-1) k.toNat))], MX L t s1_ l1_) _
        refine wi_zge hc rfl ⟨by omega, by omega⟩ (fun h3_ => ?_) (fun h3_ => ?_)
        · refine wi_ic hc rfl ?_
          refine wi_add hc rfl ?_
          refine wi_is1 (L' := [some (.ref 598), some (.int (iI S)), some (.int (iI ((cgO (cF A T) S (mS S) (-1) k.toNat) + 0))), some (.int (iI k))]) hc rfl (Nat.le_of_ble_eq_true rfl) rfl ?_
          refine wi_inc (L' := [some (.ref 598), some (.int (iI S)), some (.int (iI ((cgO (cF A T) S (mS S) (-1) k.toNat) + 0))), some (.int (iI (k + 1)))]) hc rfl rfl rfl ?_
          refine wi_go hc rfl ?_
          have e9 : (cgO (cF A T) S (mS S) (-1) k.toNat) + 0 = cgO (cF A T) S (mS S) (-1) (k + 1).toNat := by rw [cgO_s k0]; split <;> omega
          rw [e9]
          exact ih (by omega) (by omega)
        · refine wi_ic hc rfl ?_
          refine wi_go hc rfl ?_
          refine wi_add hc rfl ?_
          refine wi_is1 (L' := [some (.ref 598), some (.int (iI S)), some (.int (iI ((cgO (cF A T) S (mS S) (-1) k.toNat) + 1))), some (.int (iI k))]) hc rfl (Nat.le_of_ble_eq_true rfl) rfl ?_
          refine wi_inc (L' := [some (.ref 598), some (.int (iI S)), some (.int (iI ((cgO (cF A T) S (mS S) (-1) k.toNat) + 1))), some (.int (iI (k + 1)))]) hc rfl rfl rfl ?_
          refine wi_go hc rfl ?_
          have e9 : (cgO (cF A T) S (mS S) (-1) k.toNat) + 1 = cgO (cF A T) S (mS S) (-1) (k + 1).toNat := by rw [cgO_s k0]; split <;> omega
          rw [e9]
          exact ih (by omega) (by omega)
    exact loop19_ 0 (by omega) (by omega)
  · refine wi_ic hc rfl ?_
    refine wi_ri hc rfl (by rw [cm_262]; rfl) ?_
    have hR : neverP A T S = -1 := by
      unfold neverP
      by_cases q : (0 < S ∧ S < 2 ^ (A 0).toNat) ∧ popI S ≤ 6
      · rw [if_pos q]
        exact absurd q (by assumption)
      · rw [if_neg q]
    rw [hR]
    exact ⟨s, l, rfl, fun c _ => rfl, fun c _ => rfl, fun k _ _ => rfl, hJ⟩
