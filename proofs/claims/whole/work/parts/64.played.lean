/-! A text's clauses played. -/
/-- what a clause that can be played holds -/
def okP (T : Int → Int) (z : Int) : Prop := (0 ≤ T z ∧ T z ≤ 9) ∧ (T z = 4 → 1 ≤ T (z + 1) ∧ T (z + 1) ≤ 99) ∧ (T z = 5 → 0 ≤ T (z + 1) ∧ T (z + 1) ≤ 2 ∧ 0 ≤ T (z + 2) ∧ T (z + 2) ≤ 9) ∧ (T z = 6 → 0 ≤ T (z + 1) ∧ T (z + 1) ≤ 9) ∧ (T z = 7 → 0 ≤ T (z + 1) ∧ T (z + 1) ≤ 9 ∧ 0 ≤ T (z + 2) ∧ T (z + 2) ≤ 2 ∧ 0 ≤ T (z + 3) ∧ T (z + 3) ≤ 9)
theorem VT.okP {T : Int → Int} {b : Int} (h : VT T b) {k : Int} (h0 : 0 ≤ k) (h1 : k < T b) : okP T (b + 1 + 4 * k) := by
  obtain ⟨a, _, _, _, b4, b5, b6, b7⟩ := h.2 k h0 h1
  rw [show b + 2 + 4 * k = b + 1 + 4 * k + 1 by omega] at b4 b5 b6 b7
  rw [show b + 3 + 4 * k = b + 1 + 4 * k + 2 by omega] at b5 b7
  rw [show b + 4 + 4 * k = b + 1 + 4 * k + 3 by omega] at b7
  exact ⟨a, b4, b5, b6, b7⟩
theorem playN_st {T A C : Int → Int} {b n k : Int} {N : Nat} (h : playN T b N 0 A = playN T b (n - k).toNat k C) (hk : k < n) (hp : 0 ≤ (playR C T (b + 1 + 4 * k)).2) : playN T b N 0 A = playN T b (n - (k + 1)).toNat (k + 1) (playR C T (b + 1 + 4 * k)).1 := by
  rw [h, show (n - k).toNat = (n - (k + 1)).toNat + 1 by omega, playN, if_neg (by omega)]
theorem playN_no {T A C : Int → Int} {b n k : Int} {N : Nat} (h : playN T b N 0 A = playN T b (n - k).toNat k C) (hk : k < n) (hp : (playR C T (b + 1 + 4 * k)).2 < 0) : playN T b N 0 A = ((playR C T (b + 1 + 4 * k)).1, k) := by
  rw [h, show (n - k).toNat = (n - (k + 1)).toNat + 1 by omega, playN, if_pos hp]
theorem playN_en {T A C : Int → Int} {b n k : Int} {N : Nat} (h : playN T b N 0 A = playN T b (n - k).toNat k C) (hk : n ≤ k) : playN T b N 0 A = (C, -1) := by
  rw [h, show (n - k).toNat = 0 by omega, playN]

theorem sp_231 {d L t : Nat} {s l : Nat → Int → Int} {A T : Int → Int} (hJ : JM s A T) (hVA : VA A T) {z : Int} (hz0 : 0 ≤ z) (hz1 : z + 3 < 2820) (hP : okP T z) : ∃ s1 l1, mm_Ev mm_ct mm_CM (d + 10) 231 [.ref 598, .int (iI z)] (MX L t s l) (some (.int (iI (bI (0 ≤ (playR A T z).2)))), MX L t s1 l1) ∧ (∀ c, c ≠ 598 ∧ c ≠ 599 ∧ c ≠ 604 ∧ c ≠ 606 → s1 c = s c) ∧ (∀ c, c ≠ 605 → l1 c = l c) ∧ (∀ k, k ≠ 25 → s1 598 k = s 598 k) ∧ JM s1 (playR A T z).1 T := by
  have hc : (mm_CM 231).2.2.2.2.2.2.2 = mm_cf cd_231 := by rw [cm_231]; rfl
  refine ev_xsl ?_
  refine ev_to (mx := 2) (by rw [cm_231]; decide) (by rw [cm_231]; rfl) (by show 2 ≤ _; decide) ?_
  show mm_wp _ _ (0, [some (.ref 598), some (.int (iI z))], [], MX L t s l) (fun res => ∃ s1 l1, res = (some (.int (iI (bI (0 ≤ (playR A T z).2)))), MX L t s1 l1) ∧ (∀ c, c ≠ 598 ∧ c ≠ 599 ∧ c ≠ 604 ∧ c ≠ 606 → s1 c = s c) ∧ (∀ c, c ≠ 605 → l1 c = l c) ∧ (∀ k, k ≠ 25 → s1 598 k = s 598 k) ∧ JM s1 (playR A T z).1 T)
  have hP0 := hP.1
  have hP4 := hP.2.1
  have hP5 := hP.2.2.1
  have hP6 := hP.2.2.2.1
  have hP7 := hP.2.2.2.2
  refine wi_a1 hc rfl rfl ?_
  refine wi_gr (w := 601) hc rfl rfl (by decide) (Nat.le_of_ble_eq_true rfl) rfl ?_
  refine wi_i1 hc rfl rfl ?_
  refine wi_ildv (N := 2820) hc rfl rfl (by decide) (by decide) (by omega) (by omega) (v := T z) (congrFun (hJ.2.1) _) ?_
  refine wi_sw hc rfl ⟨by omega, by omega⟩ ?_
  refine wp_if (fun h1_ => ?_) (fun h1_ => ?_)
  · refine wi_a1 hc rfl rfl ?_
    refine wi_a1 hc rfl rfl ?_
    refine wi_gr (w := 601) hc rfl rfl (by decide) (Nat.le_of_ble_eq_true rfl) rfl ?_
    refine wi_i1 hc rfl rfl ?_
    refine wi_ic hc rfl ?_
    refine wi_add hc rfl ?_
    refine wi_ildv (N := 2820) hc rfl rfl (by decide) (by decide) (by omega) (by omega) (v := T (z + 1)) (congrFun (hJ.2.1) _) ?_
    obtain ⟨s1_, l1_, hE1_, hF1_, hG1_, hf1_, hJ1_⟩ := sp_226 (d := 0) (L := L) (t := t) (l := l) hJ hVA (n := T (z + 1)) ⟨by omega, by omega⟩
    refine wp_cv (b := 598) (As := [.int (iI (T (z + 1)))]) (r := []) hc rfl (by rw [cm_226]; rfl) rfl (Nat.le_of_ble_eq_true rfl) (show 598 < 621 by decide) (by rw [cm_226]; rfl) (ev_mono hE1_ (by omega)) ?_
    have hrN := (nightR_ok hVA (T (z + 1))).2
    show mm_wp _ _ (56, [some (.ref 598), some (.int (iI z))], [.int (iI ((nightR A T (T (z + 1))).2))], MX L t s1_ l1_) _
    refine wi_zlt hc rfl ⟨by omega, by omega⟩ (fun h2_ => ?_) (fun h2_ => ?_)
    · refine wi_ic hc rfl ?_
      refine wi_r0 hc rfl (by rw [cm_231]; rfl) ?_
      have hR : playR A T z = nightR A T (T (z + 1)) := by
        unfold playR
        rw [if_pos (by omega)]
      rw [hR]
      rw [bI_f (p := 0 ≤ (nightR A T (T (z + 1))).2) (by omega)]
      exact ⟨s1_, l1_, rfl, fun c hc9_ => hF1_ c (by omega), fun c hc9_ => hG1_ c (by omega), hf1_, hJ1_⟩
    · refine wi_ic hc rfl ?_
      refine wi_go hc rfl ?_
      refine wi_r1 hc rfl (by rw [cm_231]; rfl) ?_
      have hR : playR A T z = nightR A T (T (z + 1)) := by
        unfold playR
        rw [if_pos (by omega)]
      rw [hR]
      rw [bI_t (p := 0 ≤ (nightR A T (T (z + 1))).2) (by omega)]
      exact ⟨s1_, l1_, rfl, fun c hc9_ => hF1_ c (by omega), fun c hc9_ => hG1_ c (by omega), hf1_, hJ1_⟩
  · skip
    refine wp_if (fun h3_ => ?_) (fun h3_ => ?_)
    · refine wi_a1 hc rfl rfl ?_
      refine wi_a1 hc rfl rfl ?_
      refine wi_gr (w := 601) hc rfl rfl (by decide) (Nat.le_of_ble_eq_true rfl) rfl ?_
      refine wi_i1 hc rfl rfl ?_
      refine wi_ic hc rfl ?_
      refine wi_add hc rfl ?_
      refine wi_ildv (N := 2820) hc rfl rfl (by decide) (by decide) (by omega) (by omega) (v := T (z + 1)) (congrFun (hJ.2.1) _) ?_
      refine wi_a1 hc rfl rfl ?_
      refine wi_gr (w := 601) hc rfl rfl (by decide) (Nat.le_of_ble_eq_true rfl) rfl ?_
      refine wi_i1 hc rfl rfl ?_
      refine wi_ic hc rfl ?_
      refine wi_add hc rfl ?_
      refine wi_ildv (N := 2820) hc rfl rfl (by decide) (by decide) (by omega) (by omega) (v := T (z + 2)) (congrFun (hJ.2.1) _) ?_
      obtain ⟨s2_, l2_, hE2_, hF2_, hG2_, hf2_, hJ2_⟩ := sp_227 (d := 0) (L := L) (t := t) (l := l) hJ hVA (x := T (z + 1)) (p := T (z + 2)) ⟨by omega, by omega⟩ ⟨by omega, by omega⟩
      refine wp_cv (b := 598) (As := [.int (iI (T (z + 1))), .int (iI (T (z + 2)))]) (r := []) hc rfl (by rw [cm_227]; rfl) rfl (Nat.le_of_ble_eq_true rfl) (show 598 < 621 by decide) (by rw [cm_227]; rfl) (ev_mono hE2_ (by omega)) ?_
      have hrN := (nudgeR_ok hVA (T (z + 1)) (T (z + 2))).2
      show mm_wp _ _ (85, [some (.ref 598), some (.int (iI z))], [.int (iI ((nudgeR A (T (z + 1)) (T (z + 2))).2))], MX L t s2_ l2_) _
      refine wi_zlt hc rfl ⟨by omega, by omega⟩ (fun h4_ => ?_) (fun h4_ => ?_)
      · refine wi_ic hc rfl ?_
        refine wi_r0 hc rfl (by rw [cm_231]; rfl) ?_
        have hR : playR A T z = nudgeR A (T (z + 1)) (T (z + 2)) := by
          unfold playR
          rw [if_neg (by omega), if_pos (by omega)]
        rw [hR]
        rw [bI_f (p := 0 ≤ (nudgeR A (T (z + 1)) (T (z + 2))).2) (by omega)]
        exact ⟨s2_, l2_, rfl, fun c hc9_ => hF2_ c (by omega), fun c hc9_ => hG2_ c (by omega), hf2_, hJ2_⟩
      · refine wi_ic hc rfl ?_
        refine wi_go hc rfl ?_
        refine wi_r1 hc rfl (by rw [cm_231]; rfl) ?_
        have hR : playR A T z = nudgeR A (T (z + 1)) (T (z + 2)) := by
          unfold playR
          rw [if_neg (by omega), if_pos (by omega)]
        rw [hR]
        rw [bI_t (p := 0 ≤ (nudgeR A (T (z + 1)) (T (z + 2))).2) (by omega)]
        exact ⟨s2_, l2_, rfl, fun c hc9_ => hF2_ c (by omega), fun c hc9_ => hG2_ c (by omega), hf2_, hJ2_⟩
    · skip
      refine wp_if (fun h5_ => ?_) (fun h5_ => ?_)
      · refine wi_a1 hc rfl rfl ?_
        refine wi_a1 hc rfl rfl ?_
        refine wi_gr (w := 601) hc rfl rfl (by decide) (Nat.le_of_ble_eq_true rfl) rfl ?_
        refine wi_i1 hc rfl rfl ?_
        refine wi_ic hc rfl ?_
        refine wi_add hc rfl ?_
        refine wi_ildv (N := 2820) hc rfl rfl (by decide) (by decide) (by omega) (by omega) (v := T (z + 1)) (congrFun (hJ.2.1) _) ?_
        obtain ⟨s3_, l3_, hE3_, hF3_, hG3_, hf3_, hJ3_⟩ := sp_228 (d := 0) (L := L) (t := t) (l := l) hJ hVA (b := T (z + 1)) ⟨by omega, by omega⟩
        refine wp_cv (b := 598) (As := [.int (iI (T (z + 1)))]) (r := []) hc rfl (by rw [cm_228]; rfl) rfl (Nat.le_of_ble_eq_true rfl) (show 598 < 621 by decide) (by rw [cm_228]; rfl) (ev_mono hE3_ (by omega)) ?_
        have hrN := (takeR_ok hVA (T (z + 1))).2
        show mm_wp _ _ (106, [some (.ref 598), some (.int (iI z))], [.int (iI ((takeR A (T (z + 1))).2))], MX L t s3_ l3_) _
        refine wi_zlt hc rfl ⟨by omega, by omega⟩ (fun h6_ => ?_) (fun h6_ => ?_)
        · refine wi_ic hc rfl ?_
          refine wi_r0 hc rfl (by rw [cm_231]; rfl) ?_
          have hR : playR A T z = takeR A (T (z + 1)) := by
            unfold playR
            rw [if_neg (by omega), if_neg (by omega), if_pos (by omega)]
          rw [hR]
          rw [bI_f (p := 0 ≤ (takeR A (T (z + 1))).2) (by omega)]
          exact ⟨s3_, l3_, rfl, fun c hc9_ => hF3_ c (by omega), fun c hc9_ => hG3_ c (by omega), hf3_, hJ3_⟩
        · refine wi_ic hc rfl ?_
          refine wi_go hc rfl ?_
          refine wi_r1 hc rfl (by rw [cm_231]; rfl) ?_
          have hR : playR A T z = takeR A (T (z + 1)) := by
            unfold playR
            rw [if_neg (by omega), if_neg (by omega), if_pos (by omega)]
          rw [hR]
          rw [bI_t (p := 0 ≤ (takeR A (T (z + 1))).2) (by omega)]
          exact ⟨s3_, l3_, rfl, fun c hc9_ => hF3_ c (by omega), fun c hc9_ => hG3_ c (by omega), hf3_, hJ3_⟩
      · skip
        refine wp_if (fun h7_ => ?_) (fun h7_ => ?_)
        · refine wi_a1 hc rfl rfl ?_
          refine wi_a1 hc rfl rfl ?_
          refine wi_gr (w := 601) hc rfl rfl (by decide) (Nat.le_of_ble_eq_true rfl) rfl ?_
          refine wi_i1 hc rfl rfl ?_
          refine wi_ic hc rfl ?_
          refine wi_add hc rfl ?_
          refine wi_ildv (N := 2820) hc rfl rfl (by decide) (by decide) (by omega) (by omega) (v := T (z + 1)) (congrFun (hJ.2.1) _) ?_
          refine wi_a1 hc rfl rfl ?_
          refine wi_gr (w := 601) hc rfl rfl (by decide) (Nat.le_of_ble_eq_true rfl) rfl ?_
          refine wi_i1 hc rfl rfl ?_
          refine wi_ic hc rfl ?_
          refine wi_add hc rfl ?_
          refine wi_ildv (N := 2820) hc rfl rfl (by decide) (by decide) (by omega) (by omega) (v := T (z + 2)) (congrFun (hJ.2.1) _) ?_
          refine wi_a1 hc rfl rfl ?_
          refine wi_gr (w := 601) hc rfl rfl (by decide) (Nat.le_of_ble_eq_true rfl) rfl ?_
          refine wi_i1 hc rfl rfl ?_
          refine wi_ic hc rfl ?_
          refine wi_add hc rfl ?_
          refine wi_ildv (N := 2820) hc rfl rfl (by decide) (by decide) (by omega) (by omega) (v := T (z + 3)) (congrFun (hJ.2.1) _) ?_
          obtain ⟨s4_, l4_, hE4_, hF4_, hG4_, hf4_, hJ4_⟩ := sp_229 (d := 0) (L := L) (t := t) (l := l) hJ hVA (b := T (z + 1)) (x := T (z + 2)) (p := T (z + 3)) ⟨by omega, by omega⟩ ⟨by omega, by omega⟩ ⟨by omega, by omega⟩
          refine wp_cv (b := 598) (As := [.int (iI (T (z + 1))), .int (iI (T (z + 2))), .int (iI (T (z + 3)))]) (r := []) hc rfl (by rw [cm_229]; rfl) rfl (Nat.le_of_ble_eq_true rfl) (show 598 < 621 by decide) (by rw [cm_229]; rfl) (ev_mono hE4_ (by omega)) ?_
          have hrN := (putR_ok hVA (T (z + 1)) (T (z + 2)) (T (z + 3))).2
          show mm_wp _ _ (143, [some (.ref 598), some (.int (iI z))], [.int (iI ((putR A T (T (z + 1)) (T (z + 2)) (T (z + 3))).2))], MX L t s4_ l4_) _
          refine wi_zlt hc rfl ⟨by omega, by omega⟩ (fun h8_ => ?_) (fun h8_ => ?_)
          · refine wi_ic hc rfl ?_
            refine wi_r0 hc rfl (by rw [cm_231]; rfl) ?_
            have hR : playR A T z = putR A T (T (z + 1)) (T (z + 2)) (T (z + 3)) := by
              unfold playR
              rw [if_neg (by omega), if_neg (by omega), if_neg (by omega), if_pos (by omega)]
            rw [hR]
            rw [bI_f (p := 0 ≤ (putR A T (T (z + 1)) (T (z + 2)) (T (z + 3))).2) (by omega)]
            exact ⟨s4_, l4_, rfl, fun c hc9_ => hF4_ c (by omega), fun c hc9_ => hG4_ c (by omega), hf4_, hJ4_⟩
          · refine wi_ic hc rfl ?_
            refine wi_go hc rfl ?_
            refine wi_r1 hc rfl (by rw [cm_231]; rfl) ?_
            have hR : playR A T z = putR A T (T (z + 1)) (T (z + 2)) (T (z + 3)) := by
              unfold playR
              rw [if_neg (by omega), if_neg (by omega), if_neg (by omega), if_pos (by omega)]
            rw [hR]
            rw [bI_t (p := 0 ≤ (putR A T (T (z + 1)) (T (z + 2)) (T (z + 3))).2) (by omega)]
            exact ⟨s4_, l4_, rfl, fun c hc9_ => hF4_ c (by omega), fun c hc9_ => hG4_ c (by omega), hf4_, hJ4_⟩
        · skip
          refine wp_if (fun h9_ => ?_) (fun h9_ => ?_)
          · refine wi_a1 hc rfl rfl ?_
            refine wi_ic hc rfl ?_
            obtain ⟨s5_, l5_, hE5_, hF5_, hG5_, hf5_, hJ5_⟩ := sp_230 (d := 0) (L := L) (t := t) (l := l) hJ hVA (v := 1) (by omega)
            refine wp_cv (b := 598) (As := [.int (iI 1)]) (r := []) hc rfl (by rw [cm_230]; rfl) rfl (Nat.le_of_ble_eq_true rfl) (show 598 < 621 by decide) (by rw [cm_230]; rfl) (ev_mono hE5_ (by omega)) ?_
            have hrN := (wetR_ok hVA (v := 1) (by omega)).2
            show mm_wp _ _ (157, [some (.ref 598), some (.int (iI z))], [.int (iI ((wetR A T 1).2))], MX L t s5_ l5_) _
            refine wi_zlt hc rfl ⟨by omega, by omega⟩ (fun h10_ => ?_) (fun h10_ => ?_)
            · refine wi_ic hc rfl ?_
              refine wi_r0 hc rfl (by rw [cm_231]; rfl) ?_
              have hR : playR A T z = wetR A T 1 := by
                unfold playR
                rw [if_neg (by omega), if_neg (by omega), if_neg (by omega), if_neg (by omega), if_pos (by omega)]
              rw [hR]
              rw [bI_f (p := 0 ≤ (wetR A T 1).2) (by omega)]
              exact ⟨s5_, l5_, rfl, fun c hc9_ => hF5_ c (by omega), fun c hc9_ => hG5_ c (by omega), hf5_, hJ5_⟩
            · refine wi_ic hc rfl ?_
              refine wi_go hc rfl ?_
              refine wi_r1 hc rfl (by rw [cm_231]; rfl) ?_
              have hR : playR A T z = wetR A T 1 := by
                unfold playR
                rw [if_neg (by omega), if_neg (by omega), if_neg (by omega), if_neg (by omega), if_pos (by omega)]
              rw [hR]
              rw [bI_t (p := 0 ≤ (wetR A T 1).2) (by omega)]
              exact ⟨s5_, l5_, rfl, fun c hc9_ => hF5_ c (by omega), fun c hc9_ => hG5_ c (by omega), hf5_, hJ5_⟩
          · skip
            refine wp_if (fun h11_ => ?_) (fun h11_ => ?_)
            · refine wi_a1 hc rfl rfl ?_
              refine wi_ic hc rfl ?_
              obtain ⟨s6_, l6_, hE6_, hF6_, hG6_, hf6_, hJ6_⟩ := sp_230 (d := 0) (L := L) (t := t) (l := l) hJ hVA (v := 0) (by omega)
              refine wp_cv (b := 598) (As := [.int (iI 0)]) (r := []) hc rfl (by rw [cm_230]; rfl) rfl (Nat.le_of_ble_eq_true rfl) (show 598 < 621 by decide) (by rw [cm_230]; rfl) (ev_mono hE6_ (by omega)) ?_
              have hrN := (wetR_ok hVA (v := 0) (by omega)).2
              show mm_wp _ _ (171, [some (.ref 598), some (.int (iI z))], [.int (iI ((wetR A T 0).2))], MX L t s6_ l6_) _
              refine wi_zlt hc rfl ⟨by omega, by omega⟩ (fun h12_ => ?_) (fun h12_ => ?_)
              · refine wi_ic hc rfl ?_
                refine wi_r0 hc rfl (by rw [cm_231]; rfl) ?_
                have hR : playR A T z = wetR A T 0 := by
                  unfold playR
                  rw [if_neg (by omega), if_neg (by omega), if_neg (by omega), if_neg (by omega), if_neg (by omega), if_pos (by omega)]
                rw [hR]
                rw [bI_f (p := 0 ≤ (wetR A T 0).2) (by omega)]
                exact ⟨s6_, l6_, rfl, fun c hc9_ => hF6_ c (by omega), fun c hc9_ => hG6_ c (by omega), hf6_, hJ6_⟩
              · refine wi_ic hc rfl ?_
                refine wi_go hc rfl ?_
                refine wi_r1 hc rfl (by rw [cm_231]; rfl) ?_
                have hR : playR A T z = wetR A T 0 := by
                  unfold playR
                  rw [if_neg (by omega), if_neg (by omega), if_neg (by omega), if_neg (by omega), if_neg (by omega), if_pos (by omega)]
                rw [hR]
                rw [bI_t (p := 0 ≤ (wetR A T 0).2) (by omega)]
                exact ⟨s6_, l6_, rfl, fun c hc9_ => hF6_ c (by omega), fun c hc9_ => hG6_ c (by omega), hf6_, hJ6_⟩
            · skip
              show mm_wp _ _ (180, [some (.ref 598), some (.int (iI z))], [], MX L t s l) _
              refine wi_ic hc rfl ?_
              refine wi_r1 hc rfl (by rw [cm_231]; rfl) ?_
              have hR : playR A T z = (A, 0) := by
                unfold playR
                rw [if_neg (by omega), if_neg (by omega), if_neg (by omega), if_neg (by omega), if_neg (by omega), if_neg (by omega)]
              rw [hR]
              rw [bI_t (p := 0 ≤ ((A, 0)).2) (by show (0 : Int) ≤ 0; omega)]
              exact ⟨s, l, rfl, fun c _ => rfl, fun c _ => rfl, fun k _ => rfl, hJ⟩
/-- what acts leave as it is: books, need, texts, the text, dust -/
def st0 (A A' : Int → Int) : Prop := ∀ k, (k = 0 ∨ k = 3 ∨ k = 5 ∨ k = 6 ∨ k = 8) → A' k = A k
theorem st0.rf (A : Int → Int) : st0 A A := fun _ _ => rfl
theorem st0.tr {A B C : Int → Int} (h : st0 A B) (g : st0 B C) : st0 A C := fun k a => (g k a).trans (h k a)
theorem st0_keep {A T : Int → Int} (h : VA A T) : st0 A (keepF A) := fun k a => keep_bk h (by omega) (by omega)
theorem mv.st0 {A A' : Int → Int} (h : mv A A') : st0 A A' := fun k a => h.lo (by omega)
theorem st0_set1 {A : Int → Int} {j v : Int} (hj : j = 1 ∨ j = 2 ∨ j = 4) : st0 A (set1 A j v) := fun k a => set1_ne (by omega)
theorem fallAll_mv {A T : Int → Int} (h : KA A T) : mv A (fallAll A T 3).1 := (fallAll_ok h.1 h.2.1 (fun x x0 x1 => by have := h.2.2.1.2.2.2.2.1 x x0 x1; omega) 3 (by decide)).1
theorem nightF_st {A T : Int → Int} (h : VA A T) (hn : A 1 + 1 ≤ 9999) : st0 A (nightF A T) := by
  have h1 := h.2.2.1.1
  obtain ⟨a, b, _⟩ := nightB_ok h
  have hs : KA (set1 (nightB A T).1 1 (A 1 + 1)) T := set1_KA a (Or.inl ⟨rfl, by omega, by omega⟩)
  exact (st0_keep h).tr (st0.tr (fun k q => b k (by omega)) (st0.tr (st0_set1 (Or.inl rfl)) (fallAll_mv hs).st0))
theorem nightI_st {A T : Int → Int} (h : VA A T) : ∀ n : Nat, A 1 + n ≤ 9999 → st0 A (nightI A T n).1
  | 0, _ => st0.rf A
  | n + 1, hn => by
    obtain ⟨a, b, _⟩ := nightI_ok h n (by omega)
    exact (nightI_st h n (by omega)).tr (nightF_st a (by omega))
theorem nightR_st {A T : Int → Int} (h : VA A T) (n : Int) : st0 A (nightR A T n).1 := by
  unfold nightR
  split
  · exact nightI_st h n.toNat (by omega)
  · exact st0.rf A
theorem nudgeR_st {A T : Int → Int} (h : VA A T) (x p : Int) : st0 A (nudgeR A x p).1 := by
  unfold nudgeR
  split
  · rename_i q
    have gm := h.2.1.2.1 x q.1.1 (by omega)
    exact (st0_keep h).tr (mv_ex q.1.1 (by omega : x < 3) q.2.1 (by omega : p < 9)).st0
  · exact st0.rf A
theorem takeR_st {A T : Int → Int} (h : VA A T) (b : Int) : st0 A (takeR A b).1 := by
  unfold takeR
  split
  · rename_i q
    have kv := keep_VA h
    have g := (h.2.1.2.2.2.2 b q.1.1 q.1.2).1
    have g0 := h.2.1.1
    dsimp only
    split
    · rename_i w
      obtain ⟨p0, p1, p2⟩ := placeP_ok h.2.1 q.1.1 q.1.2 w
      have em := keep_bk h (k := 13 + A (46 + 6 * b + 5)) (by omega) (by omega)
      exact (st0_keep h).tr (mv_pull kv.2.1 g.1 (by omega) p0 (by omega)).st0
    · exact (st0_keep h).tr (mv_wh q.1.1 (by omega)).st0
  · exact st0.rf A
theorem putR_st {A T : Int → Int} (h : VA A T) (b x p : Int) : st0 A (putR A T b x p).1 := by
  unfold putR
  split
  · rename_i q
    obtain ⟨⟨q1, q2, q3, q4, q5⟩, q6⟩ := q
    have g0 := h.2.1.1
    have gr := okB_room h.2.1 q1.1 q1.2 q3.1 (by omega : x < 3) (by omega)
    have em := keep_bk h (k := 13 + x) (by omega) (by omega)
    exact (st0_keep h).tr (mv_set q1.1 (by omega) q3.1 (by omega) q4 (by omega) (by omega)).st0
  · exact st0.rf A
theorem wetR_st {A T : Int → Int} (h : VA A T) {v : Int} (hv : v = 0 ∨ v = 1) : st0 A (wetR A T v).1 := by
  unfold wetR
  split
  · exact st0.rf A
  · split
    · have hs := set1_VA (keep_VA h) (j := 2) (v := 1) (Or.inl ⟨rfl, Or.inr rfl⟩)
      exact (st0_keep h).tr ((st0_set1 (Or.inr (Or.inl rfl))).tr (fallAll_mv hs.K).st0)
    · exact (st0_keep h).tr (st0_set1 (Or.inr (Or.inl rfl)))
theorem playR_st {A T : Int → Int} (h : VA A T) (z : Int) : st0 A (playR A T z).1 := by
  unfold playR
  split
  · exact nightR_st h _
  · split
    · exact nudgeR_st h _ _
    · split
      · exact takeR_st h _
      · split
        · exact putR_st h _ _ _
        · split
          · exact wetR_st h (Or.inr rfl)
          · split
            · exact wetR_st h (Or.inl rfl)
            · exact st0.rf A
theorem playN_st0 {T : Int → Int} {b : Int} : ∀ (n : Nat) (k : Int) {A : Int → Int}, VA A T → st0 A (playN T b n k A).1
  | 0, _, A, _ => st0.rf A
  | n + 1, k, A, h => by
    unfold playN
    split
    · exact playR_st h _
    · exact (playR_st h _).tr (playN_st0 n (k + 1) (playR_ok h _).1)
theorem playedR_st {A T : Int → Int} (h : VA A T) (text : Int) : st0 A (playedR A T text).1 := by
  unfold playedR
  split
  · exact playN_st0 _ _ h
  · exact st0.rf A

theorem sp_232 {d L t : Nat} {s l : Nat → Int → Int} {A T : Int → Int} (hJ : JM s A T) (hVA : VA A T) {text : Int} (ht : rI text) : ∃ s1 l1, mm_Ev mm_ct mm_CM (d + 11) 232 [.ref 598, .int (iI text)] (MX L t s l) (some (.int (iI (playedR A T text).2)), MX L t s1 l1) ∧ (∀ c, c ≠ 598 ∧ c ≠ 599 ∧ c ≠ 604 ∧ c ≠ 606 → s1 c = s c) ∧ (∀ c, c ≠ 605 → l1 c = l c) ∧ (∀ k, k ≠ 25 → s1 598 k = s 598 k) ∧ JM s1 (playedR A T text).1 T := by
  have hc : (mm_CM 232).2.2.2.2.2.2.2 = mm_cf cd_232 := by rw [cm_232]; rfl
  refine ev_xsl ?_
  refine ev_to (mx := 3) (by rw [cm_232]; decide) (by rw [cm_232]; rfl) (by show 2 ≤ _; decide) ?_
  show mm_wp _ _ (0, [some (.ref 598), some (.int (iI text)), none], [], MX L t s l) (fun res => ∃ s1 l1, res = (some (.int (iI (playedR A T text).2)), MX L t s1 l1) ∧ (∀ c, c ≠ 598 ∧ c ≠ 599 ∧ c ≠ 604 ∧ c ≠ 606 → s1 c = s c) ∧ (∀ c, c ≠ 605 → l1 c = l c) ∧ (∀ k, k ≠ 25 → s1 598 k = s 598 k) ∧ JM s1 (playedR A T text).1 T)
  have hz5 := hVA.1.2.2.2.1
  refine wi_i1 hc rfl rfl ?_
  refine wi_ic hc rfl ?_
  refine wi_a1 hc rfl rfl ?_
  refine wi_gr (w := 599) hc rfl rfl (by decide) (Nat.le_of_ble_eq_true rfl) rfl ?_
  refine wi_ic hc rfl ?_
  refine wi_ildv (N := 3642) hc rfl rfl (by decide) (by decide) (by omega) (by omega) (v := A 5) (congrFun (hJ.1) _) ?_
  refine wi_ic hc rfl ?_
  refine wi_sub hc rfl ?_
  refine wp_cs (As := [.int (iI text), .int (iI 0), .int (iI ((A 5) - 1))]) (r := []) hc rfl (by rw [cm_148]; rfl) rfl (Nat.le_of_ble_eq_true rfl) (ev_mono (sp_148 (d := 0) ht ⟨by decide, by decide⟩ ⟨by omega, by omega⟩) (by omega)) ?_
  show mm_wp _ _ (13, [some (.ref 598), some (.int (iI text)), none], [.int (iI (bI (0 ≤ text ∧ text ≤ (A 5) - 1)))], MX L t s l) _
  refine wi_bne hc rfl (fun h1_ => ?_) (fun h1_ => ?_)
  · have htx := hVA.1.2.2.2.2.2.2 text (by omega) (by omega)
    have htn := htx.1
    have hz5 := hVA.1.2.2.2.1
    refine wi_ic hc rfl ?_
    refine wi_is1 (L' := [some (.ref 598), some (.int (iI text)), some (.int (iI 0))]) hc rfl (Nat.le_of_ble_eq_true rfl) rfl ?_
    have loop21_ : ∀ k : Int, k ≤ T (705 * text) → 0 ≤ k → ∀ (C : Int → Int) (s2 l2 : Nat → Int → Int), VA C T → playN T (705 * text) (T (705 * text)).toNat 0 A = playN T (705 * text) (T (705 * text) - k).toNat k C → (∀ c, c ≠ 598 ∧ c ≠ 599 ∧ c ≠ 604 ∧ c ≠ 606 → s2 c = s c) → (∀ c, c ≠ 605 → l2 c = l c) → (∀ k, k ≠ 25 → s2 598 k = s 598 k) → JM s2 C T → mm_wp (mm_Ev mm_ct mm_CM (d + 10)) 232 (21, [some (.ref 598), some (.int (iI text)), some (.int (iI k))], [], MX L t s2 l2) (fun res => ∃ s1 l1, res = (some (.int (iI (playedR A T text).2)), MX L t s1 l1) ∧ (∀ c, c ≠ 598 ∧ c ≠ 599 ∧ c ≠ 604 ∧ c ≠ 606 → s1 c = s c) ∧ (∀ c, c ≠ 605 → l1 c = l c) ∧ (∀ k, k ≠ 25 → s1 598 k = s 598 k) ∧ JM s1 (playedR A T text).1 T) := by
      refine up_ind ?_
      intro k hk ih hk0 C s2 l2 hVC hY hF hG hf hJ2
      refine wi_i1 hc rfl rfl ?_
      refine wi_a1 hc rfl rfl ?_
      refine wi_gr (w := 601) hc rfl rfl (by decide) (Nat.le_of_ble_eq_true rfl) rfl ?_
      refine wi_si hc rfl rfl ?_
      refine wi_i1 hc rfl rfl ?_
      refine wi_mul hc rfl ?_
      refine wi_ildv (N := 2820) hc rfl rfl (by decide) (by decide) (by omega) (by omega) (v := T (705 * text)) (congrFun (hJ2.2.1) _) ?_
      refine wi_cge hc rfl ⟨by omega, by omega⟩ ⟨by omega, by omega⟩ (fun h2_ => ?_) (fun h2_ => ?_)
      · refine wi_ic hc rfl ?_
        refine wi_ri hc rfl (by rw [cm_232]; rfl) ?_
        have hR : playedR A T text = playN T (705 * text) (T (705 * text)).toNat 0 A := by unfold playedR; rw [if_pos (by omega)]
        rw [playN_en hY (by omega)] at hR
        rw [hR]
        exact ⟨s2, l2, rfl, hF, hG, hf, hJ2⟩
      · refine wi_a1 hc rfl rfl ?_
        refine wi_si hc rfl rfl ?_
        refine wi_i1 hc rfl rfl ?_
        refine wi_mul hc rfl ?_
        refine wi_ic hc rfl ?_
        refine wi_add hc rfl ?_
        refine wi_ic hc rfl ?_
        refine wi_i1 hc rfl rfl ?_
        refine wi_mul hc rfl ?_
        refine wi_add hc rfl ?_
        obtain ⟨s1_, l1_, hE1_, hF1_, hG1_, hf1_, hJ1_⟩ := sp_231 (d := 0) (L := L) (t := t) (l := l2) hJ2 hVC (z := 705 * text + 1 + 4 * k) (by omega) (by omega) (htx.okP (by omega) (by omega))
        refine wp_cv (b := 598) (As := [.int (iI (((705 * text) + 1) + (4 * k)))]) (r := []) hc rfl (by rw [cm_231]; rfl) rfl (Nat.le_of_ble_eq_true rfl) (show 598 < 621 by decide) (by rw [cm_231]; rfl) (ev_mono hE1_ (by omega)) ?_
        have hVC2 := (playR_ok hVC (705 * text + 1 + 4 * k)).1
        show mm_wp _ _ (50, [some (.ref 598), some (.int (iI text)), some (.int (iI k))], [.int (iI (bI (0 ≤ (playR C T (705 * text + 1 + 4 * k)).2)))], MX L t s1_ l1_) _
        refine wi_bne hc rfl (fun h3_ => ?_) (fun h3_ => ?_)
        · refine wi_inc (L' := [some (.ref 598), some (.int (iI text)), some (.int (iI (k + 1)))]) hc rfl rfl rfl ?_
          refine wi_go hc rfl ?_
          exact ih (by omega) (by omega) _ s1_ l1_ hVC2 (playN_st hY (by omega) (by omega)) (fun c hc9_ => (hF1_ c (by omega)).trans (hF c (by omega))) (fun c hc9_ => (hG1_ c (by omega)).trans (hG c (by omega))) (fun q9 hq9 => (hf1_ q9 hq9).trans (hf q9 hq9)) hJ1_
        · refine wi_i1 hc rfl rfl ?_
          refine wi_ri hc rfl (by rw [cm_232]; rfl) ?_
          have hR : playedR A T text = playN T (705 * text) (T (705 * text)).toNat 0 A := by unfold playedR; rw [if_pos (by omega)]
          rw [playN_no hY (by omega) (by omega)] at hR
          rw [hR]
          exact ⟨s1_, l1_, rfl, fun c hc9_ => (hF1_ c (by omega)).trans (hF c (by omega)), fun c hc9_ => (hG1_ c (by omega)).trans (hG c (by omega)), fun q9 hq9 => (hf1_ q9 hq9).trans (hf q9 hq9), hJ1_⟩
    exact loop21_ 0 (by omega) (by omega) A s l hVA (by rw [show T (705 * text) - 0 = T (705 * text) by omega]) (fun c _ => rfl) (fun c _ => rfl) (fun k _ => rfl) hJ
  · refine wi_bi hc rfl rfl ?_
    refine wi_ri hc rfl (by rw [cm_232]; rfl) ?_
    have hR : playedR A T text = (A, -2) := by unfold playedR; rw [if_neg (by omega)]
    rw [hR]
    exact ⟨s, l, rfl, fun c _ => rfl, fun c _ => rfl, fun k _ => rfl, hJ⟩
theorem sp_81 {d L t : Nat} {s l : Nat → Int → Int} {u : Nat} {n k : Int} (hk : KT L t u) (hu5 : s u 5 = n) (hn : 0 ≤ n ∧ n ≤ 24) (h0 : 0 ≤ k) (h1 : k < n) : mm_Ev mm_ct mm_CM (d + 1) 81 [.ref u, .int (iI k)] (MX L t s l) (some (.int (iI (s (u + 1) k))), MX L t s l) := by
  have hc : (mm_CM 81).2.2.2.2.2.2.2 = mm_cf cd_81 := by rw [cm_81]; rfl
  refine ev_of (mx := 2) (by rw [cm_81]; decide) (by rw [cm_81]; rfl) (by show 2 ≤ _; decide) ?_
  show mm_wp _ _ (0, [some (.ref u), some (.int (iI k))], [], MX L t s l) (fun r => r = (some (.int (iI (s (u + 1) k))), MX L t s l))
  refine wi_i1 hc rfl rfl ?_
  refine wi_zlt hc rfl ⟨by omega, by omega⟩ (fun h1_ => (by exfalso; omega)) (fun h1_ => ?_)
  refine wi_i1 hc rfl rfl ?_
  refine wi_a1 hc rfl rfl ?_
  refine wi_gfs (kz := 5) rfl hk.2.1 hc rfl (by have := hk.1; omega) (by decide) rfl (v := n) (hu5) ?_
  refine wi_cge hc rfl ⟨by omega, by omega⟩ ⟨by omega, by omega⟩ (fun h2_ => (by exfalso; omega)) (fun h2_ => ?_)
  refine wi_a1 hc rfl rfl ?_
  refine wi_grs (w := u + 1) hk.2.1 hc rfl (by have := hk.1; omega) (by decide) rfl ?_
  refine wi_i1 hc rfl rfl ?_
  refine wi_ild (N := 24) hc rfl hk.2.2.1 (by have := hk.1; omega) (by decide) (by omega) (by omega) ?_
  refine wi_go hc rfl ?_
  refine wi_ri hc rfl (by rw [cm_81]; rfl) ?_
  rfl
theorem sp_82 {d L t : Nat} {s l : Nat → Int → Int} {u : Nat} {n k : Int} (hk : KT L t u) (hu5 : s u 5 = n) (hn : 0 ≤ n ∧ n ≤ 24) (h0 : 0 ≤ k) (h1 : k < n) {j : Int} (hj0 : 0 ≤ j) (hj1 : j < 3) : mm_Ev mm_ct mm_CM (d + 1) 82 [.ref u, .int (iI k), .int (iI j)] (MX L t s l) (some (.int (iI (s (u + 2) (3 * k + j)))), MX L t s l) := by
  have hc : (mm_CM 82).2.2.2.2.2.2.2 = mm_cf cd_82 := by rw [cm_82]; rfl
  refine ev_of (mx := 3) (by rw [cm_82]; decide) (by rw [cm_82]; rfl) (by show 3 ≤ _; decide) ?_
  show mm_wp _ _ (0, [some (.ref u), some (.int (iI k)), some (.int (iI j))], [], MX L t s l) (fun r => r = (some (.int (iI (s (u + 2) (3 * k + j)))), MX L t s l))
  refine wi_i1 hc rfl rfl ?_
  refine wi_zlt hc rfl ⟨by omega, by omega⟩ (fun h1_ => (by exfalso; omega)) (fun h1_ => ?_)
  refine wi_i1 hc rfl rfl ?_
  refine wi_a1 hc rfl rfl ?_
  refine wi_gfs (kz := 5) rfl hk.2.1 hc rfl (by have := hk.1; omega) (by decide) rfl (v := n) (hu5) ?_
  refine wi_cge hc rfl ⟨by omega, by omega⟩ ⟨by omega, by omega⟩ (fun h2_ => (by exfalso; omega)) (fun h2_ => ?_)
  refine wi_a1 hc rfl rfl ?_
  refine wi_grs (w := u + 2) hk.2.1 hc rfl (by have := hk.1; omega) (by decide) rfl ?_
  refine wi_ic hc rfl ?_
  refine wi_i1 hc rfl rfl ?_
  refine wi_mul hc rfl ?_
  refine wi_i1 hc rfl rfl ?_
  refine wi_add hc rfl ?_
  refine wi_ild (N := 72) hc rfl hk.2.2.2.1 (by have := hk.1; omega) (by decide) (by omega) (by omega) ?_
  refine wi_go hc rfl ?_
  refine wi_ri hc rfl (by rw [cm_82]; rfl) ?_
  rfl
theorem sp_130 {d L t : Nat} {s l : Nat → Int → Int} {A T : Int → Int} (hJ : JC s A T) (hV : VJ A T) {x : Int} (hx : rI x) : mm_Ev mm_ct mm_CM (d + 1) 130 [.ref 0, .int (iI x)] (MX L t s l) (some (.int (iI (bI (0 ≤ x ∧ x < A 5)))), MX L t s l) := by
  have hc : (mm_CM 130).2.2.2.2.2.2.2 = mm_cf cd_130 := by rw [cm_130]; rfl
  refine ev_of (mx := 2) (by rw [cm_130]; decide) (by rw [cm_130]; rfl) (by show 2 ≤ _; decide) ?_
  show mm_wp _ _ (0, [some (.ref 0), some (.int (iI x))], [], MX L t s l) (fun r => r = (some (.int (iI (bI (0 ≤ x ∧ x < A 5)))), MX L t s l))
  have hz5 := hV.2.2.2.1
  refine wi_i1 hc rfl rfl ?_
  refine wi_zlt hc rfl hx (fun h1_ => ?_) (fun h1_ => ?_)
  · refine wi_ic hc rfl ?_
    refine wi_r0 hc rfl (by rw [cm_130]; rfl) ?_
    rw [bI_f (p := 0 ≤ x ∧ x < A 5) (by omega)]
  · refine wi_i1 hc rfl rfl ?_
    refine wi_a1 hc rfl rfl ?_
    refine wi_gr (w := 1) hc rfl rfl (by decide) (Nat.le_of_ble_eq_true rfl) rfl ?_
    refine wi_gfv (kz := 10) rfl hc rfl rfl (by decide) (Nat.le_of_ble_eq_true rfl) rfl (v := A 5) (lb_tc hJ.1) ?_
    refine wi_cge hc rfl hx ⟨by omega, by omega⟩ (fun h2_ => ?_) (fun h2_ => ?_)
    · refine wi_ic hc rfl ?_
      refine wi_r0 hc rfl (by rw [cm_130]; rfl) ?_
      rw [bI_f (p := 0 ≤ x ∧ x < A 5) (by omega)]
    · refine wi_ic hc rfl ?_
      refine wi_go hc rfl ?_
      refine wi_r1 hc rfl (by rw [cm_130]; rfl) ?_
      rw [bI_t (p := 0 ≤ x ∧ x < A 5) (by omega)]
theorem wdS_c (k : Int) : (k = 8 ∧ wdS k = 5) ∨ (k = 9 ∧ wdS k = 23) ∨ (k ≠ 8 ∧ k ≠ 9 ∧ wdS k = 15 + k) := by
  unfold wdS
  split
  · omega
  · split <;> omega

theorem sp_98 {d L t : Nat} {s l : Nat → Int → Int} {A T : Int → Int} (hJ : JC s A T) (hVA : VA A T) {text : Int} (ht : rI text) : ∃ s1, mm_Ev mm_ct mm_CM (d + 8) 98 [.ref 0, .int (iI text)] (MX L t s l) (some (.int (iI (playedR A T text).2)), MX L t s1 l) ∧ (∀ c, ¬ (1 ≤ c ∧ c ≤ 288) ∧ c ≠ 578 ∧ c ≠ 579 → s1 c = s c) ∧ JC s1 (playedR A T text).1 T := by
  have hc : (mm_CM 98).2.2.2.2.2.2.2 = mm_cf cd_98 := by rw [cm_98]; rfl
  refine ev_xs ?_
  refine ev_to (mx := 5) (by rw [cm_98]; decide) (by rw [cm_98]; rfl) (by show 2 ≤ _; decide) ?_
  show mm_wp _ _ (0, [some (.ref 0), some (.int (iI text)), none, none, none], [], MX L t s l) (fun res => ∃ s1, res = (some (.int (iI (playedR A T text).2)), MX L t s1 l) ∧ (∀ c, ¬ (1 ≤ c ∧ c ≤ 288) ∧ c ≠ 578 ∧ c ≠ 579 → s1 c = s c) ∧ JC s1 (playedR A T text).1 T)
  have hz5 := hVA.1.2.2.2.1
  refine wi_a1 hc rfl rfl ?_
  refine wi_i1 hc rfl rfl ?_
  refine wp_cv (b := 0) (As := [.int (iI text)]) (r := []) hc rfl (by rw [cm_130]; rfl) rfl (Nat.le_of_ble_eq_true rfl) (show 0 < 621 by decide) (by rw [cm_130]; rfl) (ev_mono (sp_130 (d := 0) hJ hVA.K.1 ht) (by omega)) ?_
  show mm_wp _ _ (5, [some (.ref 0), some (.int (iI text)), none, none, none], [.int (iI (bI (0 ≤ text ∧ text < A 5)))], MX L t s l) _
  refine wi_beq hc rfl (fun h1_ => ?_) (fun h1_ => ?_)
  · refine wi_nul hc rfl ?_
    refine wi_asn1 (L' := [some (.ref 0), some (.int (iI text)), some (.null), none, none]) hc rfl (Nat.le_of_ble_eq_true rfl) rfl ?_
    refine wi_aln1 hc rfl rfl ?_
    refine wi_innn hc rfl ?_
    refine wi_bi hc rfl rfl ?_
    refine wi_ri hc rfl (by rw [cm_98]; rfl) ?_
    have hR : playedR A T text = (A, -2) := by unfold playedR; rw [if_neg (by omega)]
    rw [hR]
    exact ⟨s, rfl, fun c _ => rfl, hJ⟩
  · refine wi_a1 hc rfl rfl ?_
    refine wi_gr (w := 1) hc rfl rfl (by decide) (Nat.le_of_ble_eq_true rfl) rfl ?_
    refine wi_i1 hc rfl rfl ?_
    refine wp_cv (b := 1) (As := [.int (iI text)]) (r := []) hc rfl (by rw [cm_13]; rfl) rfl (Nat.le_of_ble_eq_true rfl) (show 1 < 621 by decide) (by rw [cm_13]; rfl) (ev_mono (sp_13 (d := 0) (x := text) (by omega) (by omega)) (by omega)) ?_
    show mm_wp _ _ (16, [some (.ref 0), some (.int (iI text)), none, none, none], [.ref (265 + 6 * text.toNat)], MX L t s l) _
    refine wi_go hc rfl ?_
    refine wi_as1 (L' := [some (.ref 0), some (.int (iI text)), some (.ref (265 + 6 * text.toNat)), none, none]) hc rfl (Nat.le_of_ble_eq_true rfl) rfl ?_
    refine wi_a1 hc rfl rfl ?_
    refine wi_innr hc rfl ?_
    have htx := hVA.1.2.2.2.2.2.2 text (by omega) (by omega)
    have htn := htx.1
    have hz5 := hVA.1.2.2.2.1
    refine wi_ic hc rfl ?_
    refine wi_is1 (L' := [some (.ref 0), some (.int (iI text)), some (.ref (265 + 6 * text.toNat)), some (.int (iI 0)), none]) hc rfl (Nat.le_of_ble_eq_true rfl) rfl ?_
    have loop30_ : ∀ k : Int, k ≤ T (705 * text) → 0 ≤ k → ∀ (C : Int → Int) (q4 : Option Value) (s2 : Nat → Int → Int), VA C T → C 5 = A 5 → playN T (705 * text) (T (705 * text)).toNat 0 A = playN T (705 * text) (T (705 * text) - k).toNat k C → (∀ c, ¬ (1 ≤ c ∧ c ≤ 288) ∧ c ≠ 578 ∧ c ≠ 579 → s2 c = s c) → JC s2 C T → mm_wp (mm_Ev mm_ct mm_CM (d + 7)) 98 (30, [some (.ref 0), some (.int (iI text)), some (.ref (265 + 6 * text.toNat)), some (.int (iI k)), q4], [], MX L t s2 l) (fun res => ∃ s1, res = (some (.int (iI (playedR A T text).2)), MX L t s1 l) ∧ (∀ c, ¬ (1 ≤ c ∧ c ≤ 288) ∧ c ≠ 578 ∧ c ≠ 579 → s1 c = s c) ∧ JC s1 (playedR A T text).1 T) := by
      refine up_ind ?_
      intro k hk ih hk0 C q4 s2 hVC hC5 hY hF hJ2
      have htx2 := lb_text hJ2.1 (i := text) (by omega) (by omega)
      have hkt := kt_now (L := L) (t := t) (i := text) (by omega) (by omega)
      refine wi_i1 hc rfl rfl ?_
      refine wi_a1 hc rfl rfl ?_
      refine wi_gfs (kz := 5) rfl (kt_now (by omega) (by omega)).2.1 hc rfl (by omega) (by decide) rfl (v := T (705 * text)) (htx2.1) ?_
      refine wi_cge hc rfl ⟨by omega, by omega⟩ ⟨by omega, by omega⟩ (fun h2_ => ?_) (fun h2_ => ?_)
      · refine wi_ic hc rfl ?_
        refine wi_ri hc rfl (by rw [cm_98]; rfl) ?_
        have hU : playedR A T text = playN T (705 * text) (T (705 * text)).toNat 0 A := by unfold playedR; rw [if_pos (by omega)]
        rw [playN_en hY (by omega)] at hU
        rw [hU]
        exact ⟨s2, rfl, hF, hJ2⟩
      · refine wi_ic hc rfl ?_
        refine wi_is2 (L' := [some (.ref 0), some (.int (iI text)), some (.ref (265 + 6 * text.toNat)), some (.int (iI k)), some (.int (iI 1))]) hc rfl (Nat.le_of_ble_eq_true rfl) rfl ?_
        refine wi_a1 hc rfl rfl ?_
        refine wi_i1 hc rfl rfl ?_
        refine wp_cv (b := 265 + 6 * text.toNat) (As := [.int (iI k)]) (r := []) hc rfl (by rw [cm_81]; rfl) rfl (Nat.le_of_ble_eq_true rfl) (show 265 + 6 * text.toNat < 621 by omega) (by rw [cm_81]; exact congrArg Prod.fst (kt_now (by omega) (by omega)).2.1) (ev_mono (sp_81 (d := 0) hkt htx2.1 htn hk0 (by omega)) (by omega)) ?_
        rw [(htx2.2.1 k hk0 (by omega)).1]
        have hwc := wdS_c (T (705 * text + 1 + 4 * k))
        obtain ⟨wd, hwd⟩ : ∃ z9, z9 = wdS (T (705 * text + 1 + 4 * k)) := ⟨_, rfl⟩
        rw [← hwd] at hwc
        rw [← hwd]
        have hP := htx.okP hk0 (by omega : k < T (705 * text))
        have hP0 := hP.1
        have hP4 := hP.2.1
        have hP5 := hP.2.2.1
        have hP6 := hP.2.2.2.1
        have hP7 := hP.2.2.2.2
        show mm_wp _ _ (46, [some (.ref 0), some (.int (iI text)), some (.ref (265 + 6 * text.toNat)), some (.int (iI k)), some (.int (iI 1))], [.int (iI wd)], MX L t s2 l) _
        refine wi_sw hc rfl ⟨by omega, by omega⟩ ?_
        refine wp_if (fun h3_ => ?_) (fun h3_ => ?_)
        · refine wi_a1 hc rfl rfl ?_
          refine wi_ic hc rfl ?_
          obtain ⟨s1_, hE1_, hF1_, hJ1_⟩ := sp_97 (d := 0) (L := L) (t := t) (l := l) hJ2 hVC (v := 1) (by omega)
          refine wp_cv (b := 0) (As := [.int (iI 1)]) (r := []) hc rfl (by rw [cm_97]; rfl) rfl (Nat.le_of_ble_eq_true rfl) (show 0 < 621 by decide) (by rw [cm_97]; rfl) (ev_mono hE1_ (by omega)) ?_
          have hrN := (wetR_ok hVC (v := 1) (by omega)).2
          show mm_wp _ _ (255, [some (.ref 0), some (.int (iI text)), some (.ref (265 + 6 * text.toNat)), some (.int (iI k)), some (.int (iI 1))], [.int (iI ((wetR C T 1).2))], MX L t s1_ l) _
          refine wi_ic hc rfl ?_
          refine wi_ceq hc rfl ⟨by omega, by omega⟩ ⟨by decide, by decide⟩ (fun h4_ => ?_) (fun h4_ => ?_)
          · refine wi_ic hc rfl ?_
            refine wi_is2 (L' := [some (.ref 0), some (.int (iI text)), some (.ref (265 + 6 * text.toNat)), some (.int (iI k)), some (.int (iI 0))]) hc rfl (Nat.le_of_ble_eq_true rfl) rfl ?_
            refine wi_go hc rfl ?_
            refine wi_i2 hc rfl rfl ?_
            refine wi_zne hc rfl ⟨by decide, by decide⟩ (fun q => absurd q (by decide)) (fun _ => ?_)
            refine wi_i1 hc rfl rfl ?_
            refine wi_ri hc rfl (by rw [cm_98]; rfl) ?_
            have hU : playedR A T text = playN T (705 * text) (T (705 * text)).toNat 0 A := by unfold playedR; rw [if_pos (by omega)]
            have hR : playR C T (705 * text + 1 + 4 * k) = wetR C T 1 := by
              unfold playR
              rw [if_neg (by omega), if_neg (by omega), if_neg (by omega), if_neg (by omega), if_pos (by omega)]
            rw [playN_no hY (by omega) (by rw [hR]; omega), hR] at hU
            rw [hU]
            exact ⟨s1_, rfl, fun c hc9_ => (hF1_ c (by omega)).trans (hF c (by omega)), hJ1_⟩
          · refine wi_ic hc rfl ?_
            refine wi_go hc rfl ?_
            refine wi_is2 (L' := [some (.ref 0), some (.int (iI text)), some (.ref (265 + 6 * text.toNat)), some (.int (iI k)), some (.int (iI 1))]) hc rfl (Nat.le_of_ble_eq_true rfl) rfl ?_
            refine wi_go hc rfl ?_
            refine wi_i2 hc rfl rfl ?_
            refine wi_zne hc rfl ⟨by decide, by decide⟩ (fun _ => ?_) (fun q => absurd q (by decide))
            refine wi_inc (L' := [some (.ref 0), some (.int (iI text)), some (.ref (265 + 6 * text.toNat)), some (.int (iI (k + 1))), some (.int (iI 1))]) hc rfl rfl rfl ?_
            refine wi_go hc rfl ?_
            have hR : playR C T (705 * text + 1 + 4 * k) = wetR C T 1 := by
              unfold playR
              rw [if_neg (by omega), if_neg (by omega), if_neg (by omega), if_neg (by omega), if_pos (by omega)]
            have hst := playN_st hY (by omega) (by rw [hR]; omega)
            have hV9 := (playR_ok hVC (705 * text + 1 + 4 * k)).1
            have hs9 := playR_st hVC (705 * text + 1 + 4 * k)
            rw [hR] at hst hV9 hs9
            exact ih (by omega) (by omega) _ _ s1_ hV9 ((hs9 5 (by omega)).trans hC5) hst (fun c hc9_ => (hF1_ c (by omega)).trans (hF c (by omega))) hJ1_
        · skip
          refine wp_if (fun h7_ => ?_) (fun h7_ => ?_)
          · refine wi_i2 hc rfl rfl ?_
            refine wi_zne hc rfl ⟨by decide, by decide⟩ (fun _ => ?_) (fun q => absurd q (by decide))
            refine wi_inc (L' := [some (.ref 0), some (.int (iI text)), some (.ref (265 + 6 * text.toNat)), some (.int (iI (k + 1))), some (.int (iI 1))]) hc rfl rfl rfl ?_
            refine wi_go hc rfl ?_
            have hR : playR C T (705 * text + 1 + 4 * k) = (C, 0) := by
              unfold playR
              rw [if_neg (by omega), if_neg (by omega), if_neg (by omega), if_neg (by omega), if_neg (by omega), if_neg (by omega)]
            have hst := playN_st hY (by omega) (by rw [hR]; exact Int.le_refl 0)
            have hV9 := (playR_ok hVC (705 * text + 1 + 4 * k)).1
            have hs9 := playR_st hVC (705 * text + 1 + 4 * k)
            rw [hR] at hst hV9 hs9
            exact ih (by omega) (by omega) _ _ s2 hV9 ((hs9 5 (by omega)).trans hC5) hst (fun c hc9_ => hF c (by omega)) hJ2
          · skip
            refine wp_if (fun h9_ => ?_) (fun h9_ => ?_)
            · refine wi_i2 hc rfl rfl ?_
              refine wi_zne hc rfl ⟨by decide, by decide⟩ (fun _ => ?_) (fun q => absurd q (by decide))
              refine wi_inc (L' := [some (.ref 0), some (.int (iI text)), some (.ref (265 + 6 * text.toNat)), some (.int (iI (k + 1))), some (.int (iI 1))]) hc rfl rfl rfl ?_
              refine wi_go hc rfl ?_
              have hR : playR C T (705 * text + 1 + 4 * k) = (C, 0) := by
                unfold playR
                rw [if_neg (by omega), if_neg (by omega), if_neg (by omega), if_neg (by omega), if_neg (by omega), if_neg (by omega)]
              have hst := playN_st hY (by omega) (by rw [hR]; exact Int.le_refl 0)
              have hV9 := (playR_ok hVC (705 * text + 1 + 4 * k)).1
              have hs9 := playR_st hVC (705 * text + 1 + 4 * k)
              rw [hR] at hst hV9 hs9
              exact ih (by omega) (by omega) _ _ s2 hV9 ((hs9 5 (by omega)).trans hC5) hst (fun c hc9_ => hF c (by omega)) hJ2
            · skip
              refine wp_if (fun h11_ => ?_) (fun h11_ => ?_)
              · refine wi_i2 hc rfl rfl ?_
                refine wi_zne hc rfl ⟨by decide, by decide⟩ (fun _ => ?_) (fun q => absurd q (by decide))
                refine wi_inc (L' := [some (.ref 0), some (.int (iI text)), some (.ref (265 + 6 * text.toNat)), some (.int (iI (k + 1))), some (.int (iI 1))]) hc rfl rfl rfl ?_
                refine wi_go hc rfl ?_
                have hR : playR C T (705 * text + 1 + 4 * k) = (C, 0) := by
                  unfold playR
                  rw [if_neg (by omega), if_neg (by omega), if_neg (by omega), if_neg (by omega), if_neg (by omega), if_neg (by omega)]
                have hst := playN_st hY (by omega) (by rw [hR]; exact Int.le_refl 0)
                have hV9 := (playR_ok hVC (705 * text + 1 + 4 * k)).1
                have hs9 := playR_st hVC (705 * text + 1 + 4 * k)
                rw [hR] at hst hV9 hs9
                exact ih (by omega) (by omega) _ _ s2 hV9 ((hs9 5 (by omega)).trans hC5) hst (fun c hc9_ => hF c (by omega)) hJ2
              · skip
                refine wp_if (fun h13_ => ?_) (fun h13_ => ?_)
                · refine wi_i2 hc rfl rfl ?_
                  refine wi_zne hc rfl ⟨by decide, by decide⟩ (fun _ => ?_) (fun q => absurd q (by decide))
                  refine wi_inc (L' := [some (.ref 0), some (.int (iI text)), some (.ref (265 + 6 * text.toNat)), some (.int (iI (k + 1))), some (.int (iI 1))]) hc rfl rfl rfl ?_
                  refine wi_go hc rfl ?_
                  have hR : playR C T (705 * text + 1 + 4 * k) = (C, 0) := by
                    unfold playR
                    rw [if_neg (by omega), if_neg (by omega), if_neg (by omega), if_neg (by omega), if_neg (by omega), if_neg (by omega)]
                  have hst := playN_st hY (by omega) (by rw [hR]; exact Int.le_refl 0)
                  have hV9 := (playR_ok hVC (705 * text + 1 + 4 * k)).1
                  have hs9 := playR_st hVC (705 * text + 1 + 4 * k)
                  rw [hR] at hst hV9 hs9
                  exact ih (by omega) (by omega) _ _ s2 hV9 ((hs9 5 (by omega)).trans hC5) hst (fun c hc9_ => hF c (by omega)) hJ2
                · skip
                  refine wp_if (fun h15_ => ?_) (fun h15_ => ?_)
                  · refine wi_i2 hc rfl rfl ?_
                    refine wi_zne hc rfl ⟨by decide, by decide⟩ (fun _ => ?_) (fun q => absurd q (by decide))
                    refine wi_inc (L' := [some (.ref 0), some (.int (iI text)), some (.ref (265 + 6 * text.toNat)), some (.int (iI (k + 1))), some (.int (iI 1))]) hc rfl rfl rfl ?_
                    refine wi_go hc rfl ?_
                    have hR : playR C T (705 * text + 1 + 4 * k) = (C, 0) := by
                      unfold playR
                      rw [if_neg (by omega), if_neg (by omega), if_neg (by omega), if_neg (by omega), if_neg (by omega), if_neg (by omega)]
                    have hst := playN_st hY (by omega) (by rw [hR]; exact Int.le_refl 0)
                    have hV9 := (playR_ok hVC (705 * text + 1 + 4 * k)).1
                    have hs9 := playR_st hVC (705 * text + 1 + 4 * k)
                    rw [hR] at hst hV9 hs9
                    exact ih (by omega) (by omega) _ _ s2 hV9 ((hs9 5 (by omega)).trans hC5) hst (fun c hc9_ => hF c (by omega)) hJ2
                  · skip
                    refine wp_if (fun h17_ => ?_) (fun h17_ => ?_)
                    · refine wi_i2 hc rfl rfl ?_
                      refine wi_zne hc rfl ⟨by decide, by decide⟩ (fun _ => ?_) (fun q => absurd q (by decide))
                      refine wi_inc (L' := [some (.ref 0), some (.int (iI text)), some (.ref (265 + 6 * text.toNat)), some (.int (iI (k + 1))), some (.int (iI 1))]) hc rfl rfl rfl ?_
                      refine wi_go hc rfl ?_
                      have hR : playR C T (705 * text + 1 + 4 * k) = (C, 0) := by
                        unfold playR
                        rw [if_neg (by omega), if_neg (by omega), if_neg (by omega), if_neg (by omega), if_neg (by omega), if_neg (by omega)]
                      have hst := playN_st hY (by omega) (by rw [hR]; exact Int.le_refl 0)
                      have hV9 := (playR_ok hVC (705 * text + 1 + 4 * k)).1
                      have hs9 := playR_st hVC (705 * text + 1 + 4 * k)
                      rw [hR] at hst hV9 hs9
                      exact ih (by omega) (by omega) _ _ s2 hV9 ((hs9 5 (by omega)).trans hC5) hst (fun c hc9_ => hF c (by omega)) hJ2
                    · skip
                      refine wp_if (fun h19_ => ?_) (fun h19_ => ?_)
                      · refine wi_i2 hc rfl rfl ?_
                        refine wi_zne hc rfl ⟨by decide, by decide⟩ (fun _ => ?_) (fun q => absurd q (by decide))
                        refine wi_inc (L' := [some (.ref 0), some (.int (iI text)), some (.ref (265 + 6 * text.toNat)), some (.int (iI (k + 1))), some (.int (iI 1))]) hc rfl rfl rfl ?_
                        refine wi_go hc rfl ?_
                        have hR : playR C T (705 * text + 1 + 4 * k) = (C, 0) := by
                          unfold playR
                          rw [if_neg (by omega), if_neg (by omega), if_neg (by omega), if_neg (by omega), if_neg (by omega), if_neg (by omega)]
                        have hst := playN_st hY (by omega) (by rw [hR]; exact Int.le_refl 0)
                        have hV9 := (playR_ok hVC (705 * text + 1 + 4 * k)).1
                        have hs9 := playR_st hVC (705 * text + 1 + 4 * k)
                        rw [hR] at hst hV9 hs9
                        exact ih (by omega) (by omega) _ _ s2 hV9 ((hs9 5 (by omega)).trans hC5) hst (fun c hc9_ => hF c (by omega)) hJ2
                      · skip
                        refine wp_if (fun h21_ => ?_) (fun h21_ => ?_)
                        · refine wi_i2 hc rfl rfl ?_
                          refine wi_zne hc rfl ⟨by decide, by decide⟩ (fun _ => ?_) (fun q => absurd q (by decide))
                          refine wi_inc (L' := [some (.ref 0), some (.int (iI text)), some (.ref (265 + 6 * text.toNat)), some (.int (iI (k + 1))), some (.int (iI 1))]) hc rfl rfl rfl ?_
                          refine wi_go hc rfl ?_
                          have hR : playR C T (705 * text + 1 + 4 * k) = (C, 0) := by
                            unfold playR
                            rw [if_neg (by omega), if_neg (by omega), if_neg (by omega), if_neg (by omega), if_neg (by omega), if_neg (by omega)]
                          have hst := playN_st hY (by omega) (by rw [hR]; exact Int.le_refl 0)
                          have hV9 := (playR_ok hVC (705 * text + 1 + 4 * k)).1
                          have hs9 := playR_st hVC (705 * text + 1 + 4 * k)
                          rw [hR] at hst hV9 hs9
                          exact ih (by omega) (by omega) _ _ s2 hV9 ((hs9 5 (by omega)).trans hC5) hst (fun c hc9_ => hF c (by omega)) hJ2
                        · skip
                          refine wp_if (fun h23_ => ?_) (fun h23_ => ?_)
                          · refine wi_i2 hc rfl rfl ?_
                            refine wi_zne hc rfl ⟨by decide, by decide⟩ (fun _ => ?_) (fun q => absurd q (by decide))
                            refine wi_inc (L' := [some (.ref 0), some (.int (iI text)), some (.ref (265 + 6 * text.toNat)), some (.int (iI (k + 1))), some (.int (iI 1))]) hc rfl rfl rfl ?_
                            refine wi_go hc rfl ?_
                            have hR : playR C T (705 * text + 1 + 4 * k) = (C, 0) := by
                              unfold playR
                              rw [if_neg (by omega), if_neg (by omega), if_neg (by omega), if_neg (by omega), if_neg (by omega), if_neg (by omega)]
                            have hst := playN_st hY (by omega) (by rw [hR]; exact Int.le_refl 0)
                            have hV9 := (playR_ok hVC (705 * text + 1 + 4 * k)).1
                            have hs9 := playR_st hVC (705 * text + 1 + 4 * k)
                            rw [hR] at hst hV9 hs9
                            exact ih (by omega) (by omega) _ _ s2 hV9 ((hs9 5 (by omega)).trans hC5) hst (fun c hc9_ => hF c (by omega)) hJ2
                          · skip
                            refine wp_if (fun h25_ => ?_) (fun h25_ => ?_)
                            · refine wi_i2 hc rfl rfl ?_
                              refine wi_zne hc rfl ⟨by decide, by decide⟩ (fun _ => ?_) (fun q => absurd q (by decide))
                              refine wi_inc (L' := [some (.ref 0), some (.int (iI text)), some (.ref (265 + 6 * text.toNat)), some (.int (iI (k + 1))), some (.int (iI 1))]) hc rfl rfl rfl ?_
                              refine wi_go hc rfl ?_
                              have hR : playR C T (705 * text + 1 + 4 * k) = (C, 0) := by
                                unfold playR
                                rw [if_neg (by omega), if_neg (by omega), if_neg (by omega), if_neg (by omega), if_neg (by omega), if_neg (by omega)]
                              have hst := playN_st hY (by omega) (by rw [hR]; exact Int.le_refl 0)
                              have hV9 := (playR_ok hVC (705 * text + 1 + 4 * k)).1
                              have hs9 := playR_st hVC (705 * text + 1 + 4 * k)
                              rw [hR] at hst hV9 hs9
                              exact ih (by omega) (by omega) _ _ s2 hV9 ((hs9 5 (by omega)).trans hC5) hst (fun c hc9_ => hF c (by omega)) hJ2
                            · skip
                              refine wp_if (fun h27_ => ?_) (fun h27_ => ?_)
                              · refine wi_i2 hc rfl rfl ?_
                                refine wi_zne hc rfl ⟨by decide, by decide⟩ (fun _ => ?_) (fun q => absurd q (by decide))
                                refine wi_inc (L' := [some (.ref 0), some (.int (iI text)), some (.ref (265 + 6 * text.toNat)), some (.int (iI (k + 1))), some (.int (iI 1))]) hc rfl rfl rfl ?_
                                refine wi_go hc rfl ?_
                                have hR : playR C T (705 * text + 1 + 4 * k) = (C, 0) := by
                                  unfold playR
                                  rw [if_neg (by omega), if_neg (by omega), if_neg (by omega), if_neg (by omega), if_neg (by omega), if_neg (by omega)]
                                have hst := playN_st hY (by omega) (by rw [hR]; exact Int.le_refl 0)
                                have hV9 := (playR_ok hVC (705 * text + 1 + 4 * k)).1
                                have hs9 := playR_st hVC (705 * text + 1 + 4 * k)
                                rw [hR] at hst hV9 hs9
                                exact ih (by omega) (by omega) _ _ s2 hV9 ((hs9 5 (by omega)).trans hC5) hst (fun c hc9_ => hF c (by omega)) hJ2
                              · skip
                                refine wp_if (fun h29_ => ?_) (fun h29_ => ?_)
                                · refine wi_i2 hc rfl rfl ?_
                                  refine wi_zne hc rfl ⟨by decide, by decide⟩ (fun _ => ?_) (fun q => absurd q (by decide))
                                  refine wi_inc (L' := [some (.ref 0), some (.int (iI text)), some (.ref (265 + 6 * text.toNat)), some (.int (iI (k + 1))), some (.int (iI 1))]) hc rfl rfl rfl ?_
                                  refine wi_go hc rfl ?_
                                  have hR : playR C T (705 * text + 1 + 4 * k) = (C, 0) := by
                                    unfold playR
                                    rw [if_neg (by omega), if_neg (by omega), if_neg (by omega), if_neg (by omega), if_neg (by omega), if_neg (by omega)]
                                  have hst := playN_st hY (by omega) (by rw [hR]; exact Int.le_refl 0)
                                  have hV9 := (playR_ok hVC (705 * text + 1 + 4 * k)).1
                                  have hs9 := playR_st hVC (705 * text + 1 + 4 * k)
                                  rw [hR] at hst hV9 hs9
                                  exact ih (by omega) (by omega) _ _ s2 hV9 ((hs9 5 (by omega)).trans hC5) hst (fun c hc9_ => hF c (by omega)) hJ2
                                · skip
                                  refine wp_if (fun h31_ => ?_) (fun h31_ => ?_)
                                  · refine wi_i2 hc rfl rfl ?_
                                    refine wi_zne hc rfl ⟨by decide, by decide⟩ (fun _ => ?_) (fun q => absurd q (by decide))
                                    refine wi_inc (L' := [some (.ref 0), some (.int (iI text)), some (.ref (265 + 6 * text.toNat)), some (.int (iI (k + 1))), some (.int (iI 1))]) hc rfl rfl rfl ?_
                                    refine wi_go hc rfl ?_
                                    have hR : playR C T (705 * text + 1 + 4 * k) = (C, 0) := by
                                      unfold playR
                                      rw [if_neg (by omega), if_neg (by omega), if_neg (by omega), if_neg (by omega), if_neg (by omega), if_neg (by omega)]
                                    have hst := playN_st hY (by omega) (by rw [hR]; exact Int.le_refl 0)
                                    have hV9 := (playR_ok hVC (705 * text + 1 + 4 * k)).1
                                    have hs9 := playR_st hVC (705 * text + 1 + 4 * k)
                                    rw [hR] at hst hV9 hs9
                                    exact ih (by omega) (by omega) _ _ s2 hV9 ((hs9 5 (by omega)).trans hC5) hst (fun c hc9_ => hF c (by omega)) hJ2
                                  · skip
                                    refine wp_if (fun h33_ => ?_) (fun h33_ => ?_)
                                    · refine wi_a1 hc rfl rfl ?_
                                      refine wi_a1 hc rfl rfl ?_
                                      refine wi_i1 hc rfl rfl ?_
                                      refine wi_ic hc rfl ?_
                                      refine wp_cv (b := 265 + 6 * text.toNat) (As := [.int (iI k), .int (iI 0)]) (r := [.ref 0]) hc rfl (by rw [cm_82]; rfl) rfl (Nat.le_of_ble_eq_true rfl) (show 265 + 6 * text.toNat < 621 by omega) (by rw [cm_82]; exact congrArg Prod.fst (kt_now (by omega) (by omega)).2.1) (ev_mono (sp_82 (d := 0) hkt htx2.1 htn hk0 (by omega) (j := 0) (by omega) (by omega)) (by omega)) ?_
                                      have htl0 : s2 (265 + 6 * text.toNat + 2) (3 * k + 0) = T (705 * text + 1 + 4 * k + 1) := by
                                        rw [show 3 * k + 0 = 3 * k by omega, show 705 * text + 1 + 4 * k + 1 = 705 * text + 2 + 4 * k by omega]
                                        exact (htx2.2.1 k hk0 (by omega)).2.1 (by omega)
                                      rw [htl0]
                                      show mm_wp _ _ (143, [some (.ref 0), some (.int (iI text)), some (.ref (265 + 6 * text.toNat)), some (.int (iI k)), some (.int (iI 1))], [.int (iI (T (705 * text + 1 + 4 * k + 1))), .ref 0], MX L t s2 l) _
                                      obtain ⟨s2_, hE2_, hF2_, hJ2_⟩ := sp_93 (d := 0) (L := L) (t := t) (l := l) hJ2 hVC (n := T (705 * text + 1 + 4 * k + 1)) ⟨by omega, by omega⟩
                                      refine wp_cv (b := 0) (As := [.int (iI (T (705 * text + 1 + 4 * k + 1)))]) (r := []) hc rfl (by rw [cm_93]; rfl) rfl (Nat.le_of_ble_eq_true rfl) (show 0 < 621 by decide) (by rw [cm_93]; rfl) (ev_mono hE2_ (by omega)) ?_
                                      have hrN := (nightR_ok hVC (T (705 * text + 1 + 4 * k + 1))).2
                                      show mm_wp _ _ (146, [some (.ref 0), some (.int (iI text)), some (.ref (265 + 6 * text.toNat)), some (.int (iI k)), some (.int (iI 1))], [.int (iI ((nightR C T (T (705 * text + 1 + 4 * k + 1))).2))], MX L t s2_ l) _
                                      refine wi_ic hc rfl ?_
                                      refine wi_ceq hc rfl ⟨by omega, by omega⟩ ⟨by decide, by decide⟩ (fun h34_ => ?_) (fun h34_ => ?_)
                                      · refine wi_ic hc rfl ?_
                                        refine wi_is2 (L' := [some (.ref 0), some (.int (iI text)), some (.ref (265 + 6 * text.toNat)), some (.int (iI k)), some (.int (iI 0))]) hc rfl (Nat.le_of_ble_eq_true rfl) rfl ?_
                                        refine wi_go hc rfl ?_
                                        refine wi_i2 hc rfl rfl ?_
                                        refine wi_zne hc rfl ⟨by decide, by decide⟩ (fun q => absurd q (by decide)) (fun _ => ?_)
                                        refine wi_i1 hc rfl rfl ?_
                                        refine wi_ri hc rfl (by rw [cm_98]; rfl) ?_
                                        have hU : playedR A T text = playN T (705 * text) (T (705 * text)).toNat 0 A := by unfold playedR; rw [if_pos (by omega)]
                                        have hR : playR C T (705 * text + 1 + 4 * k) = nightR C T (T (705 * text + 1 + 4 * k + 1)) := by
                                          unfold playR
                                          rw [if_pos (by omega)]
                                        rw [playN_no hY (by omega) (by rw [hR]; omega), hR] at hU
                                        rw [hU]
                                        exact ⟨s2_, rfl, fun c hc9_ => (hF2_ c (by omega)).trans (hF c (by omega)), hJ2_⟩
                                      · refine wi_ic hc rfl ?_
                                        refine wi_go hc rfl ?_
                                        refine wi_is2 (L' := [some (.ref 0), some (.int (iI text)), some (.ref (265 + 6 * text.toNat)), some (.int (iI k)), some (.int (iI 1))]) hc rfl (Nat.le_of_ble_eq_true rfl) rfl ?_
                                        refine wi_go hc rfl ?_
                                        refine wi_i2 hc rfl rfl ?_
                                        refine wi_zne hc rfl ⟨by decide, by decide⟩ (fun _ => ?_) (fun q => absurd q (by decide))
                                        refine wi_inc (L' := [some (.ref 0), some (.int (iI text)), some (.ref (265 + 6 * text.toNat)), some (.int (iI (k + 1))), some (.int (iI 1))]) hc rfl rfl rfl ?_
                                        refine wi_go hc rfl ?_
                                        have hR : playR C T (705 * text + 1 + 4 * k) = nightR C T (T (705 * text + 1 + 4 * k + 1)) := by
                                          unfold playR
                                          rw [if_pos (by omega)]
                                        have hst := playN_st hY (by omega) (by rw [hR]; omega)
                                        have hV9 := (playR_ok hVC (705 * text + 1 + 4 * k)).1
                                        have hs9 := playR_st hVC (705 * text + 1 + 4 * k)
                                        rw [hR] at hst hV9 hs9
                                        exact ih (by omega) (by omega) _ _ s2_ hV9 ((hs9 5 (by omega)).trans hC5) hst (fun c hc9_ => (hF2_ c (by omega)).trans (hF c (by omega))) hJ2_
                                    · skip
                                      refine wp_if (fun h37_ => ?_) (fun h37_ => ?_)
                                      · refine wi_a1 hc rfl rfl ?_
                                        refine wi_a1 hc rfl rfl ?_
                                        refine wi_i1 hc rfl rfl ?_
                                        refine wi_ic hc rfl ?_
                                        refine wp_cv (b := 265 + 6 * text.toNat) (As := [.int (iI k), .int (iI 0)]) (r := [.ref 0]) hc rfl (by rw [cm_82]; rfl) rfl (Nat.le_of_ble_eq_true rfl) (show 265 + 6 * text.toNat < 621 by omega) (by rw [cm_82]; exact congrArg Prod.fst (kt_now (by omega) (by omega)).2.1) (ev_mono (sp_82 (d := 0) hkt htx2.1 htn hk0 (by omega) (j := 0) (by omega) (by omega)) (by omega)) ?_
                                        have htl0 : s2 (265 + 6 * text.toNat + 2) (3 * k + 0) = T (705 * text + 1 + 4 * k + 1) := by
                                          rw [show 3 * k + 0 = 3 * k by omega, show 705 * text + 1 + 4 * k + 1 = 705 * text + 2 + 4 * k by omega]
                                          exact (htx2.2.1 k hk0 (by omega)).2.1 (by omega)
                                        rw [htl0]
                                        show mm_wp _ _ (167, [some (.ref 0), some (.int (iI text)), some (.ref (265 + 6 * text.toNat)), some (.int (iI k)), some (.int (iI 1))], [.int (iI (T (705 * text + 1 + 4 * k + 1))), .ref 0], MX L t s2 l) _
                                        refine wi_a1 hc rfl rfl ?_
                                        refine wi_i1 hc rfl rfl ?_
                                        refine wi_ic hc rfl ?_
                                        refine wp_cv (b := 265 + 6 * text.toNat) (As := [.int (iI k), .int (iI 1)]) (r := [.int (iI (T (705 * text + 1 + 4 * k + 1))), .ref 0]) hc rfl (by rw [cm_82]; rfl) rfl (Nat.le_of_ble_eq_true rfl) (show 265 + 6 * text.toNat < 621 by omega) (by rw [cm_82]; exact congrArg Prod.fst (kt_now (by omega) (by omega)).2.1) (ev_mono (sp_82 (d := 0) hkt htx2.1 htn hk0 (by omega) (j := 1) (by omega) (by omega)) (by omega)) ?_
                                        have htl1 : s2 (265 + 6 * text.toNat + 2) (3 * k + 1) = T (705 * text + 1 + 4 * k + 2) := by
                                          rw [show 705 * text + 1 + 4 * k + 2 = 705 * text + 3 + 4 * k by omega]
                                          exact (htx2.2.1 k hk0 (by omega)).2.2.1 (by omega)
                                        rw [htl1]
                                        show mm_wp _ _ (173, [some (.ref 0), some (.int (iI text)), some (.ref (265 + 6 * text.toNat)), some (.int (iI k)), some (.int (iI 1))], [.int (iI (T (705 * text + 1 + 4 * k + 2))), .int (iI (T (705 * text + 1 + 4 * k + 1))), .ref 0], MX L t s2 l) _
                                        obtain ⟨s3_, hE3_, hF3_, hJ3_⟩ := sp_94 (d := 0) (L := L) (t := t) (l := l) hJ2 hVC (x := T (705 * text + 1 + 4 * k + 1)) (p := T (705 * text + 1 + 4 * k + 2)) ⟨by omega, by omega⟩ ⟨by omega, by omega⟩
                                        refine wp_cv (b := 0) (As := [.int (iI (T (705 * text + 1 + 4 * k + 1))), .int (iI (T (705 * text + 1 + 4 * k + 2)))]) (r := []) hc rfl (by rw [cm_94]; rfl) rfl (Nat.le_of_ble_eq_true rfl) (show 0 < 621 by decide) (by rw [cm_94]; rfl) (ev_mono hE3_ (by omega)) ?_
                                        have hrN := (nudgeR_ok hVC (T (705 * text + 1 + 4 * k + 1)) (T (705 * text + 1 + 4 * k + 2))).2
                                        show mm_wp _ _ (176, [some (.ref 0), some (.int (iI text)), some (.ref (265 + 6 * text.toNat)), some (.int (iI k)), some (.int (iI 1))], [.int (iI ((nudgeR C (T (705 * text + 1 + 4 * k + 1)) (T (705 * text + 1 + 4 * k + 2))).2))], MX L t s3_ l) _
                                        refine wi_ic hc rfl ?_
                                        refine wi_ceq hc rfl ⟨by omega, by omega⟩ ⟨by decide, by decide⟩ (fun h38_ => ?_) (fun h38_ => ?_)
                                        · refine wi_ic hc rfl ?_
                                          refine wi_is2 (L' := [some (.ref 0), some (.int (iI text)), some (.ref (265 + 6 * text.toNat)), some (.int (iI k)), some (.int (iI 0))]) hc rfl (Nat.le_of_ble_eq_true rfl) rfl ?_
                                          refine wi_go hc rfl ?_
                                          refine wi_i2 hc rfl rfl ?_
                                          refine wi_zne hc rfl ⟨by decide, by decide⟩ (fun q => absurd q (by decide)) (fun _ => ?_)
                                          refine wi_i1 hc rfl rfl ?_
                                          refine wi_ri hc rfl (by rw [cm_98]; rfl) ?_
                                          have hU : playedR A T text = playN T (705 * text) (T (705 * text)).toNat 0 A := by unfold playedR; rw [if_pos (by omega)]
                                          have hR : playR C T (705 * text + 1 + 4 * k) = nudgeR C (T (705 * text + 1 + 4 * k + 1)) (T (705 * text + 1 + 4 * k + 2)) := by
                                            unfold playR
                                            rw [if_neg (by omega), if_pos (by omega)]
                                          rw [playN_no hY (by omega) (by rw [hR]; omega), hR] at hU
                                          rw [hU]
                                          exact ⟨s3_, rfl, fun c hc9_ => (hF3_ c (by omega)).trans (hF c (by omega)), hJ3_⟩
                                        · refine wi_ic hc rfl ?_
                                          refine wi_go hc rfl ?_
                                          refine wi_is2 (L' := [some (.ref 0), some (.int (iI text)), some (.ref (265 + 6 * text.toNat)), some (.int (iI k)), some (.int (iI 1))]) hc rfl (Nat.le_of_ble_eq_true rfl) rfl ?_
                                          refine wi_go hc rfl ?_
                                          refine wi_i2 hc rfl rfl ?_
                                          refine wi_zne hc rfl ⟨by decide, by decide⟩ (fun _ => ?_) (fun q => absurd q (by decide))
                                          refine wi_inc (L' := [some (.ref 0), some (.int (iI text)), some (.ref (265 + 6 * text.toNat)), some (.int (iI (k + 1))), some (.int (iI 1))]) hc rfl rfl rfl ?_
                                          refine wi_go hc rfl ?_
                                          have hR : playR C T (705 * text + 1 + 4 * k) = nudgeR C (T (705 * text + 1 + 4 * k + 1)) (T (705 * text + 1 + 4 * k + 2)) := by
                                            unfold playR
                                            rw [if_neg (by omega), if_pos (by omega)]
                                          have hst := playN_st hY (by omega) (by rw [hR]; omega)
                                          have hV9 := (playR_ok hVC (705 * text + 1 + 4 * k)).1
                                          have hs9 := playR_st hVC (705 * text + 1 + 4 * k)
                                          rw [hR] at hst hV9 hs9
                                          exact ih (by omega) (by omega) _ _ s3_ hV9 ((hs9 5 (by omega)).trans hC5) hst (fun c hc9_ => (hF3_ c (by omega)).trans (hF c (by omega))) hJ3_
                                      · skip
                                        refine wp_if (fun h41_ => ?_) (fun h41_ => ?_)
                                        · refine wi_a1 hc rfl rfl ?_
                                          refine wi_a1 hc rfl rfl ?_
                                          refine wi_i1 hc rfl rfl ?_
                                          refine wi_ic hc rfl ?_
                                          refine wp_cv (b := 265 + 6 * text.toNat) (As := [.int (iI k), .int (iI 0)]) (r := [.ref 0]) hc rfl (by rw [cm_82]; rfl) rfl (Nat.le_of_ble_eq_true rfl) (show 265 + 6 * text.toNat < 621 by omega) (by rw [cm_82]; exact congrArg Prod.fst (kt_now (by omega) (by omega)).2.1) (ev_mono (sp_82 (d := 0) hkt htx2.1 htn hk0 (by omega) (j := 0) (by omega) (by omega)) (by omega)) ?_
                                          have htl0 : s2 (265 + 6 * text.toNat + 2) (3 * k + 0) = T (705 * text + 1 + 4 * k + 1) := by
                                            rw [show 3 * k + 0 = 3 * k by omega, show 705 * text + 1 + 4 * k + 1 = 705 * text + 2 + 4 * k by omega]
                                            exact (htx2.2.1 k hk0 (by omega)).2.1 (by omega)
                                          rw [htl0]
                                          show mm_wp _ _ (197, [some (.ref 0), some (.int (iI text)), some (.ref (265 + 6 * text.toNat)), some (.int (iI k)), some (.int (iI 1))], [.int (iI (T (705 * text + 1 + 4 * k + 1))), .ref 0], MX L t s2 l) _
                                          obtain ⟨s4_, hE4_, hF4_, hJ4_⟩ := sp_95 (d := 0) (L := L) (t := t) (l := l) hJ2 hVC (b := T (705 * text + 1 + 4 * k + 1)) ⟨by omega, by omega⟩
                                          refine wp_cv (b := 0) (As := [.int (iI (T (705 * text + 1 + 4 * k + 1)))]) (r := []) hc rfl (by rw [cm_95]; rfl) rfl (Nat.le_of_ble_eq_true rfl) (show 0 < 621 by decide) (by rw [cm_95]; rfl) (ev_mono hE4_ (by omega)) ?_
                                          have hrN := (takeR_ok hVC (T (705 * text + 1 + 4 * k + 1))).2
                                          show mm_wp _ _ (200, [some (.ref 0), some (.int (iI text)), some (.ref (265 + 6 * text.toNat)), some (.int (iI k)), some (.int (iI 1))], [.int (iI ((takeR C (T (705 * text + 1 + 4 * k + 1))).2))], MX L t s4_ l) _
                                          refine wi_ic hc rfl ?_
                                          refine wi_ceq hc rfl ⟨by omega, by omega⟩ ⟨by decide, by decide⟩ (fun h42_ => ?_) (fun h42_ => ?_)
                                          · refine wi_ic hc rfl ?_
                                            refine wi_is2 (L' := [some (.ref 0), some (.int (iI text)), some (.ref (265 + 6 * text.toNat)), some (.int (iI k)), some (.int (iI 0))]) hc rfl (Nat.le_of_ble_eq_true rfl) rfl ?_
                                            refine wi_go hc rfl ?_
                                            refine wi_i2 hc rfl rfl ?_
                                            refine wi_zne hc rfl ⟨by decide, by decide⟩ (fun q => absurd q (by decide)) (fun _ => ?_)
                                            refine wi_i1 hc rfl rfl ?_
                                            refine wi_ri hc rfl (by rw [cm_98]; rfl) ?_
                                            have hU : playedR A T text = playN T (705 * text) (T (705 * text)).toNat 0 A := by unfold playedR; rw [if_pos (by omega)]
                                            have hR : playR C T (705 * text + 1 + 4 * k) = takeR C (T (705 * text + 1 + 4 * k + 1)) := by
                                              unfold playR
                                              rw [if_neg (by omega), if_neg (by omega), if_pos (by omega)]
                                            rw [playN_no hY (by omega) (by rw [hR]; omega), hR] at hU
                                            rw [hU]
                                            exact ⟨s4_, rfl, fun c hc9_ => (hF4_ c (by omega)).trans (hF c (by omega)), hJ4_⟩
                                          · refine wi_ic hc rfl ?_
                                            refine wi_go hc rfl ?_
                                            refine wi_is2 (L' := [some (.ref 0), some (.int (iI text)), some (.ref (265 + 6 * text.toNat)), some (.int (iI k)), some (.int (iI 1))]) hc rfl (Nat.le_of_ble_eq_true rfl) rfl ?_
                                            refine wi_go hc rfl ?_
                                            refine wi_i2 hc rfl rfl ?_
                                            refine wi_zne hc rfl ⟨by decide, by decide⟩ (fun _ => ?_) (fun q => absurd q (by decide))
                                            refine wi_inc (L' := [some (.ref 0), some (.int (iI text)), some (.ref (265 + 6 * text.toNat)), some (.int (iI (k + 1))), some (.int (iI 1))]) hc rfl rfl rfl ?_
                                            refine wi_go hc rfl ?_
                                            have hR : playR C T (705 * text + 1 + 4 * k) = takeR C (T (705 * text + 1 + 4 * k + 1)) := by
                                              unfold playR
                                              rw [if_neg (by omega), if_neg (by omega), if_pos (by omega)]
                                            have hst := playN_st hY (by omega) (by rw [hR]; omega)
                                            have hV9 := (playR_ok hVC (705 * text + 1 + 4 * k)).1
                                            have hs9 := playR_st hVC (705 * text + 1 + 4 * k)
                                            rw [hR] at hst hV9 hs9
                                            exact ih (by omega) (by omega) _ _ s4_ hV9 ((hs9 5 (by omega)).trans hC5) hst (fun c hc9_ => (hF4_ c (by omega)).trans (hF c (by omega))) hJ4_
                                        · skip
                                          refine wp_if (fun h45_ => ?_) (fun h45_ => ?_)
                                          · refine wi_a1 hc rfl rfl ?_
                                            refine wi_a1 hc rfl rfl ?_
                                            refine wi_i1 hc rfl rfl ?_
                                            refine wi_ic hc rfl ?_
                                            refine wp_cv (b := 265 + 6 * text.toNat) (As := [.int (iI k), .int (iI 0)]) (r := [.ref 0]) hc rfl (by rw [cm_82]; rfl) rfl (Nat.le_of_ble_eq_true rfl) (show 265 + 6 * text.toNat < 621 by omega) (by rw [cm_82]; exact congrArg Prod.fst (kt_now (by omega) (by omega)).2.1) (ev_mono (sp_82 (d := 0) hkt htx2.1 htn hk0 (by omega) (j := 0) (by omega) (by omega)) (by omega)) ?_
                                            have htl0 : s2 (265 + 6 * text.toNat + 2) (3 * k + 0) = T (705 * text + 1 + 4 * k + 1) := by
                                              rw [show 3 * k + 0 = 3 * k by omega, show 705 * text + 1 + 4 * k + 1 = 705 * text + 2 + 4 * k by omega]
                                              exact (htx2.2.1 k hk0 (by omega)).2.1 (by omega)
                                            rw [htl0]
                                            show mm_wp _ _ (221, [some (.ref 0), some (.int (iI text)), some (.ref (265 + 6 * text.toNat)), some (.int (iI k)), some (.int (iI 1))], [.int (iI (T (705 * text + 1 + 4 * k + 1))), .ref 0], MX L t s2 l) _
                                            refine wi_a1 hc rfl rfl ?_
                                            refine wi_i1 hc rfl rfl ?_
                                            refine wi_ic hc rfl ?_
                                            refine wp_cv (b := 265 + 6 * text.toNat) (As := [.int (iI k), .int (iI 1)]) (r := [.int (iI (T (705 * text + 1 + 4 * k + 1))), .ref 0]) hc rfl (by rw [cm_82]; rfl) rfl (Nat.le_of_ble_eq_true rfl) (show 265 + 6 * text.toNat < 621 by omega) (by rw [cm_82]; exact congrArg Prod.fst (kt_now (by omega) (by omega)).2.1) (ev_mono (sp_82 (d := 0) hkt htx2.1 htn hk0 (by omega) (j := 1) (by omega) (by omega)) (by omega)) ?_
                                            have htl1 : s2 (265 + 6 * text.toNat + 2) (3 * k + 1) = T (705 * text + 1 + 4 * k + 2) := by
                                              rw [show 705 * text + 1 + 4 * k + 2 = 705 * text + 3 + 4 * k by omega]
                                              exact (htx2.2.1 k hk0 (by omega)).2.2.1 (by omega)
                                            rw [htl1]
                                            show mm_wp _ _ (227, [some (.ref 0), some (.int (iI text)), some (.ref (265 + 6 * text.toNat)), some (.int (iI k)), some (.int (iI 1))], [.int (iI (T (705 * text + 1 + 4 * k + 2))), .int (iI (T (705 * text + 1 + 4 * k + 1))), .ref 0], MX L t s2 l) _
                                            refine wi_a1 hc rfl rfl ?_
                                            refine wi_i1 hc rfl rfl ?_
                                            refine wi_ic hc rfl ?_
                                            refine wp_cv (b := 265 + 6 * text.toNat) (As := [.int (iI k), .int (iI 2)]) (r := [.int (iI (T (705 * text + 1 + 4 * k + 2))), .int (iI (T (705 * text + 1 + 4 * k + 1))), .ref 0]) hc rfl (by rw [cm_82]; rfl) rfl (Nat.le_of_ble_eq_true rfl) (show 265 + 6 * text.toNat < 621 by omega) (by rw [cm_82]; exact congrArg Prod.fst (kt_now (by omega) (by omega)).2.1) (ev_mono (sp_82 (d := 0) hkt htx2.1 htn hk0 (by omega) (j := 2) (by omega) (by omega)) (by omega)) ?_
                                            have htl2 : s2 (265 + 6 * text.toNat + 2) (3 * k + 2) = T (705 * text + 1 + 4 * k + 3) := by
                                              rw [show 705 * text + 1 + 4 * k + 3 = 705 * text + 4 + 4 * k by omega]
                                              exact (htx2.2.1 k hk0 (by omega)).2.2.2 (by omega)
                                            rw [htl2]
                                            show mm_wp _ _ (233, [some (.ref 0), some (.int (iI text)), some (.ref (265 + 6 * text.toNat)), some (.int (iI k)), some (.int (iI 1))], [.int (iI (T (705 * text + 1 + 4 * k + 3))), .int (iI (T (705 * text + 1 + 4 * k + 2))), .int (iI (T (705 * text + 1 + 4 * k + 1))), .ref 0], MX L t s2 l) _
                                            obtain ⟨s5_, hE5_, hF5_, hJ5_⟩ := sp_96 (d := 0) (L := L) (t := t) (l := l) hJ2 hVC (b := T (705 * text + 1 + 4 * k + 1)) (x := T (705 * text + 1 + 4 * k + 2)) (p := T (705 * text + 1 + 4 * k + 3)) ⟨by omega, by omega⟩ ⟨by omega, by omega⟩ ⟨by omega, by omega⟩
                                            refine wp_cv (b := 0) (As := [.int (iI (T (705 * text + 1 + 4 * k + 1))), .int (iI (T (705 * text + 1 + 4 * k + 2))), .int (iI (T (705 * text + 1 + 4 * k + 3)))]) (r := []) hc rfl (by rw [cm_96]; rfl) rfl (Nat.le_of_ble_eq_true rfl) (show 0 < 621 by decide) (by rw [cm_96]; rfl) (ev_mono hE5_ (by omega)) ?_
                                            have hrN := (putR_ok hVC (T (705 * text + 1 + 4 * k + 1)) (T (705 * text + 1 + 4 * k + 2)) (T (705 * text + 1 + 4 * k + 3))).2
                                            show mm_wp _ _ (236, [some (.ref 0), some (.int (iI text)), some (.ref (265 + 6 * text.toNat)), some (.int (iI k)), some (.int (iI 1))], [.int (iI ((putR C T (T (705 * text + 1 + 4 * k + 1)) (T (705 * text + 1 + 4 * k + 2)) (T (705 * text + 1 + 4 * k + 3))).2))], MX L t s5_ l) _
                                            refine wi_ic hc rfl ?_
                                            refine wi_ceq hc rfl ⟨by omega, by omega⟩ ⟨by decide, by decide⟩ (fun h46_ => ?_) (fun h46_ => ?_)
                                            · refine wi_ic hc rfl ?_
                                              refine wi_is2 (L' := [some (.ref 0), some (.int (iI text)), some (.ref (265 + 6 * text.toNat)), some (.int (iI k)), some (.int (iI 0))]) hc rfl (Nat.le_of_ble_eq_true rfl) rfl ?_
                                              refine wi_go hc rfl ?_
                                              refine wi_i2 hc rfl rfl ?_
                                              refine wi_zne hc rfl ⟨by decide, by decide⟩ (fun q => absurd q (by decide)) (fun _ => ?_)
                                              refine wi_i1 hc rfl rfl ?_
                                              refine wi_ri hc rfl (by rw [cm_98]; rfl) ?_
                                              have hU : playedR A T text = playN T (705 * text) (T (705 * text)).toNat 0 A := by unfold playedR; rw [if_pos (by omega)]
                                              have hR : playR C T (705 * text + 1 + 4 * k) = putR C T (T (705 * text + 1 + 4 * k + 1)) (T (705 * text + 1 + 4 * k + 2)) (T (705 * text + 1 + 4 * k + 3)) := by
                                                unfold playR
                                                rw [if_neg (by omega), if_neg (by omega), if_neg (by omega), if_pos (by omega)]
                                              rw [playN_no hY (by omega) (by rw [hR]; omega), hR] at hU
                                              rw [hU]
                                              exact ⟨s5_, rfl, fun c hc9_ => (hF5_ c (by omega)).trans (hF c (by omega)), hJ5_⟩
                                            · refine wi_ic hc rfl ?_
                                              refine wi_go hc rfl ?_
                                              refine wi_is2 (L' := [some (.ref 0), some (.int (iI text)), some (.ref (265 + 6 * text.toNat)), some (.int (iI k)), some (.int (iI 1))]) hc rfl (Nat.le_of_ble_eq_true rfl) rfl ?_
                                              refine wi_go hc rfl ?_
                                              refine wi_i2 hc rfl rfl ?_
                                              refine wi_zne hc rfl ⟨by decide, by decide⟩ (fun _ => ?_) (fun q => absurd q (by decide))
                                              refine wi_inc (L' := [some (.ref 0), some (.int (iI text)), some (.ref (265 + 6 * text.toNat)), some (.int (iI (k + 1))), some (.int (iI 1))]) hc rfl rfl rfl ?_
                                              refine wi_go hc rfl ?_
                                              have hR : playR C T (705 * text + 1 + 4 * k) = putR C T (T (705 * text + 1 + 4 * k + 1)) (T (705 * text + 1 + 4 * k + 2)) (T (705 * text + 1 + 4 * k + 3)) := by
                                                unfold playR
                                                rw [if_neg (by omega), if_neg (by omega), if_neg (by omega), if_pos (by omega)]
                                              have hst := playN_st hY (by omega) (by rw [hR]; omega)
                                              have hV9 := (playR_ok hVC (705 * text + 1 + 4 * k)).1
                                              have hs9 := playR_st hVC (705 * text + 1 + 4 * k)
                                              rw [hR] at hst hV9 hs9
                                              exact ih (by omega) (by omega) _ _ s5_ hV9 ((hs9 5 (by omega)).trans hC5) hst (fun c hc9_ => (hF5_ c (by omega)).trans (hF c (by omega))) hJ5_
                                          · skip
                                            refine wp_if (fun h49_ => ?_) (fun h49_ => ?_)
                                            · refine wi_a1 hc rfl rfl ?_
                                              refine wi_ic hc rfl ?_
                                              obtain ⟨s6_, hE6_, hF6_, hJ6_⟩ := sp_97 (d := 0) (L := L) (t := t) (l := l) hJ2 hVC (v := 0) (by omega)
                                              refine wp_cv (b := 0) (As := [.int (iI 0)]) (r := []) hc rfl (by rw [cm_97]; rfl) rfl (Nat.le_of_ble_eq_true rfl) (show 0 < 621 by decide) (by rw [cm_97]; rfl) (ev_mono hE6_ (by omega)) ?_
                                              have hrN := (wetR_ok hVC (v := 0) (by omega)).2
                                              show mm_wp _ _ (274, [some (.ref 0), some (.int (iI text)), some (.ref (265 + 6 * text.toNat)), some (.int (iI k)), some (.int (iI 1))], [.int (iI ((wetR C T 0).2))], MX L t s6_ l) _
                                              refine wi_ic hc rfl ?_
                                              refine wi_ceq hc rfl ⟨by omega, by omega⟩ ⟨by decide, by decide⟩ (fun h50_ => ?_) (fun h50_ => ?_)
                                              · refine wi_ic hc rfl ?_
                                                refine wi_is2 (L' := [some (.ref 0), some (.int (iI text)), some (.ref (265 + 6 * text.toNat)), some (.int (iI k)), some (.int (iI 0))]) hc rfl (Nat.le_of_ble_eq_true rfl) rfl ?_
                                                refine wi_go hc rfl ?_
                                                refine wi_i2 hc rfl rfl ?_
                                                refine wi_zne hc rfl ⟨by decide, by decide⟩ (fun q => absurd q (by decide)) (fun _ => ?_)
                                                refine wi_i1 hc rfl rfl ?_
                                                refine wi_ri hc rfl (by rw [cm_98]; rfl) ?_
                                                have hU : playedR A T text = playN T (705 * text) (T (705 * text)).toNat 0 A := by unfold playedR; rw [if_pos (by omega)]
                                                have hR : playR C T (705 * text + 1 + 4 * k) = wetR C T 0 := by
                                                  unfold playR
                                                  rw [if_neg (by omega), if_neg (by omega), if_neg (by omega), if_neg (by omega), if_neg (by omega), if_pos (by omega)]
                                                rw [playN_no hY (by omega) (by rw [hR]; omega), hR] at hU
                                                rw [hU]
                                                exact ⟨s6_, rfl, fun c hc9_ => (hF6_ c (by omega)).trans (hF c (by omega)), hJ6_⟩
                                              · refine wi_ic hc rfl ?_
                                                refine wi_go hc rfl ?_
                                                refine wi_is2 (L' := [some (.ref 0), some (.int (iI text)), some (.ref (265 + 6 * text.toNat)), some (.int (iI k)), some (.int (iI 1))]) hc rfl (Nat.le_of_ble_eq_true rfl) rfl ?_
                                                refine wi_go hc rfl ?_
                                                refine wi_i2 hc rfl rfl ?_
                                                refine wi_zne hc rfl ⟨by decide, by decide⟩ (fun _ => ?_) (fun q => absurd q (by decide))
                                                refine wi_inc (L' := [some (.ref 0), some (.int (iI text)), some (.ref (265 + 6 * text.toNat)), some (.int (iI (k + 1))), some (.int (iI 1))]) hc rfl rfl rfl ?_
                                                refine wi_go hc rfl ?_
                                                have hR : playR C T (705 * text + 1 + 4 * k) = wetR C T 0 := by
                                                  unfold playR
                                                  rw [if_neg (by omega), if_neg (by omega), if_neg (by omega), if_neg (by omega), if_neg (by omega), if_pos (by omega)]
                                                have hst := playN_st hY (by omega) (by rw [hR]; omega)
                                                have hV9 := (playR_ok hVC (705 * text + 1 + 4 * k)).1
                                                have hs9 := playR_st hVC (705 * text + 1 + 4 * k)
                                                rw [hR] at hst hV9 hs9
                                                exact ih (by omega) (by omega) _ _ s6_ hV9 ((hs9 5 (by omega)).trans hC5) hst (fun c hc9_ => (hF6_ c (by omega)).trans (hF c (by omega))) hJ6_
                                            · skip
                                              show mm_wp _ _ (288, [some (.ref 0), some (.int (iI text)), some (.ref (265 + 6 * text.toNat)), some (.int (iI k)), some (.int (iI 1))], [], MX L t s2 l) _
                                              refine wi_i2 hc rfl rfl ?_
                                              refine wi_zne hc rfl ⟨by decide, by decide⟩ (fun _ => ?_) (fun q => absurd q (by decide))
                                              refine wi_inc (L' := [some (.ref 0), some (.int (iI text)), some (.ref (265 + 6 * text.toNat)), some (.int (iI (k + 1))), some (.int (iI 1))]) hc rfl rfl rfl ?_
                                              refine wi_go hc rfl ?_
                                              have hR : playR C T (705 * text + 1 + 4 * k) = (C, 0) := by
                                                unfold playR
                                                rw [if_neg (by omega), if_neg (by omega), if_neg (by omega), if_neg (by omega), if_neg (by omega), if_neg (by omega)]
                                              have hst := playN_st hY (by omega) (by rw [hR]; exact Int.le_refl 0)
                                              have hV9 := (playR_ok hVC (705 * text + 1 + 4 * k)).1
                                              have hs9 := playR_st hVC (705 * text + 1 + 4 * k)
                                              rw [hR] at hst hV9 hs9
                                              exact ih (by omega) (by omega) _ _ s2 hV9 ((hs9 5 (by omega)).trans hC5) hst (fun c hc9_ => hF c (by omega)) hJ2
    exact loop30_ 0 (by omega) (by omega) A _ s hVA rfl (by rw [show T (705 * text) - 0 = T (705 * text) by omega]) (fun c _ => rfl) hJ
