/-! The year. -/
theorem twR4 {A T : Int → Int} {v e : Int} (h : VA A T) (hv : v = 0 ∨ v = 1) : twR (set1 A 4 e) T v = (set1 (twR A T v).1 4 e, (twR A T v).2) := by
  unfold twR
  by_cases q : v = 1
  · rw [if_pos q, if_pos q, set1_sw (by decide)]
    have hs := set1_VA h (j := 2) (v := 1) (Or.inl ⟨rfl, Or.inr rfl⟩)
    exact fallAll4 hs.1 hs.2.1 (fun x x0 x1 => by have := hs.2.2.1.2.2.2.2.1 x x0 x1; omega) 3 (by decide)
  · rw [if_neg q, if_neg q, set1_sw (by decide)]
theorem od_no {A : Int → Int} {e : Int} (c : ¬ (yW A e ≤ 2 ∧ 2 ≤ A (13 + yW A e))) : yRow A e = A ∧ yE A e = anI e ∧ yN A e = 0 := by
  unfold yRow yE yN
  rw [if_neg c, if_neg c, if_neg (fun q => c q.1)]
  exact ⟨rfl, rfl, rfl⟩
theorem od_yes {A : Int → Int} {e : Int} (c : yW A e ≤ 2 ∧ 2 ≤ A (13 + yW A e)) : yRow A e = setF (pullF A (yW A e) (placeP A (yB A e)) 3) (yB A e) (yW A e) (yQ A e) ∧ yE A e = anI (anI e) := by
  unfold yRow yE
  rw [if_pos c, if_pos c]
  exact ⟨rfl, rfl⟩
theorem od_n1 {A : Int → Int} {e : Int} (c : yW A e ≤ 2 ∧ 2 ≤ A (13 + yW A e)) (h : placeP A (yB A e) ≠ yQ A e) : yN A e = 1 := by
  unfold yN
  rw [if_pos ⟨c, h⟩]
theorem od_n0 {A : Int → Int} {e : Int} (h : placeP A (yB A e) = yQ A e) : yN A e = 0 := by
  unfold yN
  rw [if_neg (fun q => q.2 h)]
/-- behind the last draw -/
theorem od_fin {X R : Int → Int} {e : Int} (h : R = set1 X 4 e) : set1 R 4 ((R 4 * 179 + 101) % 30113) = set1 X 4 (anI e) := by
  have e4 : R 4 = e := by rw [h]; exact if_pos rfl
  rw [e4, h, set1_44]
  rfl
theorem yearN_st {T C : Int → Int} {n i e m : Int} {X : (Int → Int) × Int × Int} (h : X = ((yearN T (n - i).toNat C e).1, (yearN T (n - i).toNat C e).2.1, m + (yearN T (n - i).toNat C e).2.2)) (hi : i < n) : X = ((yearN T (n - (i + 1)).toNat (yWet (yRow C e) T (yE C e)) (anI (yE C e))).1, (yearN T (n - (i + 1)).toNat (yWet (yRow C e) T (yE C e)) (anI (yE C e))).2.1, m + yN C e + (yearN T (n - (i + 1)).toNat (yWet (yRow C e) T (yE C e)) (anI (yE C e))).2.2) := by
  rw [show (n - i).toNat = (n - (i + 1)).toNat + 1 by omega] at h
  rw [h]
  unfold yearN
  rw [show ∀ a b c : Int, a + (b + c) = a + b + c from fun a b c => by omega]
  cases (n - (i + 1)).toNat <;> rfl

theorem sp_75d {d L t : Nat} {s l : Nat → Int → Int} {A T : Int → Int} {e : Int} (hL : LB 0 s (set1 A 4 e) T) (hK : KA A T) (he : 0 ≤ e ∧ e ≤ 40027) : ∃ s1, mm_Ev mm_ct mm_CM (d + 1) 75 [.ref 2] (MX L t s l) (none, MX L t s1 l) ∧ (∀ c, c ≠ 2 → s1 c = s c) ∧ LB 0 s1 (set1 A 4 (anI e)) T := by
  have hc : (mm_CM 75).2.2.2.2.2.2.2 = mm_cf cd_75 := by rw [cm_75]; rfl
  refine ev_xs ?_
  refine ev_to (mx := 1) (by rw [cm_75]; decide) (by rw [cm_75]; rfl) (by show 1 ≤ _; decide) ?_
  show mm_wp _ _ (0, [some (.ref 2)], [], MX L t s l) (fun res => ∃ s1, res = (none, MX L t s1 l) ∧ (∀ c, c ≠ 2 → s1 c = s c) ∧ LB 0 s1 (set1 A 4 (anI e)) T)
  refine wi_a1 hc rfl rfl ?_
  refine wi_a1 hc rfl rfl ?_
  refine wi_gfv (kz := 7) rfl hc rfl rfl (by decide) (Nat.le_of_ble_eq_true rfl) rfl (v := e) ((lb_drawn hL).trans (if_pos rfl)) ?_
  refine wi_si hc rfl rfl ?_
  refine wi_mul hc rfl ?_
  refine wi_bi hc rfl rfl ?_
  refine wi_add hc rfl ?_
  refine wi_si hc rfl rfl ?_
  refine wi_remp hc rfl ⟨by omega, by omega⟩ ⟨by decide, by decide⟩ (by omega) (by omega) ?_
  refine wi_pf (kz := 7) rfl hc rfl rfl (by decide) (Nat.le_of_ble_eq_true rfl) rfl (Nat.le_of_ble_eq_true rfl) ⟨rfl, rfl⟩ rfl ?_
  obtain ⟨s1_, es1_⟩ : ∃ q, q = up s 2 7 (((e * 179) + 101) % 30113) := ⟨_, rfl⟩
  rw [← es1_]
  refine wi_rv hc rfl (by rw [cm_75]; rfl) ?_
  refine ⟨s1_, rfl, fun c hc9 => (congrFun es1_ c).trans (up_cc hc9), lb_re4 hL hK (fun e q1 q2 q3 => (congrFun es1_ e).trans (up_cc q3)) ?_ ?_ ?_ ?_⟩
  · rw [es1_, up_k (by decide)]
  · rw [es1_, up_k (by decide)]
  · rw [es1_, up_k (by decide)]
  · rw [es1_, up_e rfl]; rfl
theorem sp_140 {d L t : Nat} {s l : Nat → Int → Int} {A T : Int → Int} {e : Int} (hJ : JC s (set1 A 4 e) T) (hVA : VA A T) (he : 0 ≤ e ∧ e ≤ 40027) (h1 : 1 ≤ A 0) : ∃ s1, mm_Ev mm_ct mm_CM (d + 7) 140 [.ref 0] (MX L t s l) (some (.int (iI (yN A e))), MX L t s1 l) ∧ (∀ c, c ≠ 2 ∧ ¬ (4 ≤ c ∧ c ≤ 8) ∧ c ≠ 578 ∧ c ≠ 579 → s1 c = s c) ∧ JC s1 (set1 (yWet (yRow A e) T (yE A e)) 4 (anI (yE A e))) T := by
  have hc : (mm_CM 140).2.2.2.2.2.2.2 = mm_cf cd_140 := by rw [cm_140]; rfl
  refine ev_xs ?_
  refine ev_to (mx := 7) (by rw [cm_140]; decide) (by rw [cm_140]; rfl) (by show 1 ≤ _; decide) ?_
  show mm_wp _ _ (0, [some (.ref 0), none, none, none, none, none, none], [], MX L t s l) (fun res => ∃ s1, res = (some (.int (iI (yN A e))), MX L t s1 l) ∧ (∀ c, c ≠ 2 ∧ ¬ (4 ≤ c ∧ c ≤ 8) ∧ c ≠ 578 ∧ c ≠ 579 → s1 c = s c) ∧ JC s1 (set1 (yWet (yRow A e) T (yE A e)) 4 (anI (yE A e))) T)
  have hK := hVA.K
  have g0 := hVA.2.1.1
  have hJ0 := hJ
  obtain ⟨B, hBe⟩ : ∃ q, q = set1 A 4 e := ⟨_, rfl⟩
  rw [← hBe] at hJ
  have b4 : B 4 = e := by rw [hBe]; exact if_pos rfl
  have b0 : B 0 = A 0 := by rw [hBe]; exact set1_ne (by decide)
  refine wi_a1 hc rfl rfl ?_
  refine wi_gr (w := 1) hc rfl rfl (by decide) (Nat.le_of_ble_eq_true rfl) rfl ?_
  refine wi_gfv (kz := 8) rfl hc rfl rfl (by decide) (Nat.le_of_ble_eq_true rfl) rfl (v := B 0) (lb_books hJ.1) ?_
  refine wi_ic hc rfl ?_
  refine wi_cge hc rfl ⟨by omega, by omega⟩ ⟨by decide, by decide⟩ (fun h1_ => ?_) (fun h1_ => (by exfalso; omega))
  refine wi_a1 hc rfl rfl ?_
  refine wi_gr (w := 1) hc rfl rfl (by decide) (Nat.le_of_ble_eq_true rfl) rfl ?_
  refine wi_gr (w := 2) hc rfl rfl (by decide) (Nat.le_of_ble_eq_true rfl) rfl ?_
  refine wi_as1 (L' := [some (.ref 0), some (.ref 2), none, none, none, none, none]) hc rfl (Nat.le_of_ble_eq_true rfl) rfl ?_
  refine wi_ic hc rfl ?_
  refine wi_is1 (L' := [some (.ref 0), some (.ref 2), some (.int (iI 0)), none, none, none, none]) hc rfl (Nat.le_of_ble_eq_true rfl) rfl ?_
  refine wi_a1 hc rfl rfl ?_
  refine wi_gfv (kz := 7) rfl hc rfl rfl (by decide) (Nat.le_of_ble_eq_true rfl) rfl (v := B 4) (lb_drawn hJ.1) ?_
  refine wi_a1 hc rfl rfl ?_
  refine wi_gr (w := 1) hc rfl rfl (by decide) (Nat.le_of_ble_eq_true rfl) rfl ?_
  refine wi_gfv (kz := 8) rfl hc rfl rfl (by decide) (Nat.le_of_ble_eq_true rfl) rfl (v := B 0) (lb_books hJ.1) ?_
  refine wi_remp hc rfl ⟨by omega, by omega⟩ ⟨by omega, by omega⟩ (by omega) (by omega) ?_
  obtain ⟨b, hb⟩ : ∃ q, q = B 4 % B 0 := ⟨_, rfl⟩
  rw [← hb]
  have hbr : 0 ≤ b ∧ b < B 0 := by rw [hb]; exact ⟨Int.emod_nonneg _ (by omega), Int.emod_lt_of_pos _ (by omega)⟩
  refine wi_is1 (L' := [some (.ref 0), some (.ref 2), some (.int (iI 0)), some (.int (iI b)), none, none, none]) hc rfl (Nat.le_of_ble_eq_true rfl) rfl ?_
  refine wi_a1 hc rfl rfl ?_
  obtain ⟨s1_, hE1_, hF1_, hL1_⟩ := sp_75d (d := 0) (L := L) (t := t) (l := l) hJ0.1 hK he
  refine wp_cv (b := 2) (As := []) (r := []) hc rfl (by rw [cm_75]; rfl) rfl (Nat.le_of_ble_eq_true rfl) (show 2 < 621 by decide) (by rw [cm_75]; rfl) (ev_mono hE1_ (by omega)) ?_
  have hJ1_ : JC s1_ (set1 A 4 (anI e)) T := ⟨hL1_, by rw [hF1_ 578 (by omega)]; exact hJ0.2⟩
  obtain ⟨C, hCe⟩ : ∃ q, q = set1 A 4 (anI e) := ⟨_, rfl⟩
  have vC : VA C T := by rw [hCe]; exact set1_VA hVA (Or.inr ⟨rfl, anI_r e⟩)
  have hKC := vC.K
  rw [← hCe] at hJ1_
  have c4 : C 4 = anI e := by rw [hCe]; exact if_pos rfl
  have c4r := anI_r e
  have co : ∀ k, k ≠ 4 → C k = A k := fun k q => by rw [hCe]; exact set1_ne q
  have c0 := co 0 (by decide)
  have gw := (hKC.2.1.2.2.2.2 b (by omega) (by omega)).1
  show mm_wp _ _ (40, [some (.ref 0), some (.ref 2), some (.int (iI 0)), some (.int (iI b)), none, none, none], [], MX L t s1_ l) _
  refine wi_a1 hc rfl rfl ?_
  refine wi_gr (w := 8) hc rfl rfl (by decide) (Nat.le_of_ble_eq_true rfl) rfl ?_
  refine wi_i1 hc rfl rfl ?_
  refine wi_ildv (N := 10) hc rfl rfl (by decide) (by decide) (by omega) (by omega) (v := C (46 + 6 * b + 5)) (lb_where hJ1_.1 (by omega) (by omega) (by omega)) ?_
  obtain ⟨w, hw⟩ : ∃ q, q = C (46 + 6 * b + 5) := ⟨_, rfl⟩
  rw [← hw]
  rw [← hw] at gw
  refine wi_is2 (L' := [some (.ref 0), some (.ref 2), some (.int (iI 0)), some (.int (iI b)), some (.int (iI w)), none, none]) hc rfl (Nat.le_of_ble_eq_true rfl) rfl ?_
  refine wi_i2 hc rfl rfl ?_
  refine wi_ic hc rfl ?_
  refine wi_cge hc rfl ⟨by omega, by omega⟩ ⟨by decide, by decide⟩ (fun h2_ => ?_) (fun h2_ => ?_)
  · have hby : yB A e = b := by unfold yB; rw [hb, b4, b0]
    have hwy : yW A e = w := by unfold yW; rw [hby, hw, co _ (by omega)]
    have hcy : ¬ (yW A e ≤ 2 ∧ 2 ≤ A (13 + yW A e)) := by
      rw [hwy]
      intro q
      have := co (13 + w) (by omega)
      omega
    have hEA : C = set1 (yRow A e) 4 (yE A e) := by rw [(od_no hcy).1, (od_no hcy).2.1]; exact hCe
    have e4 : C 4 = yE A e := by rw [hEA]; exact if_pos rfl
    have e4r := yE_r A e
    have e2r := vC.1.2.1
    refine wi_a1 hc rfl rfl ?_
    refine wi_gfv (kz := 7) rfl hc rfl rfl (by decide) (Nat.le_of_ble_eq_true rfl) rfl (v := C 4) (lb_drawn hJ1_.1) ?_
    refine wi_bi hc rfl rfl ?_
    refine wi_remp hc rfl ⟨by omega, by omega⟩ ⟨by decide, by decide⟩ (by omega) (by omega) ?_
    refine wi_ic hc rfl ?_
    refine wi_cge hc rfl ⟨by omega, by omega⟩ ⟨by decide, by decide⟩ (fun h3_ => ?_) (fun h3_ => ?_)
    · refine wi_a1 hc rfl rfl ?_
      obtain ⟨s2_, hE2_, hF2_, hL2_⟩ := sp_75 (d := 0) (L := L) (t := t) (l := l) hJ1_.1 hKC
      refine wp_cv (b := 2) (As := []) (r := []) hc rfl (by rw [cm_75]; rfl) rfl (Nat.le_of_ble_eq_true rfl) (show 2 < 621 by decide) (by rw [cm_75]; rfl) (ev_mono hE2_ (by omega)) ?_
      have hJ2_ : JC s2_ (set1 C 4 ((C 4 * 179 + 101) % 30113)) T := ⟨hL2_, by rw [hF2_ 578 (by omega)]; exact hJ1_.2⟩
      have hK2_ : KA (set1 C 4 ((C 4 * 179 + 101) % 30113)) T := set1_KA hKC (Or.inr (Or.inr ⟨rfl, by have := hKC.2.2.1.2.1; omega, by omega⟩))
      show mm_wp _ _ (150, [some (.ref 0), some (.ref 2), some (.int (iI 0)), some (.int (iI b)), some (.int (iI w)), none, none], [], MX L t s2_ l) _
      refine wi_i1 hc rfl rfl ?_
      refine wi_r0 hc rfl (by rw [cm_140]; rfl) ?_
      have hRA : C = set1 (yWet (yRow A e) T (yE A e)) 4 (yE A e) := by unfold yWet; rw [if_neg (by omega)]; exact hEA
      have hN : yN A e = 0 := by
        exact (od_no hcy).2.2
      have hfi := od_fin hRA
      rw [hfi] at hJ2_
      exact ⟨s2_, by rw [hN], fun c hc9_ => (hF2_ c (by omega)).trans (hF1_ c (by omega)), hJ2_⟩
    · refine wi_a1 hc rfl rfl ?_
      refine wi_a1 hc rfl rfl ?_
      refine wi_gfv (kz := 5) rfl hc rfl rfl (by decide) (Nat.le_of_ble_eq_true rfl) rfl (v := C 2) (lb_wet hJ1_.1) ?_
      refine wi_zne hc rfl ⟨by omega, by omega⟩ (fun h4_ => ?_) (fun h4_ => ?_)
      · refine wi_ic hc rfl ?_
        obtain ⟨s3_, hE3_, hF3_, hJ3_⟩ := sp_138 (d := 0) (L := L) (t := t) (l := l) hJ1_ vC (v := 0) (by omega)
        refine wp_cv (b := 0) (As := [.int (iI 0)]) (r := []) hc rfl (by rw [cm_138]; rfl) rfl (Nat.le_of_ble_eq_true rfl) (show 0 < 621 by decide) (by rw [cm_138]; rfl) (ev_mono hE3_ (by omega)) ?_
        have vR : VA (twR C T 0).1 T := (twR_ok vC (by omega)).1
        have hKR := vR.K
        have hRA : (twR C T 0).1 = set1 (yWet (yRow A e) T (yE A e)) 4 (yE A e) := by
          unfold yWet
          have ey2 : yRow A e 2 = C 2 := by rw [hEA]; exact (set1_ne (A := yRow A e) (j := 4) (v := yE A e) (k := 2) (by decide)).symm
          rw [if_pos (by omega), show 1 - yRow A e 2 = 0 by omega, hEA, twR4 (yRow_ok hVA h1).1 (by omega)]
        show mm_wp _ _ (145, [some (.ref 0), some (.ref 2), some (.int (iI 0)), some (.int (iI b)), some (.int (iI w)), none, none], [.int (iI ((twR C T 0).2))], MX L t s3_ l) _
        refine wi_pop hc rfl ?_
        refine wi_a1 hc rfl rfl ?_
        obtain ⟨s4_, hE4_, hF4_, hL4_⟩ := sp_75 (d := 0) (L := L) (t := t) (l := l) hJ3_.1 hKR
        refine wp_cv (b := 2) (As := []) (r := []) hc rfl (by rw [cm_75]; rfl) rfl (Nat.le_of_ble_eq_true rfl) (show 2 < 621 by decide) (by rw [cm_75]; rfl) (ev_mono hE4_ (by omega)) ?_
        have hJ4_ : JC s4_ (set1 ((twR C T 0).1) 4 ((((twR C T 0).1) 4 * 179 + 101) % 30113)) T := ⟨hL4_, by rw [hF4_ 578 (by omega)]; exact hJ3_.2⟩
        have hK4_ : KA (set1 ((twR C T 0).1) 4 ((((twR C T 0).1) 4 * 179 + 101) % 30113)) T := set1_KA hKR (Or.inr (Or.inr ⟨rfl, by have := hKR.2.2.1.2.1; omega, by omega⟩))
        show mm_wp _ _ (150, [some (.ref 0), some (.ref 2), some (.int (iI 0)), some (.int (iI b)), some (.int (iI w)), none, none], [], MX L t s4_ l) _
        refine wi_i1 hc rfl rfl ?_
        refine wi_r0 hc rfl (by rw [cm_140]; rfl) ?_
        have hN : yN A e = 0 := by
          exact (od_no hcy).2.2
        have hfi := od_fin hRA
        rw [hfi] at hJ4_
        exact ⟨s4_, by rw [hN], fun c hc9_ => (hF4_ c (by omega)).trans ((hF3_ c (by omega)).trans (hF1_ c (by omega))), hJ4_⟩
      · refine wi_ic hc rfl ?_
        refine wi_go hc rfl ?_
        obtain ⟨s5_, hE5_, hF5_, hJ5_⟩ := sp_138 (d := 0) (L := L) (t := t) (l := l) hJ1_ vC (v := 1) (by omega)
        refine wp_cv (b := 0) (As := [.int (iI 1)]) (r := []) hc rfl (by rw [cm_138]; rfl) rfl (Nat.le_of_ble_eq_true rfl) (show 0 < 621 by decide) (by rw [cm_138]; rfl) (ev_mono hE5_ (by omega)) ?_
        have vR : VA (twR C T 1).1 T := (twR_ok vC (by omega)).1
        have hKR := vR.K
        have hRA : (twR C T 1).1 = set1 (yWet (yRow A e) T (yE A e)) 4 (yE A e) := by
          unfold yWet
          have ey2 : yRow A e 2 = C 2 := by rw [hEA]; exact (set1_ne (A := yRow A e) (j := 4) (v := yE A e) (k := 2) (by decide)).symm
          rw [if_pos (by omega), show 1 - yRow A e 2 = 1 by omega, hEA, twR4 (yRow_ok hVA h1).1 (by omega)]
        show mm_wp _ _ (145, [some (.ref 0), some (.ref 2), some (.int (iI 0)), some (.int (iI b)), some (.int (iI w)), none, none], [.int (iI ((twR C T 1).2))], MX L t s5_ l) _
        refine wi_pop hc rfl ?_
        refine wi_a1 hc rfl rfl ?_
        obtain ⟨s6_, hE6_, hF6_, hL6_⟩ := sp_75 (d := 0) (L := L) (t := t) (l := l) hJ5_.1 hKR
        refine wp_cv (b := 2) (As := []) (r := []) hc rfl (by rw [cm_75]; rfl) rfl (Nat.le_of_ble_eq_true rfl) (show 2 < 621 by decide) (by rw [cm_75]; rfl) (ev_mono hE6_ (by omega)) ?_
        have hJ6_ : JC s6_ (set1 ((twR C T 1).1) 4 ((((twR C T 1).1) 4 * 179 + 101) % 30113)) T := ⟨hL6_, by rw [hF6_ 578 (by omega)]; exact hJ5_.2⟩
        have hK6_ : KA (set1 ((twR C T 1).1) 4 ((((twR C T 1).1) 4 * 179 + 101) % 30113)) T := set1_KA hKR (Or.inr (Or.inr ⟨rfl, by have := hKR.2.2.1.2.1; omega, by omega⟩))
        show mm_wp _ _ (150, [some (.ref 0), some (.ref 2), some (.int (iI 0)), some (.int (iI b)), some (.int (iI w)), none, none], [], MX L t s6_ l) _
        refine wi_i1 hc rfl rfl ?_
        refine wi_r0 hc rfl (by rw [cm_140]; rfl) ?_
        have hN : yN A e = 0 := by
          exact (od_no hcy).2.2
        have hfi := od_fin hRA
        rw [hfi] at hJ6_
        exact ⟨s6_, by rw [hN], fun c hc9_ => (hF6_ c (by omega)).trans ((hF5_ c (by omega)).trans (hF1_ c (by omega))), hJ6_⟩
  · have gm := hKC.2.1.2.1 w (by omega) (by omega)
    refine wi_a1 hc rfl rfl ?_
    refine wi_gr (w := 7) hc rfl rfl (by decide) (Nat.le_of_ble_eq_true rfl) rfl ?_
    refine wi_i2 hc rfl rfl ?_
    refine wi_ildv (N := 3) hc rfl rfl (by decide) (by decide) (by omega) (by omega) (v := C (13 + w)) (lb_many hJ1_.1 (by omega) (by omega)) ?_
    refine wi_ic hc rfl ?_
    refine wi_clt hc rfl ⟨by omega, by omega⟩ ⟨by decide, by decide⟩ (fun h5_ => ?_) (fun h5_ => ?_)
    · have hby : yB A e = b := by unfold yB; rw [hb, b4, b0]
      have hwy : yW A e = w := by unfold yW; rw [hby, hw, co _ (by omega)]
      have hcy : ¬ (yW A e ≤ 2 ∧ 2 ≤ A (13 + yW A e)) := by
        rw [hwy]
        intro q
        have := co (13 + w) (by omega)
        omega
      have hEA : C = set1 (yRow A e) 4 (yE A e) := by rw [(od_no hcy).1, (od_no hcy).2.1]; exact hCe
      have e4 : C 4 = yE A e := by rw [hEA]; exact if_pos rfl
      have e4r := yE_r A e
      have e2r := vC.1.2.1
      refine wi_a1 hc rfl rfl ?_
      refine wi_gfv (kz := 7) rfl hc rfl rfl (by decide) (Nat.le_of_ble_eq_true rfl) rfl (v := C 4) (lb_drawn hJ1_.1) ?_
      refine wi_bi hc rfl rfl ?_
      refine wi_remp hc rfl ⟨by omega, by omega⟩ ⟨by decide, by decide⟩ (by omega) (by omega) ?_
      refine wi_ic hc rfl ?_
      refine wi_cge hc rfl ⟨by omega, by omega⟩ ⟨by decide, by decide⟩ (fun h6_ => ?_) (fun h6_ => ?_)
      · refine wi_a1 hc rfl rfl ?_
        obtain ⟨s7_, hE7_, hF7_, hL7_⟩ := sp_75 (d := 0) (L := L) (t := t) (l := l) hJ1_.1 hKC
        refine wp_cv (b := 2) (As := []) (r := []) hc rfl (by rw [cm_75]; rfl) rfl (Nat.le_of_ble_eq_true rfl) (show 2 < 621 by decide) (by rw [cm_75]; rfl) (ev_mono hE7_ (by omega)) ?_
        have hJ7_ : JC s7_ (set1 C 4 ((C 4 * 179 + 101) % 30113)) T := ⟨hL7_, by rw [hF7_ 578 (by omega)]; exact hJ1_.2⟩
        have hK7_ : KA (set1 C 4 ((C 4 * 179 + 101) % 30113)) T := set1_KA hKC (Or.inr (Or.inr ⟨rfl, by have := hKC.2.2.1.2.1; omega, by omega⟩))
        show mm_wp _ _ (150, [some (.ref 0), some (.ref 2), some (.int (iI 0)), some (.int (iI b)), some (.int (iI w)), none, none], [], MX L t s7_ l) _
        refine wi_i1 hc rfl rfl ?_
        refine wi_r0 hc rfl (by rw [cm_140]; rfl) ?_
        have hRA : C = set1 (yWet (yRow A e) T (yE A e)) 4 (yE A e) := by unfold yWet; rw [if_neg (by omega)]; exact hEA
        have hN : yN A e = 0 := by
          exact (od_no hcy).2.2
        have hfi := od_fin hRA
        rw [hfi] at hJ7_
        exact ⟨s7_, by rw [hN], fun c hc9_ => (hF7_ c (by omega)).trans (hF1_ c (by omega)), hJ7_⟩
      · refine wi_a1 hc rfl rfl ?_
        refine wi_a1 hc rfl rfl ?_
        refine wi_gfv (kz := 5) rfl hc rfl rfl (by decide) (Nat.le_of_ble_eq_true rfl) rfl (v := C 2) (lb_wet hJ1_.1) ?_
        refine wi_zne hc rfl ⟨by omega, by omega⟩ (fun h7_ => ?_) (fun h7_ => ?_)
        · refine wi_ic hc rfl ?_
          obtain ⟨s8_, hE8_, hF8_, hJ8_⟩ := sp_138 (d := 0) (L := L) (t := t) (l := l) hJ1_ vC (v := 0) (by omega)
          refine wp_cv (b := 0) (As := [.int (iI 0)]) (r := []) hc rfl (by rw [cm_138]; rfl) rfl (Nat.le_of_ble_eq_true rfl) (show 0 < 621 by decide) (by rw [cm_138]; rfl) (ev_mono hE8_ (by omega)) ?_
          have vR : VA (twR C T 0).1 T := (twR_ok vC (by omega)).1
          have hKR := vR.K
          have hRA : (twR C T 0).1 = set1 (yWet (yRow A e) T (yE A e)) 4 (yE A e) := by
            unfold yWet
            have ey2 : yRow A e 2 = C 2 := by rw [hEA]; exact (set1_ne (A := yRow A e) (j := 4) (v := yE A e) (k := 2) (by decide)).symm
            rw [if_pos (by omega), show 1 - yRow A e 2 = 0 by omega, hEA, twR4 (yRow_ok hVA h1).1 (by omega)]
          show mm_wp _ _ (145, [some (.ref 0), some (.ref 2), some (.int (iI 0)), some (.int (iI b)), some (.int (iI w)), none, none], [.int (iI ((twR C T 0).2))], MX L t s8_ l) _
          refine wi_pop hc rfl ?_
          refine wi_a1 hc rfl rfl ?_
          obtain ⟨s9_, hE9_, hF9_, hL9_⟩ := sp_75 (d := 0) (L := L) (t := t) (l := l) hJ8_.1 hKR
          refine wp_cv (b := 2) (As := []) (r := []) hc rfl (by rw [cm_75]; rfl) rfl (Nat.le_of_ble_eq_true rfl) (show 2 < 621 by decide) (by rw [cm_75]; rfl) (ev_mono hE9_ (by omega)) ?_
          have hJ9_ : JC s9_ (set1 ((twR C T 0).1) 4 ((((twR C T 0).1) 4 * 179 + 101) % 30113)) T := ⟨hL9_, by rw [hF9_ 578 (by omega)]; exact hJ8_.2⟩
          have hK9_ : KA (set1 ((twR C T 0).1) 4 ((((twR C T 0).1) 4 * 179 + 101) % 30113)) T := set1_KA hKR (Or.inr (Or.inr ⟨rfl, by have := hKR.2.2.1.2.1; omega, by omega⟩))
          show mm_wp _ _ (150, [some (.ref 0), some (.ref 2), some (.int (iI 0)), some (.int (iI b)), some (.int (iI w)), none, none], [], MX L t s9_ l) _
          refine wi_i1 hc rfl rfl ?_
          refine wi_r0 hc rfl (by rw [cm_140]; rfl) ?_
          have hN : yN A e = 0 := by
            exact (od_no hcy).2.2
          have hfi := od_fin hRA
          rw [hfi] at hJ9_
          exact ⟨s9_, by rw [hN], fun c hc9_ => (hF9_ c (by omega)).trans ((hF8_ c (by omega)).trans (hF1_ c (by omega))), hJ9_⟩
        · refine wi_ic hc rfl ?_
          refine wi_go hc rfl ?_
          obtain ⟨s10_, hE10_, hF10_, hJ10_⟩ := sp_138 (d := 0) (L := L) (t := t) (l := l) hJ1_ vC (v := 1) (by omega)
          refine wp_cv (b := 0) (As := [.int (iI 1)]) (r := []) hc rfl (by rw [cm_138]; rfl) rfl (Nat.le_of_ble_eq_true rfl) (show 0 < 621 by decide) (by rw [cm_138]; rfl) (ev_mono hE10_ (by omega)) ?_
          have vR : VA (twR C T 1).1 T := (twR_ok vC (by omega)).1
          have hKR := vR.K
          have hRA : (twR C T 1).1 = set1 (yWet (yRow A e) T (yE A e)) 4 (yE A e) := by
            unfold yWet
            have ey2 : yRow A e 2 = C 2 := by rw [hEA]; exact (set1_ne (A := yRow A e) (j := 4) (v := yE A e) (k := 2) (by decide)).symm
            rw [if_pos (by omega), show 1 - yRow A e 2 = 1 by omega, hEA, twR4 (yRow_ok hVA h1).1 (by omega)]
          show mm_wp _ _ (145, [some (.ref 0), some (.ref 2), some (.int (iI 0)), some (.int (iI b)), some (.int (iI w)), none, none], [.int (iI ((twR C T 1).2))], MX L t s10_ l) _
          refine wi_pop hc rfl ?_
          refine wi_a1 hc rfl rfl ?_
          obtain ⟨s11_, hE11_, hF11_, hL11_⟩ := sp_75 (d := 0) (L := L) (t := t) (l := l) hJ10_.1 hKR
          refine wp_cv (b := 2) (As := []) (r := []) hc rfl (by rw [cm_75]; rfl) rfl (Nat.le_of_ble_eq_true rfl) (show 2 < 621 by decide) (by rw [cm_75]; rfl) (ev_mono hE11_ (by omega)) ?_
          have hJ11_ : JC s11_ (set1 ((twR C T 1).1) 4 ((((twR C T 1).1) 4 * 179 + 101) % 30113)) T := ⟨hL11_, by rw [hF11_ 578 (by omega)]; exact hJ10_.2⟩
          have hK11_ : KA (set1 ((twR C T 1).1) 4 ((((twR C T 1).1) 4 * 179 + 101) % 30113)) T := set1_KA hKR (Or.inr (Or.inr ⟨rfl, by have := hKR.2.2.1.2.1; omega, by omega⟩))
          show mm_wp _ _ (150, [some (.ref 0), some (.ref 2), some (.int (iI 0)), some (.int (iI b)), some (.int (iI w)), none, none], [], MX L t s11_ l) _
          refine wi_i1 hc rfl rfl ?_
          refine wi_r0 hc rfl (by rw [cm_140]; rfl) ?_
          have hN : yN A e = 0 := by
            exact (od_no hcy).2.2
          have hfi := od_fin hRA
          rw [hfi] at hJ11_
          exact ⟨s11_, by rw [hN], fun c hc9_ => (hF11_ c (by omega)).trans ((hF10_ c (by omega)).trans (hF1_ c (by omega))), hJ11_⟩
    · refine wi_a1 hc rfl rfl ?_
      refine wi_i1 hc rfl rfl ?_
      obtain ⟨p0, p1, p2⟩ := placeP_ok hKC.2.1 (b := b) (by omega) (by omega) (by omega)
      rw [← hw] at p1 p2
      obtain ⟨p, hp⟩ : ∃ q, q = placeP C b := ⟨_, rfl⟩
      rw [← hp] at p0 p1 p2
      refine wp_cv (b := 2) (As := [.int (iI b)]) (r := []) hc rfl (by rw [cm_70]; rfl) rfl (Nat.le_of_ble_eq_true rfl) (show 2 < 621 by decide) (by rw [cm_70]; rfl) (ev_mono (sp_70 (d := 0) hJ1_.1 hKC (b := b) (x := w) (p := p) (by omega) (by omega) hw.symm (by omega) (by omega) p0 p1 p2) (by omega)) ?_
      show mm_wp _ _ (70, [some (.ref 0), some (.ref 2), some (.int (iI 0)), some (.int (iI b)), some (.int (iI w)), none, none], [.int (iI p)], MX L t s1_ l) _
      refine wi_is2 (L' := [some (.ref 0), some (.ref 2), some (.int (iI 0)), some (.int (iI b)), some (.int (iI w)), some (.int (iI p)), none]) hc rfl (Nat.le_of_ble_eq_true rfl) rfl ?_
      refine wi_a1 hc rfl rfl ?_
      refine wi_gfv (kz := 7) rfl hc rfl rfl (by decide) (Nat.le_of_ble_eq_true rfl) rfl (v := C 4) (lb_drawn hJ1_.1) ?_
      refine wi_a1 hc rfl rfl ?_
      refine wi_gr (w := 7) hc rfl rfl (by decide) (Nat.le_of_ble_eq_true rfl) rfl ?_
      refine wi_i2 hc rfl rfl ?_
      refine wi_ildv (N := 3) hc rfl rfl (by decide) (by decide) (by omega) (by omega) (v := C (13 + w)) (lb_many hJ1_.1 (by omega) (by omega)) ?_
      refine wi_remp hc rfl ⟨by omega, by omega⟩ ⟨by omega, by omega⟩ (by omega) (by omega) ?_
      obtain ⟨q, hq⟩ : ∃ q, q = C 4 % C (13 + w) := ⟨_, rfl⟩
      rw [← hq]
      have hqr : 0 ≤ q ∧ q < C (13 + w) := by rw [hq]; exact ⟨Int.emod_nonneg _ (by omega), Int.emod_lt_of_pos _ (by omega)⟩
      refine wi_is2 (L' := [some (.ref 0), some (.ref 2), some (.int (iI 0)), some (.int (iI b)), some (.int (iI w)), some (.int (iI p)), some (.int (iI q))]) hc rfl (Nat.le_of_ble_eq_true rfl) rfl ?_
      refine wi_a1 hc rfl rfl ?_
      obtain ⟨s12_, hE12_, hF12_, hL12_⟩ := sp_75 (d := 0) (L := L) (t := t) (l := l) hJ1_.1 hKC
      refine wp_cv (b := 2) (As := []) (r := []) hc rfl (by rw [cm_75]; rfl) rfl (Nat.le_of_ble_eq_true rfl) (show 2 < 621 by decide) (by rw [cm_75]; rfl) (ev_mono hE12_ (by omega)) ?_
      have hJ12_ : JC s12_ (set1 C 4 ((C 4 * 179 + 101) % 30113)) T := ⟨hL12_, by rw [hF12_ 578 (by omega)]; exact hJ1_.2⟩
      have hK12_ : KA (set1 C 4 ((C 4 * 179 + 101) % 30113)) T := set1_KA hKC (Or.inr (Or.inr ⟨rfl, by have := hKC.2.2.1.2.1; omega, by omega⟩))
      obtain ⟨D, hDe⟩ : ∃ q, q = set1 C 4 ((C 4 * 179 + 101) % 30113) := ⟨_, rfl⟩
      rw [← hDe] at hJ12_ hK12_
      have hDA : D = set1 A 4 (anI (anI e)) := by rw [hDe, c4, hCe, set1_44]; rfl
      have vD : VA D T := by rw [hDA]; exact set1_VA hVA (Or.inr ⟨rfl, anI_r _⟩)
      have dk : ∀ k, k ≠ 4 → D k = C k := fun k q => by rw [hDe]; exact set1_ne q
      have d0 := dk 0 (by decide)
      have dw := dk (46 + 6 * b + 5) (by omega)
      have dm := dk (13 + w) (by omega)
      have dp := dk (16 + 10 * w + p) (by omega)
      show mm_wp _ _ (90, [some (.ref 0), some (.ref 2), some (.int (iI 0)), some (.int (iI b)), some (.int (iI w)), some (.int (iI p)), some (.int (iI q))], [], MX L t s12_ l) _
      refine wi_a1 hc rfl rfl ?_
      refine wi_i1 hc rfl rfl ?_
      refine wi_ic hc rfl ?_
      obtain ⟨s13_, hE13_, hF13_, hL13_⟩ := sp_72 (d := 0) (L := L) (t := t) (l := l) hJ12_.1 hK12_ (b := b) (x := w) (p := p) (by omega) (by omega) (by omega) (by omega) (by omega) (by omega) (by omega) (by omega) (to := 3) (by omega)
      refine wp_cv (b := 2) (As := [.int (iI b), .int (iI 3)]) (r := []) hc rfl (by rw [cm_72]; rfl) rfl (Nat.le_of_ble_eq_true rfl) (show 2 < 621 by decide) (by rw [cm_72]; rfl) (ev_mono hE13_ (by omega)) ?_
      have hJ13_ : JC s13_ (pullF D w p 3) T := ⟨hL13_, by rw [hF13_ 578 (by omega)]; exact hJ12_.2⟩
      have hK13_ : KA (pullF D w p 3) T := (mv_pull hK12_.2.1 (by omega) (by omega) (by omega) (by omega)).KA hK12_ (pull_ok hK12_.2.1 (by omega) (by omega) (by omega) (by omega) (by omega))
      show mm_wp _ _ (96, [some (.ref 0), some (.ref 2), some (.int (iI 0)), some (.int (iI b)), some (.int (iI w)), some (.int (iI p)), some (.int (iI q))], [], MX L t s13_ l) _
      refine wi_a1 hc rfl rfl ?_
      refine wi_i1 hc rfl rfl ?_
      refine wi_i2 hc rfl rfl ?_
      refine wi_i2 hc rfl rfl ?_
      have m1 := mv_pull (to := 3) vD.2.1 (x := w) (p := p) (by omega) (by omega) (by omega) (by omega)
      have k1 := pull_ok (to := 3) vD.2.1 (x := w) (p := p) (by omega) (by omega) (by omega) (by omega) (Or.inl rfl)
      have em := pull_many (to := 3) (y := w) vD.2.1 (x := w) (p := p) (by omega) (by omega) (by omega) (by omega) (by omega) (by omega)
      rw [if_pos rfl] at em
      have ew := pull_wh (to := 3) (b := b) vD.2.1 (x := w) (p := p) (by omega) (by omega) (by omega) (by omega) (by omega)
      rw [if_pos (by omega)] at ew
      have e0 : pullF D w p 3 0 = D 0 := m1.lo (by decide)
      obtain ⟨s14_, hE14_, hF14_, hL14_⟩ := sp_73 (d := 0) (L := L) (t := t) (l := l) hJ13_.1 hK13_ (b := b) (x := w) (p := q) (by omega) (by omega) (by omega) (by omega) (by omega) (by omega) (by omega)
      refine wp_cv (b := 2) (As := [.int (iI b), .int (iI w), .int (iI q)]) (r := []) hc rfl (by rw [cm_73]; rfl) rfl (Nat.le_of_ble_eq_true rfl) (show 2 < 621 by decide) (by rw [cm_73]; rfl) (ev_mono hE14_ (by omega)) ?_
      have hJ14_ : JC s14_ (setF (pullF D w p 3) b w q) T := ⟨hL14_, by rw [hF14_ 578 (by omega)]; exact hJ13_.2⟩
      have hK14_ : KA (setF (pullF D w p 3) b w q) T := (mv_set (by omega) (by omega) (by omega) (by omega) (by omega) (by omega) (by omega)).KA hK13_ (set_ok hK13_.2.1 (by omega) (by omega) (by omega) (by omega) (by omega) (by omega) (by omega) (by omega))
      obtain ⟨E, hEe⟩ : ∃ E9 : Int → Int, E9 = setF (pullF D w p 3) b w q := ⟨_, rfl⟩
      rw [← hEe] at hJ14_ hK14_
      have hby : yB A e = b := by unfold yB; rw [hb, b4, b0]
      have hwy : yW A e = w := by unfold yW; rw [hby, hw, co _ (by omega)]
      have hcy : yW A e ≤ 2 ∧ 2 ≤ A (13 + yW A e) := by rw [hwy, ← co _ (by omega)]; omega
      have hpy : placeP A (yB A e) = p := by rw [hby, hp, hCe]; exact (place4 (by omega) (by rw [← co _ (by omega)]; omega)).symm
      have hqy : yQ A e = q := by unfold yQ; rw [hwy, hq, c4, co _ (by omega)]
      have hEA : E = set1 (yRow A e) 4 (yE A e) := by
        rw [(od_yes hcy).1, (od_yes hcy).2, hwy, hpy, hby, hqy, hEe, hDA, pull4 (by omega) (by omega), setq4 (by omega) (by omega)]
      have vE : VA E T := by rw [hEA]; exact set1_VA (yRow_ok hVA h1).1 (Or.inr ⟨rfl, yE_r _ _⟩)
      have e4 : E 4 = yE A e := by rw [hEA]; exact if_pos rfl
      have e4r := yE_r A e
      have e2r := vE.1.2.1
      show mm_wp _ _ (105, [some (.ref 0), some (.ref 2), some (.int (iI 0)), some (.int (iI b)), some (.int (iI w)), some (.int (iI p)), some (.int (iI q))], [], MX L t s14_ l) _
      refine wi_i2 hc rfl rfl ?_
      refine wi_i2 hc rfl rfl ?_
      refine wi_ceq hc rfl ⟨by omega, by omega⟩ ⟨by omega, by omega⟩ (fun h8_ => ?_) (fun h8_ => ?_)
      · refine wi_ic hc rfl ?_
        refine wi_is1 (L' := [some (.ref 0), some (.ref 2), some (.int (iI 0)), some (.int (iI b)), some (.int (iI w)), some (.int (iI p)), some (.int (iI q))]) hc rfl (Nat.le_of_ble_eq_true rfl) rfl ?_
        refine wi_a1 hc rfl rfl ?_
        refine wi_gfv (kz := 7) rfl hc rfl rfl (by decide) (Nat.le_of_ble_eq_true rfl) rfl (v := E 4) (lb_drawn hJ14_.1) ?_
        refine wi_bi hc rfl rfl ?_
        refine wi_remp hc rfl ⟨by omega, by omega⟩ ⟨by decide, by decide⟩ (by omega) (by omega) ?_
        refine wi_ic hc rfl ?_
        refine wi_cge hc rfl ⟨by omega, by omega⟩ ⟨by decide, by decide⟩ (fun h9_ => ?_) (fun h9_ => ?_)
        · refine wi_a1 hc rfl rfl ?_
          obtain ⟨s15_, hE15_, hF15_, hL15_⟩ := sp_75 (d := 0) (L := L) (t := t) (l := l) hJ14_.1 hK14_
          refine wp_cv (b := 2) (As := []) (r := []) hc rfl (by rw [cm_75]; rfl) rfl (Nat.le_of_ble_eq_true rfl) (show 2 < 621 by decide) (by rw [cm_75]; rfl) (ev_mono hE15_ (by omega)) ?_
          have hJ15_ : JC s15_ (set1 E 4 ((E 4 * 179 + 101) % 30113)) T := ⟨hL15_, by rw [hF15_ 578 (by omega)]; exact hJ14_.2⟩
          have hK15_ : KA (set1 E 4 ((E 4 * 179 + 101) % 30113)) T := set1_KA hK14_ (Or.inr (Or.inr ⟨rfl, by have := hK14_.2.2.1.2.1; omega, by omega⟩))
          show mm_wp _ _ (150, [some (.ref 0), some (.ref 2), some (.int (iI 0)), some (.int (iI b)), some (.int (iI w)), some (.int (iI p)), some (.int (iI q))], [], MX L t s15_ l) _
          refine wi_i1 hc rfl rfl ?_
          refine wi_r0 hc rfl (by rw [cm_140]; rfl) ?_
          have hRA : E = set1 (yWet (yRow A e) T (yE A e)) 4 (yE A e) := by unfold yWet; rw [if_neg (by omega)]; exact hEA
          have hN : yN A e = 0 := by
            exact od_n0 (by omega)
          have hfi := od_fin hRA
          rw [hfi] at hJ15_
          exact ⟨s15_, by rw [hN], fun c hc9_ => (hF15_ c (by omega)).trans ((hF14_ c (by omega)).trans ((hF13_ c (by omega)).trans ((hF12_ c (by omega)).trans (hF1_ c (by omega))))), hJ15_⟩
        · refine wi_a1 hc rfl rfl ?_
          refine wi_a1 hc rfl rfl ?_
          refine wi_gfv (kz := 5) rfl hc rfl rfl (by decide) (Nat.le_of_ble_eq_true rfl) rfl (v := E 2) (lb_wet hJ14_.1) ?_
          refine wi_zne hc rfl ⟨by omega, by omega⟩ (fun h10_ => ?_) (fun h10_ => ?_)
          · refine wi_ic hc rfl ?_
            obtain ⟨s16_, hE16_, hF16_, hJ16_⟩ := sp_138 (d := 0) (L := L) (t := t) (l := l) hJ14_ vE (v := 0) (by omega)
            refine wp_cv (b := 0) (As := [.int (iI 0)]) (r := []) hc rfl (by rw [cm_138]; rfl) rfl (Nat.le_of_ble_eq_true rfl) (show 0 < 621 by decide) (by rw [cm_138]; rfl) (ev_mono hE16_ (by omega)) ?_
            have vR : VA (twR E T 0).1 T := (twR_ok vE (by omega)).1
            have hKR := vR.K
            have hRA : (twR E T 0).1 = set1 (yWet (yRow A e) T (yE A e)) 4 (yE A e) := by
              unfold yWet
              have ey2 : yRow A e 2 = E 2 := by rw [hEA]; exact (set1_ne (A := yRow A e) (j := 4) (v := yE A e) (k := 2) (by decide)).symm
              rw [if_pos (by omega), show 1 - yRow A e 2 = 0 by omega, hEA, twR4 (yRow_ok hVA h1).1 (by omega)]
            show mm_wp _ _ (145, [some (.ref 0), some (.ref 2), some (.int (iI 0)), some (.int (iI b)), some (.int (iI w)), some (.int (iI p)), some (.int (iI q))], [.int (iI ((twR E T 0).2))], MX L t s16_ l) _
            refine wi_pop hc rfl ?_
            refine wi_a1 hc rfl rfl ?_
            obtain ⟨s17_, hE17_, hF17_, hL17_⟩ := sp_75 (d := 0) (L := L) (t := t) (l := l) hJ16_.1 hKR
            refine wp_cv (b := 2) (As := []) (r := []) hc rfl (by rw [cm_75]; rfl) rfl (Nat.le_of_ble_eq_true rfl) (show 2 < 621 by decide) (by rw [cm_75]; rfl) (ev_mono hE17_ (by omega)) ?_
            have hJ17_ : JC s17_ (set1 ((twR E T 0).1) 4 ((((twR E T 0).1) 4 * 179 + 101) % 30113)) T := ⟨hL17_, by rw [hF17_ 578 (by omega)]; exact hJ16_.2⟩
            have hK17_ : KA (set1 ((twR E T 0).1) 4 ((((twR E T 0).1) 4 * 179 + 101) % 30113)) T := set1_KA hKR (Or.inr (Or.inr ⟨rfl, by have := hKR.2.2.1.2.1; omega, by omega⟩))
            show mm_wp _ _ (150, [some (.ref 0), some (.ref 2), some (.int (iI 0)), some (.int (iI b)), some (.int (iI w)), some (.int (iI p)), some (.int (iI q))], [], MX L t s17_ l) _
            refine wi_i1 hc rfl rfl ?_
            refine wi_r0 hc rfl (by rw [cm_140]; rfl) ?_
            have hN : yN A e = 0 := by
              exact od_n0 (by omega)
            have hfi := od_fin hRA
            rw [hfi] at hJ17_
            exact ⟨s17_, by rw [hN], fun c hc9_ => (hF17_ c (by omega)).trans ((hF16_ c (by omega)).trans ((hF14_ c (by omega)).trans ((hF13_ c (by omega)).trans ((hF12_ c (by omega)).trans (hF1_ c (by omega)))))), hJ17_⟩
          · refine wi_ic hc rfl ?_
            refine wi_go hc rfl ?_
            obtain ⟨s18_, hE18_, hF18_, hJ18_⟩ := sp_138 (d := 0) (L := L) (t := t) (l := l) hJ14_ vE (v := 1) (by omega)
            refine wp_cv (b := 0) (As := [.int (iI 1)]) (r := []) hc rfl (by rw [cm_138]; rfl) rfl (Nat.le_of_ble_eq_true rfl) (show 0 < 621 by decide) (by rw [cm_138]; rfl) (ev_mono hE18_ (by omega)) ?_
            have vR : VA (twR E T 1).1 T := (twR_ok vE (by omega)).1
            have hKR := vR.K
            have hRA : (twR E T 1).1 = set1 (yWet (yRow A e) T (yE A e)) 4 (yE A e) := by
              unfold yWet
              have ey2 : yRow A e 2 = E 2 := by rw [hEA]; exact (set1_ne (A := yRow A e) (j := 4) (v := yE A e) (k := 2) (by decide)).symm
              rw [if_pos (by omega), show 1 - yRow A e 2 = 1 by omega, hEA, twR4 (yRow_ok hVA h1).1 (by omega)]
            show mm_wp _ _ (145, [some (.ref 0), some (.ref 2), some (.int (iI 0)), some (.int (iI b)), some (.int (iI w)), some (.int (iI p)), some (.int (iI q))], [.int (iI ((twR E T 1).2))], MX L t s18_ l) _
            refine wi_pop hc rfl ?_
            refine wi_a1 hc rfl rfl ?_
            obtain ⟨s19_, hE19_, hF19_, hL19_⟩ := sp_75 (d := 0) (L := L) (t := t) (l := l) hJ18_.1 hKR
            refine wp_cv (b := 2) (As := []) (r := []) hc rfl (by rw [cm_75]; rfl) rfl (Nat.le_of_ble_eq_true rfl) (show 2 < 621 by decide) (by rw [cm_75]; rfl) (ev_mono hE19_ (by omega)) ?_
            have hJ19_ : JC s19_ (set1 ((twR E T 1).1) 4 ((((twR E T 1).1) 4 * 179 + 101) % 30113)) T := ⟨hL19_, by rw [hF19_ 578 (by omega)]; exact hJ18_.2⟩
            have hK19_ : KA (set1 ((twR E T 1).1) 4 ((((twR E T 1).1) 4 * 179 + 101) % 30113)) T := set1_KA hKR (Or.inr (Or.inr ⟨rfl, by have := hKR.2.2.1.2.1; omega, by omega⟩))
            show mm_wp _ _ (150, [some (.ref 0), some (.ref 2), some (.int (iI 0)), some (.int (iI b)), some (.int (iI w)), some (.int (iI p)), some (.int (iI q))], [], MX L t s19_ l) _
            refine wi_i1 hc rfl rfl ?_
            refine wi_r0 hc rfl (by rw [cm_140]; rfl) ?_
            have hN : yN A e = 0 := by
              exact od_n0 (by omega)
            have hfi := od_fin hRA
            rw [hfi] at hJ19_
            exact ⟨s19_, by rw [hN], fun c hc9_ => (hF19_ c (by omega)).trans ((hF18_ c (by omega)).trans ((hF14_ c (by omega)).trans ((hF13_ c (by omega)).trans ((hF12_ c (by omega)).trans (hF1_ c (by omega)))))), hJ19_⟩
      · refine wi_ic hc rfl ?_
        refine wi_go hc rfl ?_
        refine wi_is1 (L' := [some (.ref 0), some (.ref 2), some (.int (iI 1)), some (.int (iI b)), some (.int (iI w)), some (.int (iI p)), some (.int (iI q))]) hc rfl (Nat.le_of_ble_eq_true rfl) rfl ?_
        refine wi_a1 hc rfl rfl ?_
        refine wi_gfv (kz := 7) rfl hc rfl rfl (by decide) (Nat.le_of_ble_eq_true rfl) rfl (v := E 4) (lb_drawn hJ14_.1) ?_
        refine wi_bi hc rfl rfl ?_
        refine wi_remp hc rfl ⟨by omega, by omega⟩ ⟨by decide, by decide⟩ (by omega) (by omega) ?_
        refine wi_ic hc rfl ?_
        refine wi_cge hc rfl ⟨by omega, by omega⟩ ⟨by decide, by decide⟩ (fun h11_ => ?_) (fun h11_ => ?_)
        · refine wi_a1 hc rfl rfl ?_
          obtain ⟨s20_, hE20_, hF20_, hL20_⟩ := sp_75 (d := 0) (L := L) (t := t) (l := l) hJ14_.1 hK14_
          refine wp_cv (b := 2) (As := []) (r := []) hc rfl (by rw [cm_75]; rfl) rfl (Nat.le_of_ble_eq_true rfl) (show 2 < 621 by decide) (by rw [cm_75]; rfl) (ev_mono hE20_ (by omega)) ?_
          have hJ20_ : JC s20_ (set1 E 4 ((E 4 * 179 + 101) % 30113)) T := ⟨hL20_, by rw [hF20_ 578 (by omega)]; exact hJ14_.2⟩
          have hK20_ : KA (set1 E 4 ((E 4 * 179 + 101) % 30113)) T := set1_KA hK14_ (Or.inr (Or.inr ⟨rfl, by have := hK14_.2.2.1.2.1; omega, by omega⟩))
          show mm_wp _ _ (150, [some (.ref 0), some (.ref 2), some (.int (iI 1)), some (.int (iI b)), some (.int (iI w)), some (.int (iI p)), some (.int (iI q))], [], MX L t s20_ l) _
          refine wi_i1 hc rfl rfl ?_
          refine wi_r1 hc rfl (by rw [cm_140]; rfl) ?_
          have hRA : E = set1 (yWet (yRow A e) T (yE A e)) 4 (yE A e) := by unfold yWet; rw [if_neg (by omega)]; exact hEA
          have hN : yN A e = 1 := by
            exact od_n1 hcy (by omega)
          have hfi := od_fin hRA
          rw [hfi] at hJ20_
          exact ⟨s20_, by rw [hN], fun c hc9_ => (hF20_ c (by omega)).trans ((hF14_ c (by omega)).trans ((hF13_ c (by omega)).trans ((hF12_ c (by omega)).trans (hF1_ c (by omega))))), hJ20_⟩
        · refine wi_a1 hc rfl rfl ?_
          refine wi_a1 hc rfl rfl ?_
          refine wi_gfv (kz := 5) rfl hc rfl rfl (by decide) (Nat.le_of_ble_eq_true rfl) rfl (v := E 2) (lb_wet hJ14_.1) ?_
          refine wi_zne hc rfl ⟨by omega, by omega⟩ (fun h12_ => ?_) (fun h12_ => ?_)
          · refine wi_ic hc rfl ?_
            obtain ⟨s21_, hE21_, hF21_, hJ21_⟩ := sp_138 (d := 0) (L := L) (t := t) (l := l) hJ14_ vE (v := 0) (by omega)
            refine wp_cv (b := 0) (As := [.int (iI 0)]) (r := []) hc rfl (by rw [cm_138]; rfl) rfl (Nat.le_of_ble_eq_true rfl) (show 0 < 621 by decide) (by rw [cm_138]; rfl) (ev_mono hE21_ (by omega)) ?_
            have vR : VA (twR E T 0).1 T := (twR_ok vE (by omega)).1
            have hKR := vR.K
            have hRA : (twR E T 0).1 = set1 (yWet (yRow A e) T (yE A e)) 4 (yE A e) := by
              unfold yWet
              have ey2 : yRow A e 2 = E 2 := by rw [hEA]; exact (set1_ne (A := yRow A e) (j := 4) (v := yE A e) (k := 2) (by decide)).symm
              rw [if_pos (by omega), show 1 - yRow A e 2 = 0 by omega, hEA, twR4 (yRow_ok hVA h1).1 (by omega)]
            show mm_wp _ _ (145, [some (.ref 0), some (.ref 2), some (.int (iI 1)), some (.int (iI b)), some (.int (iI w)), some (.int (iI p)), some (.int (iI q))], [.int (iI ((twR E T 0).2))], MX L t s21_ l) _
            refine wi_pop hc rfl ?_
            refine wi_a1 hc rfl rfl ?_
            obtain ⟨s22_, hE22_, hF22_, hL22_⟩ := sp_75 (d := 0) (L := L) (t := t) (l := l) hJ21_.1 hKR
            refine wp_cv (b := 2) (As := []) (r := []) hc rfl (by rw [cm_75]; rfl) rfl (Nat.le_of_ble_eq_true rfl) (show 2 < 621 by decide) (by rw [cm_75]; rfl) (ev_mono hE22_ (by omega)) ?_
            have hJ22_ : JC s22_ (set1 ((twR E T 0).1) 4 ((((twR E T 0).1) 4 * 179 + 101) % 30113)) T := ⟨hL22_, by rw [hF22_ 578 (by omega)]; exact hJ21_.2⟩
            have hK22_ : KA (set1 ((twR E T 0).1) 4 ((((twR E T 0).1) 4 * 179 + 101) % 30113)) T := set1_KA hKR (Or.inr (Or.inr ⟨rfl, by have := hKR.2.2.1.2.1; omega, by omega⟩))
            show mm_wp _ _ (150, [some (.ref 0), some (.ref 2), some (.int (iI 1)), some (.int (iI b)), some (.int (iI w)), some (.int (iI p)), some (.int (iI q))], [], MX L t s22_ l) _
            refine wi_i1 hc rfl rfl ?_
            refine wi_r1 hc rfl (by rw [cm_140]; rfl) ?_
            have hN : yN A e = 1 := by
              exact od_n1 hcy (by omega)
            have hfi := od_fin hRA
            rw [hfi] at hJ22_
            exact ⟨s22_, by rw [hN], fun c hc9_ => (hF22_ c (by omega)).trans ((hF21_ c (by omega)).trans ((hF14_ c (by omega)).trans ((hF13_ c (by omega)).trans ((hF12_ c (by omega)).trans (hF1_ c (by omega)))))), hJ22_⟩
          · refine wi_ic hc rfl ?_
            refine wi_go hc rfl ?_
            obtain ⟨s23_, hE23_, hF23_, hJ23_⟩ := sp_138 (d := 0) (L := L) (t := t) (l := l) hJ14_ vE (v := 1) (by omega)
            refine wp_cv (b := 0) (As := [.int (iI 1)]) (r := []) hc rfl (by rw [cm_138]; rfl) rfl (Nat.le_of_ble_eq_true rfl) (show 0 < 621 by decide) (by rw [cm_138]; rfl) (ev_mono hE23_ (by omega)) ?_
            have vR : VA (twR E T 1).1 T := (twR_ok vE (by omega)).1
            have hKR := vR.K
            have hRA : (twR E T 1).1 = set1 (yWet (yRow A e) T (yE A e)) 4 (yE A e) := by
              unfold yWet
              have ey2 : yRow A e 2 = E 2 := by rw [hEA]; exact (set1_ne (A := yRow A e) (j := 4) (v := yE A e) (k := 2) (by decide)).symm
              rw [if_pos (by omega), show 1 - yRow A e 2 = 1 by omega, hEA, twR4 (yRow_ok hVA h1).1 (by omega)]
            show mm_wp _ _ (145, [some (.ref 0), some (.ref 2), some (.int (iI 1)), some (.int (iI b)), some (.int (iI w)), some (.int (iI p)), some (.int (iI q))], [.int (iI ((twR E T 1).2))], MX L t s23_ l) _
            refine wi_pop hc rfl ?_
            refine wi_a1 hc rfl rfl ?_
            obtain ⟨s24_, hE24_, hF24_, hL24_⟩ := sp_75 (d := 0) (L := L) (t := t) (l := l) hJ23_.1 hKR
            refine wp_cv (b := 2) (As := []) (r := []) hc rfl (by rw [cm_75]; rfl) rfl (Nat.le_of_ble_eq_true rfl) (show 2 < 621 by decide) (by rw [cm_75]; rfl) (ev_mono hE24_ (by omega)) ?_
            have hJ24_ : JC s24_ (set1 ((twR E T 1).1) 4 ((((twR E T 1).1) 4 * 179 + 101) % 30113)) T := ⟨hL24_, by rw [hF24_ 578 (by omega)]; exact hJ23_.2⟩
            have hK24_ : KA (set1 ((twR E T 1).1) 4 ((((twR E T 1).1) 4 * 179 + 101) % 30113)) T := set1_KA hKR (Or.inr (Or.inr ⟨rfl, by have := hKR.2.2.1.2.1; omega, by omega⟩))
            show mm_wp _ _ (150, [some (.ref 0), some (.ref 2), some (.int (iI 1)), some (.int (iI b)), some (.int (iI w)), some (.int (iI p)), some (.int (iI q))], [], MX L t s24_ l) _
            refine wi_i1 hc rfl rfl ?_
            refine wi_r1 hc rfl (by rw [cm_140]; rfl) ?_
            have hN : yN A e = 1 := by
              exact od_n1 hcy (by omega)
            have hfi := od_fin hRA
            rw [hfi] at hJ24_
            exact ⟨s24_, by rw [hN], fun c hc9_ => (hF24_ c (by omega)).trans ((hF23_ c (by omega)).trans ((hF14_ c (by omega)).trans ((hF13_ c (by omega)).trans ((hF12_ c (by omega)).trans (hF1_ c (by omega)))))), hJ24_⟩
theorem sp_99 {d L t : Nat} {s l : Nat → Int → Int} {A T : Int → Int} (hJ : JC s A T) (hVA : VA A T) {sd n : Int} (hsd : rI sd) (hn : rI n) : ∃ s1, mm_Ev mm_ct mm_CM (d + 8) 99 [.ref 0, .int (iI sd), .int (iI n)] (MX L t s l) (some (.int (iI (yearR A T sd n).2)), MX L t s1 l) ∧ (∀ c, ¬ (1 ≤ c ∧ c ≤ 288) ∧ c ≠ 578 ∧ c ≠ 579 → s1 c = s c) ∧ JC s1 (yearR A T sd n).1 T := by
  have hc : (mm_CM 99).2.2.2.2.2.2.2 = mm_cf cd_99 := by rw [cm_99]; rfl
  refine ev_xs ?_
  refine ev_to (mx := 5) (by rw [cm_99]; decide) (by rw [cm_99]; rfl) (by show 3 ≤ _; decide) ?_
  show mm_wp _ _ (0, [some (.ref 0), some (.int (iI sd)), some (.int (iI n)), none, none], [], MX L t s l) (fun res => ∃ s1, res = (some (.int (iI (yearR A T sd n).2)), MX L t s1 l) ∧ (∀ c, ¬ (1 ≤ c ∧ c ≤ 288) ∧ c ≠ 578 ∧ c ≠ 579 → s1 c = s c) ∧ JC s1 (yearR A T sd n).1 T)
  have hK := hVA.K
  have h2v := hK.1.2.1
  have hB := hK.2.1
  have hR9 := hK.2.2.1
  have g0 := hB.1
  have h7 := hR9.2.2.1
  have hbk : ∀ k, k < 154 → k ≠ 7 → keepF A k = A k := fun k a b => keep_bk hVA a b
  have kv := keep_VA hVA
  refine wi_i1 hc rfl rfl ?_
  refine wi_zlt hc rfl hsd (fun h1_ => ?_) (fun h1_ => ?_)
  · refine wi_ic hc rfl ?_
    refine wi_ri hc rfl (by rw [cm_99]; rfl) ?_
    have hR : yearR A T sd n = (A, -1) := by unfold yearR; rw [if_neg (by omega)]
    rw [hR]
    exact ⟨s, rfl, fun c _ => rfl, hJ⟩
  · refine wi_i1 hc rfl rfl ?_
    refine wi_si hc rfl rfl ?_
    refine wi_cgt hc rfl hsd ⟨by decide, by decide⟩ (fun h2_ => ?_) (fun h2_ => ?_)
    · refine wi_ic hc rfl ?_
      refine wi_ri hc rfl (by rw [cm_99]; rfl) ?_
      have hR : yearR A T sd n = (A, -1) := by unfold yearR; rw [if_neg (by omega)]
      rw [hR]
      exact ⟨s, rfl, fun c _ => rfl, hJ⟩
    · refine wi_i1 hc rfl rfl ?_
      refine wi_ic hc rfl ?_
      refine wi_clt hc rfl hn ⟨by decide, by decide⟩ (fun h3_ => ?_) (fun h3_ => ?_)
      · refine wi_ic hc rfl ?_
        refine wi_ri hc rfl (by rw [cm_99]; rfl) ?_
        have hR : yearR A T sd n = (A, -1) := by unfold yearR; rw [if_neg (by omega)]
        rw [hR]
        exact ⟨s, rfl, fun c _ => rfl, hJ⟩
      · refine wi_i1 hc rfl rfl ?_
        refine wi_bi hc rfl rfl ?_
        refine wi_cgt hc rfl hn ⟨by decide, by decide⟩ (fun h4_ => ?_) (fun h4_ => ?_)
        · refine wi_ic hc rfl ?_
          refine wi_ri hc rfl (by rw [cm_99]; rfl) ?_
          have hR : yearR A T sd n = (A, -1) := by unfold yearR; rw [if_neg (by omega)]
          rw [hR]
          exact ⟨s, rfl, fun c _ => rfl, hJ⟩
        · refine wi_a1 hc rfl rfl ?_
          refine wi_gr (w := 1) hc rfl rfl (by decide) (Nat.le_of_ble_eq_true rfl) rfl ?_
          refine wi_gfv (kz := 8) rfl hc rfl rfl (by decide) (Nat.le_of_ble_eq_true rfl) rfl (v := A 0) (lb_books hJ.1) ?_
          refine wi_ic hc rfl ?_
          refine wi_cge hc rfl ⟨by omega, by omega⟩ ⟨by decide, by decide⟩ (fun h5_ => ?_) (fun h5_ => ?_)
          · refine wi_a1 hc rfl rfl ?_
            refine wi_gr (w := 1) hc rfl rfl (by decide) (Nat.le_of_ble_eq_true rfl) rfl ?_
            obtain ⟨s1_, hE1_, hF1_, hL1_⟩ := sp_11 (d := 0) (L := L) (t := t) (l := l) hJ.1 hVA
            refine wp_cv (b := 1) (As := []) (r := []) hc rfl (by rw [cm_11]; rfl) rfl (Nat.le_of_ble_eq_true rfl) (show 1 < 621 by decide) (by rw [cm_11]; rfl) (ev_mono hE1_ (by omega)) ?_
            have hJ1_ : JC s1_ (keepF A) T := ⟨hL1_, by rw [hF1_ 578 (by omega)]; exact hJ.2⟩
            have hK1_ : KA (keepF A) T := (keep_ok hVA).1
            show mm_wp _ _ (42, [some (.ref 0), some (.int (iI sd)), some (.int (iI n)), none, none], [], MX L t s1_ l) _
            refine wi_a1 hc rfl rfl ?_
            refine wi_gr (w := 1) hc rfl rfl (by decide) (Nat.le_of_ble_eq_true rfl) rfl ?_
            refine wi_gr (w := 2) hc rfl rfl (by decide) (Nat.le_of_ble_eq_true rfl) rfl ?_
            refine wi_i1 hc rfl rfl ?_
            refine wi_ic hc rfl ?_
            refine wi_mul hc rfl ?_
            refine wi_bi hc rfl rfl ?_
            refine wi_add hc rfl ?_
            refine wi_pf (kz := 7) rfl hc rfl rfl (by decide) (Nat.le_of_ble_eq_true rfl) rfl (Nat.le_of_ble_eq_true rfl) ⟨rfl, rfl⟩ rfl ?_
            obtain ⟨s2_, es2_⟩ : ∃ q, q = up s1_ 2 7 ((sd * 4) + 31) := ⟨_, rfl⟩
            rw [← es2_]
            have kv := keep_VA hVA
            have hk0 := keep_bk hVA (k := 0) (by decide) (by decide)
            have hJs : JC s2_ (set1 (keepF A) 4 (sd * 4 + 31)) T := ⟨hJ1_.1.set1 hK1_ (Or.inr (Or.inr rfl)) (fun c _ _ q3 => (congrFun es2_ c).trans (up_cc q3)) (by rw [es2_, up_k (by decide)]) (by rw [es2_, up_k (by decide), if_neg (by decide)]) (by rw [es2_, up_k (by decide), if_neg (by decide)]) (by rw [es2_, up_e rfl, if_pos rfl]), by rw [es2_, up_cc (by decide)]; exact hJ1_.2⟩
            refine wi_ic hc rfl ?_
            refine wi_is1 (L' := [some (.ref 0), some (.int (iI sd)), some (.int (iI n)), some (.int (iI 0)), none]) hc rfl (Nat.le_of_ble_eq_true rfl) rfl ?_
            refine wi_ic hc rfl ?_
            refine wi_is2 (L' := [some (.ref 0), some (.int (iI sd)), some (.int (iI n)), some (.int (iI 0)), some (.int (iI 0))]) hc rfl (Nat.le_of_ble_eq_true rfl) rfl ?_
            have loop63_ : ∀ i : Int, i ≤ n → 0 ≤ i → ∀ (C : Int → Int) (e m : Int) (s2 : Nat → Int → Int), VA C T → (0 ≤ e ∧ e ≤ 40027) → (0 ≤ m ∧ m ≤ i) → 1 ≤ C 0 → yearN T n.toNat (keepF A) (sd * 4 + 31) = ((yearN T (n - i).toNat C e).1, (yearN T (n - i).toNat C e).2.1, m + (yearN T (n - i).toNat C e).2.2) → (∀ c, ¬ (1 ≤ c ∧ c ≤ 288) ∧ c ≠ 578 ∧ c ≠ 579 → s2 c = s c) → JC s2 (set1 C 4 e) T → mm_wp (mm_Ev mm_ct mm_CM (d + 7)) 99 (63, [some (.ref 0), some (.int (iI sd)), some (.int (iI n)), some (.int (iI m)), some (.int (iI i))], [], MX L t s2 l) (fun res => ∃ s1, res = (some (.int (iI (yearR A T sd n).2)), MX L t s1 l) ∧ (∀ c, ¬ (1 ≤ c ∧ c ≤ 288) ∧ c ≠ 578 ∧ c ≠ 579 → s1 c = s c) ∧ JC s1 (yearR A T sd n).1 T) := by
              refine up_ind ?_
              intro i hi ih hi0 C e m s2 hVC her0 hmr hc1 hY hF hJ2
              refine wi_i2 hc rfl rfl ?_
              refine wi_i1 hc rfl rfl ?_
              refine wi_cge hc rfl ⟨by omega, by omega⟩ hn (fun h6_ => ?_) (fun h6_ => ?_)
              · refine wi_i1 hc rfl rfl ?_
                refine wi_ri hc rfl (by rw [cm_99]; rfl) ?_
                have hR : yearR A T sd n = (set1 C 4 e, m) := by
                  unfold yearR
                  rw [if_pos (by omega), hY, show (n - i).toNat = 0 by omega]
                  refine Prod.ext rfl ?_
                  show m + 0 = m
                  omega
                rw [hR]
                exact ⟨s2, rfl, hF, hJ2⟩
              · refine wi_a1 hc rfl rfl ?_
                obtain ⟨s3_, hE3_, hF3_, hJ3_⟩ := sp_140 (d := 0) (L := L) (t := t) (l := l) hJ2 hVC (by omega) hc1
                refine wp_cv (b := 0) (As := []) (r := []) hc rfl (by rw [cm_140]; rfl) rfl (Nat.le_of_ble_eq_true rfl) (show 0 < 621 by decide) (by rw [cm_140]; rfl) (ev_mono hE3_ (by omega)) ?_
                have hn01 := yN_01 C e
                have her := anI_r (yE C e)
                obtain ⟨ya, yb, _⟩ := yRow_ok (e := e) hVC hc1
                obtain ⟨yc, yd⟩ := yWet_ok ya (yE C e)
                have hY2 := yearN_st hY (by omega)
                show mm_wp _ _ (73, [some (.ref 0), some (.int (iI sd)), some (.int (iI n)), some (.int (iI m)), some (.int (iI i))], [.int (iI (yN C e))], MX L t s3_ l) _
                refine wi_zeq hc rfl ⟨by omega, by omega⟩ (fun h7_ => ?_) (fun h7_ => ?_)
                · refine wi_inc (L' := [some (.ref 0), some (.int (iI sd)), some (.int (iI n)), some (.int (iI m)), some (.int (iI (i + 1)))]) hc rfl rfl rfl ?_
                  refine wi_go hc rfl ?_
                  exact ih (by omega) (by omega) (yWet (yRow C e) T (yE C e)) (anI (yE C e)) _ s3_ yc (by omega) (by omega) (by rw [yd, yb]; exact hc1) (by rw [hY2]; refine Prod.ext rfl (Prod.ext rfl ?_); show m + yN C e + _ = m + _; omega) (fun c hc9_ => (hF3_ c (by omega)).trans (hF c (by omega))) hJ3_
                · refine wi_inc (L' := [some (.ref 0), some (.int (iI sd)), some (.int (iI n)), some (.int (iI (m + 1))), some (.int (iI i))]) hc rfl rfl rfl ?_
                  refine wi_inc (L' := [some (.ref 0), some (.int (iI sd)), some (.int (iI n)), some (.int (iI (m + 1))), some (.int (iI (i + 1)))]) hc rfl rfl rfl ?_
                  refine wi_go hc rfl ?_
                  exact ih (by omega) (by omega) (yWet (yRow C e) T (yE C e)) (anI (yE C e)) _ s3_ yc (by omega) (by omega) (by rw [yd, yb]; exact hc1) (by rw [hY2]; refine Prod.ext rfl (Prod.ext rfl ?_); show m + yN C e + _ = m + 1 + _; omega) (fun c hc9_ => (hF3_ c (by omega)).trans (hF c (by omega))) hJ3_
            exact loop63_ 0 (by omega) (by omega) (keepF A) (sd * 4 + 31) 0 s2_ kv (by omega) (by omega) (by omega) (by rw [show n - 0 = n by omega]; refine Prod.ext rfl (Prod.ext rfl ?_); show _ = 0 + _; omega) (fun c hc9_ => ((congrFun es2_ c).trans (up_cc (by omega))).trans (hF1_ c (by omega))) hJs
          · refine wi_ic hc rfl ?_
            refine wi_ri hc rfl (by rw [cm_99]; rfl) ?_
            have hR : yearR A T sd n = (A, -1) := by unfold yearR; rw [if_neg (by omega)]
            rw [hR]
            exact ⟨s, rfl, fun c _ => rfl, hJ⟩
theorem sp_233 {d L t : Nat} {s l : Nat → Int → Int} {e : Int} (he : 0 ≤ e ∧ e ≤ 40027) : mm_Ev mm_ct mm_CM (d + 1) 233 [.int (iI e)] (MX L t s l) (some (.int (iI (anI e))), MX L t s l) := by
  have hc : (mm_CM 233).2.2.2.2.2.2.2 = mm_cf cd_233 := by rw [cm_233]; rfl
  refine ev_of (mx := 1) (by rw [cm_233]; decide) (by rw [cm_233]; rfl) (by show 1 ≤ _; decide) ?_
  show mm_wp _ _ (0, [some (.int (iI e))], [], MX L t s l) (fun r => r = (some (.int (iI (anI e))), MX L t s l))
  refine wi_i1 hc rfl rfl ?_
  refine wi_si hc rfl rfl ?_
  refine wi_mul hc rfl ?_
  refine wi_bi hc rfl rfl ?_
  refine wi_add hc rfl ?_
  refine wi_si hc rfl rfl ?_
  refine wi_remp hc rfl ⟨by omega, by omega⟩ ⟨by decide, by decide⟩ (by omega) (by omega) ?_
  refine wi_ri hc rfl (by rw [cm_233]; rfl) ?_
  rfl
theorem sp_156 {d L t : Nat} {s l : Nat → Int → Int} {A T : Int → Int} (hJ : JM s A T) (hB : okB A) {b : Int} (hb : rI b) : mm_Ev mm_ct mm_CM (d + 3) 156 [.ref 598, .int (iI b)] (MX L t s l) (some (.int (iI (bI ((0 ≤ b ∧ b < A 0) ∧ A (46 + 6 * b + 5) < 3)))), MX L t s l) := by
  have hc : (mm_CM 156).2.2.2.2.2.2.2 = mm_cf cd_156 := by rw [cm_156]; rfl
  refine ev_of (mx := 2) (by rw [cm_156]; decide) (by rw [cm_156]; rfl) (by show 2 ≤ _; decide) ?_
  show mm_wp _ _ (0, [some (.ref 598), some (.int (iI b))], [], MX L t s l) (fun r => r = (some (.int (iI (bI ((0 ≤ b ∧ b < A 0) ∧ A (46 + 6 * b + 5) < 3)))), MX L t s l))
  have g0 := hB.1
  refine wi_a1 hc rfl rfl ?_
  refine wi_i1 hc rfl rfl ?_
  refine wp_cv (b := 598) (As := [.int (iI b)]) (r := []) hc rfl (by rw [cm_151]; rfl) rfl (Nat.le_of_ble_eq_true rfl) (show 598 < 621 by decide) (by rw [cm_151]; rfl) (ev_mono (sg_151 (d := 0) (hJ.1) hb (by omega) (by omega)) (by omega)) ?_
  show mm_wp _ _ (5, [some (.ref 598), some (.int (iI b))], [.int (iI (bI (0 ≤ b ∧ b < A 0)))], MX L t s l) _
  refine wi_beq hc rfl (fun h1_ => ?_) (fun h1_ => ?_)
  · refine wi_ic hc rfl ?_
    refine wi_r0 hc rfl (by rw [cm_156]; rfl) ?_
    rw [bI_f (p := (0 ≤ b ∧ b < A 0) ∧ A (46 + 6 * b + 5) < 3) (by omega)]
  · have gw := (hB.2.2.2.2 b (by omega) (by omega)).1
    refine wi_a1 hc rfl rfl ?_
    refine wi_i1 hc rfl rfl ?_
    refine wi_ic hc rfl ?_
    refine wp_cv (b := 598) (As := [.int (iI b), .int (iI 5)]) (r := []) hc rfl (by rw [cm_153]; rfl) rfl (Nat.le_of_ble_eq_true rfl) (show 598 < 621 by decide) (by rw [cm_153]; rfl) (ev_mono (sg_153 (d := 0) hJ.1 (b := b) (w := 5) (by omega) (by omega) (by omega) (by omega)) (by omega)) ?_
    show mm_wp _ _ (14, [some (.ref 598), some (.int (iI b))], [.int (iI (A (46 + 6 * b + 5)))], MX L t s l) _
    refine wi_ic hc rfl ?_
    refine wi_cge hc rfl ⟨by omega, by omega⟩ ⟨by decide, by decide⟩ (fun h2_ => ?_) (fun h2_ => ?_)
    · refine wi_ic hc rfl ?_
      refine wi_r0 hc rfl (by rw [cm_156]; rfl) ?_
      rw [bI_f (p := (0 ≤ b ∧ b < A 0) ∧ A (46 + 6 * b + 5) < 3) (by omega)]
    · refine wi_ic hc rfl ?_
      refine wi_go hc rfl ?_
      refine wi_r1 hc rfl (by rw [cm_156]; rfl) ?_
      rw [bI_t (p := (0 ≤ b ∧ b < A 0) ∧ A (46 + 6 * b + 5) < 3) (by omega)]
theorem sp_234 {d L t : Nat} {s l : Nat → Int → Int} {A T : Int → Int} (hJ : JM s A T) (hVA : VA A T) {sd n : Int} (hsd : rI sd) (hn : rI n) : ∃ s1 l1, mm_Ev mm_ct mm_CM (d + 8) 234 [.ref 598, .int (iI sd), .int (iI n)] (MX L t s l) (some (.int (iI (yearR A T sd n).2)), MX L t s1 l1) ∧ (∀ c, c ≠ 598 ∧ c ≠ 599 ∧ c ≠ 604 ∧ c ≠ 606 → s1 c = s c) ∧ (∀ c, c ≠ 605 → l1 c = l c) ∧ (∀ k, k ≠ 25 → s1 598 k = s 598 k) ∧ JM s1 (yearR A T sd n).1 T := by
  have hc : (mm_CM 234).2.2.2.2.2.2.2 = mm_cf cd_234 := by rw [cm_234]; rfl
  refine ev_xsl ?_
  refine ev_to (mx := 10) (by rw [cm_234]; decide) (by rw [cm_234]; rfl) (by show 3 ≤ _; decide) ?_
  show mm_wp _ _ (0, [some (.ref 598), some (.int (iI sd)), some (.int (iI n)), none, none, none, none, none, none, none], [], MX L t s l) (fun res => ∃ s1 l1, res = (some (.int (iI (yearR A T sd n).2)), MX L t s1 l1) ∧ (∀ c, c ≠ 598 ∧ c ≠ 599 ∧ c ≠ 604 ∧ c ≠ 606 → s1 c = s c) ∧ (∀ c, c ≠ 605 → l1 c = l c) ∧ (∀ k, k ≠ 25 → s1 598 k = s 598 k) ∧ JM s1 (yearR A T sd n).1 T)
  have hK := hVA.K
  have h2v := hK.1.2.1
  have hB := hK.2.1
  have hR9 := hK.2.2.1
  have g0 := hB.1
  have h7 := hR9.2.2.1
  have hbk : ∀ k, k < 154 → k ≠ 7 → keepF A k = A k := fun k a b => keep_bk hVA a b
  have kv := keep_VA hVA
  refine wi_i1 hc rfl rfl ?_
  refine wi_ic hc rfl ?_
  refine wi_si hc rfl rfl ?_
  refine wp_cs (As := [.int (iI sd), .int (iI 0), .int (iI 9999)]) (r := []) hc rfl (by rw [cm_148]; rfl) rfl (Nat.le_of_ble_eq_true rfl) (ev_mono (sp_148 (d := 0) hsd ⟨by decide, by decide⟩ ⟨by decide, by decide⟩) (by omega)) ?_
  show mm_wp _ _ (8, [some (.ref 598), some (.int (iI sd)), some (.int (iI n)), none, none, none, none, none, none, none], [.int (iI (bI (0 ≤ sd ∧ sd ≤ 9999)))], MX L t s l) _
  refine wi_beq hc rfl (fun h1_ => ?_) (fun h1_ => ?_)
  · refine wi_ic hc rfl ?_
    refine wi_ri hc rfl (by rw [cm_234]; rfl) ?_
    have hR : yearR A T sd n = (A, -1) := by unfold yearR; rw [if_neg (by omega)]
    rw [hR]
    exact ⟨s, l, rfl, fun c _ => rfl, fun c _ => rfl, fun k _ => rfl, hJ⟩
  · refine wi_i1 hc rfl rfl ?_
    refine wi_ic hc rfl ?_
    refine wi_bi hc rfl rfl ?_
    refine wp_cs (As := [.int (iI n), .int (iI 1), .int (iI 40)]) (r := []) hc rfl (by rw [cm_148]; rfl) rfl (Nat.le_of_ble_eq_true rfl) (ev_mono (sp_148 (d := 0) hn ⟨by decide, by decide⟩ ⟨by decide, by decide⟩) (by omega)) ?_
    show mm_wp _ _ (18, [some (.ref 598), some (.int (iI sd)), some (.int (iI n)), none, none, none, none, none, none, none], [.int (iI (bI (1 ≤ n ∧ n ≤ 40)))], MX L t s l) _
    refine wi_beq hc rfl (fun h2_ => ?_) (fun h2_ => ?_)
    · refine wi_ic hc rfl ?_
      refine wi_ri hc rfl (by rw [cm_234]; rfl) ?_
      have hR : yearR A T sd n = (A, -1) := by unfold yearR; rw [if_neg (by omega)]
      rw [hR]
      exact ⟨s, l, rfl, fun c _ => rfl, fun c _ => rfl, fun k _ => rfl, hJ⟩
    · refine wi_a1 hc rfl rfl ?_
      refine wi_gr (w := 599) hc rfl rfl (by decide) (Nat.le_of_ble_eq_true rfl) rfl ?_
      refine wi_ic hc rfl ?_
      refine wi_ildv (N := 3642) hc rfl rfl (by decide) (by decide) (by omega) (by omega) (v := A 0) (congrFun (hJ.1) _) ?_
      refine wi_zne hc rfl ⟨by omega, by omega⟩ (fun h3_ => ?_) (fun h3_ => ?_)
      · refine wi_a1 hc rfl rfl ?_
        obtain ⟨s1_, hE1_, hF1_, hA1_⟩ := sp_214 (d := 0) (L := L) (t := t) (l := l) hJ.1 (by omega) (by omega)
        refine wp_cv (b := 598) (As := []) (r := []) hc rfl (by rw [cm_214]; rfl) rfl (Nat.le_of_ble_eq_true rfl) (show 598 < 621 by decide) (by rw [cm_214]; rfl) (ev_mono hE1_ (by omega)) ?_
        have hJ1_ : JM s1_ (keepF A) T := ⟨hA1_, (hF1_ 601 (by decide)).trans hJ.2.1, by rw [hF1_ 604 (by decide)]; exact hJ.2.2⟩
        have hK1_ : KA (keepF A) T := (keep_ok hVA).1
        show mm_wp _ _ (36, [some (.ref 598), some (.int (iI sd)), some (.int (iI n)), none, none, none, none, none, none, none], [], MX L t s1_ l) _
        have kv := keep_VA hVA
        have hk0 := keep_bk hVA (k := 0) (by decide) (by decide)
        refine wi_i1 hc rfl rfl ?_
        refine wi_ic hc rfl ?_
        refine wi_mul hc rfl ?_
        refine wi_bi hc rfl rfl ?_
        refine wi_add hc rfl ?_
        refine wi_is1 (L' := [some (.ref 598), some (.int (iI sd)), some (.int (iI n)), some (.int (iI ((sd * 4) + 31))), none, none, none, none, none, none]) hc rfl (Nat.le_of_ble_eq_true rfl) rfl ?_
        refine wi_ic hc rfl ?_
        refine wi_is2 (L' := [some (.ref 598), some (.int (iI sd)), some (.int (iI n)), some (.int (iI ((sd * 4) + 31))), some (.int (iI 0)), none, none, none, none, none]) hc rfl (Nat.le_of_ble_eq_true rfl) rfl ?_
        refine wi_ic hc rfl ?_
        refine wi_is2 (L' := [some (.ref 598), some (.int (iI sd)), some (.int (iI n)), some (.int (iI ((sd * 4) + 31))), some (.int (iI 0)), some (.int (iI 0)), none, none, none, none]) hc rfl (Nat.le_of_ble_eq_true rfl) rfl ?_
        have loop49_ : ∀ i : Int, i ≤ n → 0 ≤ i → ∀ (C : Int → Int) (e m : Int) (q6 q7 q8 q9 : Option Value) (s2 l2 : Nat → Int → Int), VA C T → (0 ≤ e ∧ e ≤ 40027) → (0 ≤ m ∧ m ≤ i) → 1 ≤ C 0 → yearN T n.toNat (keepF A) (sd * 4 + 31) = ((yearN T (n - i).toNat C e).1, (yearN T (n - i).toNat C e).2.1, m + (yearN T (n - i).toNat C e).2.2) → (∀ c, c ≠ 598 ∧ c ≠ 599 ∧ c ≠ 604 ∧ c ≠ 606 → s2 c = s c) → (∀ c, c ≠ 605 → l2 c = l c) → (∀ k, k ≠ 25 → s2 598 k = s 598 k) → JM s2 C T → mm_wp (mm_Ev mm_ct mm_CM (d + 7)) 234 (49, [some (.ref 598), some (.int (iI sd)), some (.int (iI n)), some (.int (iI e)), some (.int (iI m)), some (.int (iI i)), q6, q7, q8, q9], [], MX L t s2 l2) (fun res => ∃ s1 l1, res = (some (.int (iI (yearR A T sd n).2)), MX L t s1 l1) ∧ (∀ c, c ≠ 598 ∧ c ≠ 599 ∧ c ≠ 604 ∧ c ≠ 606 → s1 c = s c) ∧ (∀ c, c ≠ 605 → l1 c = l c) ∧ (∀ k, k ≠ 25 → s1 598 k = s 598 k) ∧ JM s1 (yearR A T sd n).1 T) := by
          refine up_ind ?_
          intro i hi ih hi0 C e m q6 q7 q8 q9 s2 l2 hVC her0 hmr hc1 hY hF hG hf hJ2
          have hKC := hVC.K
          have hg0 := hKC.2.1.1
          refine wi_i2 hc rfl rfl ?_
          refine wi_i1 hc rfl rfl ?_
          refine wi_cge hc rfl ⟨by omega, by omega⟩ hn (fun h4_ => ?_) (fun h4_ => ?_)
          · refine wi_a1 hc rfl rfl ?_
            refine wi_gr (w := 599) hc rfl rfl (by decide) (Nat.le_of_ble_eq_true rfl) rfl ?_
            refine wi_ic hc rfl ?_
            refine wi_i1 hc rfl rfl ?_
            refine wi_ist (N := 3642) hc rfl rfl (by decide) (by decide) (by omega) (by omega) ?_
            obtain ⟨s2_, es2_⟩ : ∃ q, q = up s2 599 4 e := ⟨_, rfl⟩
            rw [← es2_]
            refine wi_i2 hc rfl rfl ?_
            refine wi_ri hc rfl (by rw [cm_234]; rfl) ?_
            have hR : yearR A T sd n = (set1 C 4 e, m) := by
              unfold yearR
              rw [if_pos (by omega), hY, show (n - i).toNat = 0 by omega]
              refine Prod.ext rfl ?_
              show m + 0 = m
              omega
            rw [hR]
            refine ⟨s2_, l2, rfl, fun c hc9_ => ((congrFun es2_ c).trans (up_cc (by omega))).trans (hF c (by omega)), hG, fun k hk9 => ?_, ?_⟩
            · rw [es2_, up_cc (by decide)]; exact hf k hk9
            · exact ⟨by rw [es2_]; exact up_set1 hJ2.1, by rw [es2_, up_cc (by decide)]; exact hJ2.2.1, by rw [es2_, up_cc (by decide)]; exact hJ2.2.2⟩
          · refine wi_i1 hc rfl rfl ?_
            refine wi_a1 hc rfl rfl ?_
            refine wi_gr (w := 599) hc rfl rfl (by decide) (Nat.le_of_ble_eq_true rfl) rfl ?_
            refine wi_ic hc rfl ?_
            refine wi_ildv (N := 3642) hc rfl rfl (by decide) (by decide) (by omega) (by omega) (v := C 0) (congrFun (hJ2.1) _) ?_
            refine wi_remp hc rfl ⟨by omega, by omega⟩ ⟨by omega, by omega⟩ (by omega) (by omega) ?_
            obtain ⟨b, hb⟩ : ∃ q, q = e % C 0 := ⟨_, rfl⟩
            rw [← hb]
            have hbr : 0 ≤ b ∧ b < C 0 := by rw [hb]; exact ⟨Int.emod_nonneg _ (by omega), Int.emod_lt_of_pos _ (by omega)⟩
            have gw := (hKC.2.1.2.2.2.2 b (by omega) (by omega)).1
            obtain ⟨w, hw⟩ : ∃ z9, z9 = C (46 + 6 * b + 5) := ⟨_, rfl⟩
            rw [← hw] at gw
            refine wi_is2 (L' := [some (.ref 598), some (.int (iI sd)), some (.int (iI n)), some (.int (iI e)), some (.int (iI m)), some (.int (iI i)), some (.int (iI b)), q7, q8, q9]) hc rfl (Nat.le_of_ble_eq_true rfl) rfl ?_
            refine wi_i1 hc rfl rfl ?_
            refine wp_cs (As := [.int (iI e)]) (r := []) hc rfl (by rw [cm_233]; rfl) rfl (Nat.le_of_ble_eq_true rfl) (ev_mono (sp_233 (d := 0) (e := e) (by omega)) (by omega)) ?_
            show mm_wp _ _ (69, [some (.ref 598), some (.int (iI sd)), some (.int (iI n)), some (.int (iI e)), some (.int (iI m)), some (.int (iI i)), some (.int (iI b)), q7, q8, q9], [.int (iI (anI e))], MX L t s2 l2) _
            obtain ⟨e1, he1⟩ : ∃ q, q = anI e := ⟨_, rfl⟩
            rw [← he1]
            have her1 := anI_r e
            rw [← he1] at her1
            refine wi_is1 (L' := [some (.ref 598), some (.int (iI sd)), some (.int (iI n)), some (.int (iI e1)), some (.int (iI m)), some (.int (iI i)), some (.int (iI b)), q7, q8, q9]) hc rfl (Nat.le_of_ble_eq_true rfl) rfl ?_
            refine wi_a1 hc rfl rfl ?_
            refine wi_i2 hc rfl rfl ?_
            refine wp_cv (b := 598) (As := [.int (iI b)]) (r := []) hc rfl (by rw [cm_156]; rfl) rfl (Nat.le_of_ble_eq_true rfl) (show 598 < 621 by decide) (by rw [cm_156]; rfl) (ev_mono (sp_156 (d := 0) hJ2 hKC.2.1 ⟨by omega, by omega⟩) (by omega)) ?_
            show mm_wp _ _ (76, [some (.ref 598), some (.int (iI sd)), some (.int (iI n)), some (.int (iI e1)), some (.int (iI m)), some (.int (iI i)), some (.int (iI b)), q7, q8, q9], [.int (iI (bI ((0 ≤ b ∧ b < C 0) ∧ C (46 + 6 * b + 5) < 3)))], MX L t s2 l2) _
            have join171_ : ∀ (E : Int → Int) (ee mm : Int) (q7 q8 q9 : Option Value) (s3 : Nat → Int → Int), E = yRow C e → ee = yE C e → mm = m + yN C e → (∀ c, c ≠ 598 ∧ c ≠ 599 ∧ c ≠ 604 ∧ c ≠ 606 → s3 c = s c) → (∀ k, k ≠ 25 → s3 598 k = s 598 k) → JM s3 E T → mm_wp (mm_Ev mm_ct mm_CM (d + 7)) 234 (171, [some (.ref 598), some (.int (iI sd)), some (.int (iI n)), some (.int (iI ee)), some (.int (iI mm)), some (.int (iI i)), some (.int (iI b)), q7, q8, q9], [], MX L t s3 l2) (fun res => ∃ s1 l1, res = (some (.int (iI (yearR A T sd n).2)), MX L t s1 l1) ∧ (∀ c, c ≠ 598 ∧ c ≠ 599 ∧ c ≠ 604 ∧ c ≠ 606 → s1 c = s c) ∧ (∀ c, c ≠ 605 → l1 c = l c) ∧ (∀ k, k ≠ 25 → s1 598 k = s 598 k) ∧ JM s1 (yearR A T sd n).1 T) := by
              intro E ee mm q7 q8 q9 s3 hE hee hmm hF3 hf3 hJ3
              have hn01 := yN_01 C e
              have heer := yE_r C e
              rw [← hee] at heer
              have hean := anI_r ee
              obtain ⟨ya, yb, _⟩ := yRow_ok (e := e) hVC hc1
              obtain ⟨yc, yd⟩ := yWet_ok ya (yE C e)
              have hY2 := yearN_st hY (by omega)
              have vE := ya
              rw [← hE] at vE
              have hKE := vE.K
              have e2r := vE.1.2.1
              refine wi_i1 hc rfl rfl ?_
              refine wi_bi hc rfl rfl ?_
              refine wi_remp hc rfl ⟨by omega, by omega⟩ ⟨by decide, by decide⟩ (by omega) (by omega) ?_
              refine wi_ic hc rfl ?_
              refine wi_cge hc rfl ⟨by omega, by omega⟩ ⟨by decide, by decide⟩ (fun h5_ => ?_) (fun h5_ => ?_)
              · refine wi_i1 hc rfl rfl ?_
                refine wp_cs (As := [.int (iI ee)]) (r := []) hc rfl (by rw [cm_233]; rfl) rfl (Nat.le_of_ble_eq_true rfl) (ev_mono (sp_233 (d := 0) (e := ee) (by omega)) (by omega)) ?_
                show mm_wp _ _ (224, [some (.ref 598), some (.int (iI sd)), some (.int (iI n)), some (.int (iI ee)), some (.int (iI mm)), some (.int (iI i)), some (.int (iI b)), q7, q8, q9], [.int (iI (anI ee))], MX L t s3 l2) _
                refine wi_is1 (L' := [some (.ref 598), some (.int (iI sd)), some (.int (iI n)), some (.int (iI (anI ee))), some (.int (iI mm)), some (.int (iI i)), some (.int (iI b)), q7, q8, q9]) hc rfl (Nat.le_of_ble_eq_true rfl) rfl ?_
                refine wi_inc (L' := [some (.ref 598), some (.int (iI sd)), some (.int (iI n)), some (.int (iI (anI ee))), some (.int (iI mm)), some (.int (iI (i + 1))), some (.int (iI b)), q7, q8, q9]) hc rfl rfl rfl ?_
                refine wi_go hc rfl ?_
                have hR : yWet (yRow C e) T (yE C e) = E := by unfold yWet; rw [← hee, if_neg (by omega)]; exact hE.symm
                refine ih (by omega) (by omega) E (anI ee) mm _ _ _ _ s3 l2 ?_ (by omega) (by omega) ?_ ?_ (fun c hc9_ => hF3 c (by omega)) (hG) (hf3) ?_
                · rw [← hR]; exact yc
                · rw [← hR, yd, yb]; exact hc1
                · rw [← hR, hee, hmm]; exact hY2
                · exact hJ3
              · refine wi_a1 hc rfl rfl ?_
                refine wi_gr (w := 599) hc rfl rfl (by decide) (Nat.le_of_ble_eq_true rfl) rfl ?_
                refine wi_ic hc rfl ?_
                refine wi_ic hc rfl ?_
                refine wi_a1 hc rfl rfl ?_
                refine wi_gr (w := 599) hc rfl rfl (by decide) (Nat.le_of_ble_eq_true rfl) rfl ?_
                refine wi_ic hc rfl ?_
                refine wi_ildv (N := 3642) hc rfl rfl (by decide) (by decide) (by omega) (by omega) (v := E 2) (congrFun (hJ3.1) _) ?_
                refine wi_sub hc rfl ?_
                refine wi_ist (N := 3642) hc rfl rfl (by decide) (by decide) (by omega) (by omega) ?_
                obtain ⟨s3_, es3_⟩ : ∃ q, q = up s3 599 2 (1 - (E 2)) := ⟨_, rfl⟩
                rw [← es3_]
                have hJs : JM s3_ (set1 E 2 (1 - E 2)) T := ⟨by rw [es3_]; exact up_set1 hJ3.1, by rw [es3_, up_cc (by decide)]; exact hJ3.2.1, by rw [es3_, up_cc (by decide)]; exact hJ3.2.2⟩
                have hKs : KA (set1 E 2 (1 - E 2)) T := set1_KA vE.K (Or.inr (Or.inl ⟨rfl, by omega⟩))
                have hs2 : (set1 E 2 (1 - E 2)) 2 = 1 - E 2 := if_pos rfl
                refine wi_a1 hc rfl rfl ?_
                refine wi_dupr hc rfl ?_
                refine wi_gfv (kz := 25) rfl hc rfl rfl (by decide) (Nat.le_of_ble_eq_true rfl) rfl (v := s3 598 25) ((congrFun (congrFun es3_ _) _).trans (up_c (by decide))) ?_
                refine wi_a1 hc rfl rfl ?_
                refine wi_gr (w := 599) hc rfl rfl (by decide) (Nat.le_of_ble_eq_true rfl) rfl ?_
                refine wi_ic hc rfl ?_
                refine wi_ildv (N := 3642) hc rfl rfl (by decide) (by decide) (by omega) (by omega) (v := (set1 E 2 (1 - E 2)) 2) (congrFun (hJs.1) _) ?_
                refine wi_ic hc rfl ?_
                refine wi_cne hc rfl ⟨by omega, by omega⟩ ⟨by decide, by decide⟩ (fun h6_ => ?_) (fun h6_ => ?_)
                · refine wi_ic hc rfl ?_
                  refine wi_add hc rfl ?_
                  refine wi_pf (kz := 25) rfl hc rfl rfl (by decide) (Nat.le_of_ble_eq_true rfl) rfl (Nat.le_of_ble_eq_true rfl) ⟨rfl, rfl⟩ rfl ?_
                  obtain ⟨s4_, es4_⟩ : ∃ q, q = up s3_ 598 25 ((s3 598 25) + 0) := ⟨_, rfl⟩
                  rw [← es4_]
                  refine wi_i1 hc rfl rfl ?_
                  refine wp_cs (As := [.int (iI ee)]) (r := []) hc rfl (by rw [cm_233]; rfl) rfl (Nat.le_of_ble_eq_true rfl) (ev_mono (sp_233 (d := 0) (e := ee) (by omega)) (by omega)) ?_
                  show mm_wp _ _ (224, [some (.ref 598), some (.int (iI sd)), some (.int (iI n)), some (.int (iI ee)), some (.int (iI mm)), some (.int (iI i)), some (.int (iI b)), q7, q8, q9], [.int (iI (anI ee))], MX L t s4_ l2) _
                  refine wi_is1 (L' := [some (.ref 598), some (.int (iI sd)), some (.int (iI n)), some (.int (iI (anI ee))), some (.int (iI mm)), some (.int (iI i)), some (.int (iI b)), q7, q8, q9]) hc rfl (Nat.le_of_ble_eq_true rfl) rfl ?_
                  refine wi_inc (L' := [some (.ref 598), some (.int (iI sd)), some (.int (iI n)), some (.int (iI (anI ee))), some (.int (iI mm)), some (.int (iI (i + 1))), some (.int (iI b)), q7, q8, q9]) hc rfl rfl rfl ?_
                  refine wi_go hc rfl ?_
                  have hR : yWet (yRow C e) T (yE C e) = set1 E 2 (1 - E 2) := by
                    unfold yWet
                    rw [← hE, ← hee, if_pos (by omega)]
                    unfold twR
                    rw [if_neg (by omega), show 1 - E 2 = 0 by omega]
                  refine ih (by omega) (by omega) (set1 E 2 (1 - E 2)) (anI ee) mm _ _ _ _ s4_ l2 ?_ (by omega) (by omega) ?_ ?_ (fun c hc9_ => ((congrFun es4_ c).trans (up_cc (by omega))).trans (((congrFun es3_ c).trans (up_cc (by omega))).trans (hF3 c (by omega)))) (hG) (fun k hk9 => ((congrFun (congrFun es4_ 598) k).trans (up_k hk9)).trans (((congrFun ((congrFun es3_ 598).trans (up_cc (by decide))) k)).trans (hf3 k hk9))) ?_
                  · rw [← hR]; exact yc
                  · rw [← hR, yd, yb]; exact hc1
                  · rw [← hR, hee, hmm]; exact hY2
                  · exact ⟨((congrFun es4_ 599).trans (up_cc (by decide))).trans hJs.1, ((congrFun es4_ 601).trans (up_cc (by decide))).trans hJs.2.1, by rw [(congrFun es4_ 604).trans (up_cc (by decide))]; exact hJs.2.2⟩
                · refine wi_a1 hc rfl rfl ?_
                  obtain ⟨s5_, l5_, hE5_, hF5_, hG5_, hJ5_⟩ := sp_224 (d := 0) (L := L) (t := t) (l := l2) hJs hKs
                  refine wp_cv (b := 598) (As := []) (r := [.int (iI (s3 598 25)), .ref 598]) hc rfl (by rw [cm_224]; rfl) rfl (Nat.le_of_ble_eq_true rfl) (show 598 < 621 by decide) (by rw [cm_224]; rfl) (ev_mono hE5_ (by omega)) ?_
                  have hfo5_ := fallAll_ok hKs.1 hKs.2.1 (fun x x0 x1 => by have := hKs.2.2.1.2.2.2.2.1 x x0 x1; omega) 3 (by decide)
                  have hK5_ : KA (fallAll (set1 E 2 (1 - E 2)) T 3).1 T := hfo5_.1.KA hKs hfo5_.2.1
                  show mm_wp _ _ (212, [some (.ref 598), some (.int (iI sd)), some (.int (iI n)), some (.int (iI ee)), some (.int (iI mm)), some (.int (iI i)), some (.int (iI b)), q7, q8, q9], [.int (iI ((fallAll (set1 E 2 (1 - E 2)) T 3).2)), .int (iI (s3 598 25)), .ref 598], MX L t s5_ l5_) _
                  refine wi_go hc rfl ?_
                  refine wi_add hc rfl ?_
                  refine wi_pf (kz := 25) rfl hc rfl rfl (by decide) (Nat.le_of_ble_eq_true rfl) rfl (Nat.le_of_ble_eq_true rfl) ⟨rfl, rfl⟩ rfl ?_
                  obtain ⟨s6_, es6_⟩ : ∃ q, q = up s5_ 598 25 ((s3 598 25) + ((fallAll (set1 E 2 (1 - E 2)) T 3).2)) := ⟨_, rfl⟩
                  rw [← es6_]
                  refine wi_i1 hc rfl rfl ?_
                  refine wp_cs (As := [.int (iI ee)]) (r := []) hc rfl (by rw [cm_233]; rfl) rfl (Nat.le_of_ble_eq_true rfl) (ev_mono (sp_233 (d := 0) (e := ee) (by omega)) (by omega)) ?_
                  show mm_wp _ _ (224, [some (.ref 598), some (.int (iI sd)), some (.int (iI n)), some (.int (iI ee)), some (.int (iI mm)), some (.int (iI i)), some (.int (iI b)), q7, q8, q9], [.int (iI (anI ee))], MX L t s6_ l5_) _
                  refine wi_is1 (L' := [some (.ref 598), some (.int (iI sd)), some (.int (iI n)), some (.int (iI (anI ee))), some (.int (iI mm)), some (.int (iI i)), some (.int (iI b)), q7, q8, q9]) hc rfl (Nat.le_of_ble_eq_true rfl) rfl ?_
                  refine wi_inc (L' := [some (.ref 598), some (.int (iI sd)), some (.int (iI n)), some (.int (iI (anI ee))), some (.int (iI mm)), some (.int (iI (i + 1))), some (.int (iI b)), q7, q8, q9]) hc rfl rfl rfl ?_
                  refine wi_go hc rfl ?_
                  have hR : yWet (yRow C e) T (yE C e) = (fallAll (set1 E 2 (1 - E 2)) T 3).1 := by
                    unfold yWet
                    rw [← hE, ← hee, if_pos (by omega)]
                    unfold twR
                    rw [if_pos (by omega), show 1 - E 2 = 1 by omega]
                  refine ih (by omega) (by omega) ((fallAll (set1 E 2 (1 - E 2)) T 3).1) (anI ee) mm _ _ _ _ s6_ l5_ ?_ (by omega) (by omega) ?_ ?_ (fun c hc9_ => ((congrFun es6_ c).trans (up_cc (by omega))).trans ((hF5_ c (by omega)).trans (((congrFun es3_ c).trans (up_cc (by omega))).trans (hF3 c (by omega))))) (fun c hc9_ => (hG5_ c (by omega)).trans (hG c (by omega))) (fun k hk9 => ((congrFun (congrFun es6_ 598) k).trans (up_k hk9)).trans (((congrFun ((hF5_ 598 (by decide)).trans ((congrFun es3_ 598).trans (up_cc (by decide)))) k)).trans (hf3 k hk9))) ?_
                  · rw [← hR]; exact yc
                  · rw [← hR, yd, yb]; exact hc1
                  · rw [← hR, hee, hmm]; exact hY2
                  · exact ⟨((congrFun es6_ 599).trans (up_cc (by decide))).trans hJ5_.1, ((congrFun es6_ 601).trans (up_cc (by decide))).trans hJ5_.2.1, by rw [(congrFun es6_ 604).trans (up_cc (by decide))]; exact hJ5_.2.2⟩
            refine wi_beq hc rfl (fun h7_ => ?_) (fun h7_ => ?_)
            · have hby : yB C e = b := hb.symm
              have hwy : yW C e = w := by unfold yW; rw [hby]; exact hw.symm
              have hcy : ¬ (yW C e ≤ 2 ∧ 2 ≤ C (13 + yW C e)) := by rw [hwy]; omega
              exact join171_ C e1 m _ _ _ s2 (od_no hcy).1.symm (by rw [(od_no hcy).2.1]; exact he1) (by rw [(od_no hcy).2.2]; omega) hF hf hJ2
            · have gm := hKC.2.1.2.1 w (by omega) (by omega)
              refine wi_a1 hc rfl rfl ?_
              refine wi_gr (w := 599) hc rfl rfl (by decide) (Nat.le_of_ble_eq_true rfl) rfl ?_
              refine wi_bi hc rfl rfl ?_
              refine wi_a1 hc rfl rfl ?_
              refine wi_i2 hc rfl rfl ?_
              refine wi_ic hc rfl ?_
              refine wp_cv (b := 598) (As := [.int (iI b), .int (iI 5)]) (r := [.int (iI 13), .ref 599]) hc rfl (by rw [cm_153]; rfl) rfl (Nat.le_of_ble_eq_true rfl) (show 598 < 621 by decide) (by rw [cm_153]; rfl) (ev_mono (sg_153 (d := 0) hJ2.1 (b := b) (w := 5) (by omega) (by omega) (by omega) (by omega)) (by omega)) ?_
              rw [← hw]
              show mm_wp _ _ (92, [some (.ref 598), some (.int (iI sd)), some (.int (iI n)), some (.int (iI e1)), some (.int (iI m)), some (.int (iI i)), some (.int (iI b)), q7, q8, q9], [.int (iI w), .int (iI 13), .ref 599], MX L t s2 l2) _
              refine wi_add hc rfl ?_
              refine wi_ildv (N := 3642) hc rfl rfl (by decide) (by decide) (by omega) (by omega) (v := C (13 + w)) (congrFun (hJ2.1) _) ?_
              refine wi_ic hc rfl ?_
              refine wi_cle hc rfl ⟨by omega, by omega⟩ ⟨by decide, by decide⟩ (fun h8_ => ?_) (fun h8_ => ?_)
              · have hby : yB C e = b := hb.symm
                have hwy : yW C e = w := by unfold yW; rw [hby]; exact hw.symm
                have hcy : ¬ (yW C e ≤ 2 ∧ 2 ≤ C (13 + yW C e)) := by rw [hwy]; omega
                exact join171_ C e1 m _ _ _ s2 (od_no hcy).1.symm (by rw [(od_no hcy).2.1]; exact he1) (by rw [(od_no hcy).2.2]; omega) hF hf hJ2
              · refine wi_a1 hc rfl rfl ?_
                refine wi_i2 hc rfl rfl ?_
                refine wi_ic hc rfl ?_
                refine wp_cv (b := 598) (As := [.int (iI b), .int (iI 5)]) (r := []) hc rfl (by rw [cm_153]; rfl) rfl (Nat.le_of_ble_eq_true rfl) (show 598 < 621 by decide) (by rw [cm_153]; rfl) (ev_mono (sg_153 (d := 0) hJ2.1 (b := b) (w := 5) (by omega) (by omega) (by omega) (by omega)) (by omega)) ?_
                rw [← hw]
                show mm_wp _ _ (105, [some (.ref 598), some (.int (iI sd)), some (.int (iI n)), some (.int (iI e1)), some (.int (iI m)), some (.int (iI i)), some (.int (iI b)), q7, q8, q9], [.int (iI w)], MX L t s2 l2) _
                refine wi_is2 (L' := [some (.ref 598), some (.int (iI sd)), some (.int (iI n)), some (.int (iI e1)), some (.int (iI m)), some (.int (iI i)), some (.int (iI b)), some (.int (iI w)), q8, q9]) hc rfl (Nat.le_of_ble_eq_true rfl) rfl ?_
                refine wi_a1 hc rfl rfl ?_
                refine wi_i2 hc rfl rfl ?_
                obtain ⟨p0, p1, p2⟩ := placeP_ok hKC.2.1 (b := b) (by omega) (by omega) (by omega)
                rw [← hw] at p1 p2
                refine wp_cv (b := 598) (As := [.int (iI b)]) (r := []) hc rfl (by rw [cm_157]; rfl) rfl (Nat.le_of_ble_eq_true rfl) (show 598 < 621 by decide) (by rw [cm_157]; rfl) (ev_mono (sh_157 (d := 0) hJ2.1 hKC (b := b) (by omega) (by omega) (by omega)) (by omega)) ?_
                obtain ⟨p, hp⟩ : ∃ z9, z9 = placeP C b := ⟨_, rfl⟩
                rw [← hp] at p0 p1 p2
                rw [← hp]
                show mm_wp _ _ (113, [some (.ref 598), some (.int (iI sd)), some (.int (iI n)), some (.int (iI e1)), some (.int (iI m)), some (.int (iI i)), some (.int (iI b)), some (.int (iI w)), q8, q9], [.int (iI p)], MX L t s2 l2) _
                refine wi_is2 (L' := [some (.ref 598), some (.int (iI sd)), some (.int (iI n)), some (.int (iI e1)), some (.int (iI m)), some (.int (iI i)), some (.int (iI b)), some (.int (iI w)), some (.int (iI p)), q9]) hc rfl (Nat.le_of_ble_eq_true rfl) rfl ?_
                refine wi_i1 hc rfl rfl ?_
                refine wi_a1 hc rfl rfl ?_
                refine wi_gr (w := 599) hc rfl rfl (by decide) (Nat.le_of_ble_eq_true rfl) rfl ?_
                refine wi_bi hc rfl rfl ?_
                refine wi_i2 hc rfl rfl ?_
                refine wi_add hc rfl ?_
                refine wi_ildv (N := 3642) hc rfl rfl (by decide) (by decide) (by omega) (by omega) (v := C (13 + w)) (congrFun (hJ2.1) _) ?_
                refine wi_remp hc rfl ⟨by omega, by omega⟩ ⟨by omega, by omega⟩ (by omega) (by omega) ?_
                obtain ⟨q, hq⟩ : ∃ q, q = e1 % C (13 + w) := ⟨_, rfl⟩
                rw [← hq]
                have hqr : 0 ≤ q ∧ q < C (13 + w) := by rw [hq]; exact ⟨Int.emod_nonneg _ (by omega), Int.emod_lt_of_pos _ (by omega)⟩
                refine wi_is2 (L' := [some (.ref 598), some (.int (iI sd)), some (.int (iI n)), some (.int (iI e1)), some (.int (iI m)), some (.int (iI i)), some (.int (iI b)), some (.int (iI w)), some (.int (iI p)), some (.int (iI q))]) hc rfl (Nat.le_of_ble_eq_true rfl) rfl ?_
                refine wi_i1 hc rfl rfl ?_
                refine wp_cs (As := [.int (iI e1)]) (r := []) hc rfl (by rw [cm_233]; rfl) rfl (Nat.le_of_ble_eq_true rfl) (ev_mono (sp_233 (d := 0) (e := e1) (by omega)) (by omega)) ?_
                show mm_wp _ _ (133, [some (.ref 598), some (.int (iI sd)), some (.int (iI n)), some (.int (iI e1)), some (.int (iI m)), some (.int (iI i)), some (.int (iI b)), some (.int (iI w)), some (.int (iI p)), some (.int (iI q))], [.int (iI (anI e1))], MX L t s2 l2) _
                have her2 := anI_r e1
                refine wi_is1 (L' := [some (.ref 598), some (.int (iI sd)), some (.int (iI n)), some (.int (iI (anI e1))), some (.int (iI m)), some (.int (iI i)), some (.int (iI b)), some (.int (iI w)), some (.int (iI p)), some (.int (iI q))]) hc rfl (Nat.le_of_ble_eq_true rfl) rfl ?_
                refine wi_a1 hc rfl rfl ?_
                refine wi_i2 hc rfl rfl ?_
                refine wi_i2 hc rfl rfl ?_
                refine wi_i2 hc rfl rfl ?_
                obtain ⟨s7_, hE7_, hF7_, hA7_⟩ := sp_217 (d := 0) (L := L) (t := t) (l := l2) hJ2.1 (x := w) (p := p) (to := w) (by omega) (by omega) (by omega) (by omega) (by omega) (by omega) (by omega)
                refine wp_cv (b := 598) (As := [.int (iI w), .int (iI p), .int (iI w)]) (r := []) hc rfl (by rw [cm_217]; rfl) rfl (Nat.le_of_ble_eq_true rfl) (show 598 < 621 by decide) (by rw [cm_217]; rfl) (ev_mono hE7_ (by omega)) ?_
                have hJ7_ : JM s7_ (pullF C w p w) T := ⟨hA7_, (hF7_ 601 (by decide)).trans hJ2.2.1, by rw [hF7_ 604 (by decide)]; exact hJ2.2.2⟩
                have em := pull_many (to := w) (y := w) hKC.2.1 (x := w) (p := p) (by omega) (by omega) (by omega) (by omega) (by omega) (by omega)
                rw [if_pos rfl] at em
                show mm_wp _ _ (144, [some (.ref 598), some (.int (iI sd)), some (.int (iI n)), some (.int (iI (anI e1))), some (.int (iI m)), some (.int (iI i)), some (.int (iI b)), some (.int (iI w)), some (.int (iI p)), some (.int (iI q))], [], MX L t s7_ l2) _
                refine wi_a1 hc rfl rfl ?_
                refine wi_i2 hc rfl rfl ?_
                refine wi_i2 hc rfl rfl ?_
                refine wi_i2 hc rfl rfl ?_
                obtain ⟨s8_, hE8_, hF8_, hA8_⟩ := sp_218 (d := 0) (L := L) (t := t) (l := l2) hJ7_.1 (b := b) (x := w) (p := q) (by omega) (by omega) (by omega) (by omega) (by omega) (by omega) (by omega)
                refine wp_cv (b := 598) (As := [.int (iI b), .int (iI w), .int (iI q)]) (r := []) hc rfl (by rw [cm_218]; rfl) rfl (Nat.le_of_ble_eq_true rfl) (show 598 < 621 by decide) (by rw [cm_218]; rfl) (ev_mono hE8_ (by omega)) ?_
                have hby : yB C e = b := hb.symm
                have hwy : yW C e = w := by unfold yW; rw [hby]; exact hw.symm
                have hcy : yW C e ≤ 2 ∧ 2 ≤ C (13 + yW C e) := by rw [hwy]; omega
                have hpy : placeP C (yB C e) = p := by rw [hby]; exact hp.symm
                have hqy : yQ C e = q := by unfold yQ; rw [hwy, hq, he1]
                have hEA : setF (pullF C w p w) b w q = yRow C e := by rw [(od_yes hcy).1, hwy, hpy, hby, hqy]; exact set_pull hKC.2.1 (by omega) (by omega) p0 p1 (by omega) p2
                rw [hEA] at hA8_
                have hJ8_ : JM s8_ (yRow C e) T := ⟨hA8_, (hF8_ 601 (by decide)).trans hJ7_.2.1, by rw [hF8_ 604 (by decide)]; exact hJ7_.2.2⟩
                show mm_wp _ _ (154, [some (.ref 598), some (.int (iI sd)), some (.int (iI n)), some (.int (iI (anI e1))), some (.int (iI m)), some (.int (iI i)), some (.int (iI b)), some (.int (iI w)), some (.int (iI p)), some (.int (iI q))], [], MX L t s8_ l2) _
                refine wi_i2 hc rfl rfl ?_
                refine wi_i2 hc rfl rfl ?_
                refine wi_i2 hc rfl rfl ?_
                refine wi_ceq hc rfl ⟨by omega, by omega⟩ ⟨by omega, by omega⟩ (fun h9_ => ?_) (fun h9_ => ?_)
                · refine wi_ic hc rfl ?_
                  refine wi_add hc rfl ?_
                  refine wi_is2 (L' := [some (.ref 598), some (.int (iI sd)), some (.int (iI n)), some (.int (iI (anI e1))), some (.int (iI (m + 0))), some (.int (iI i)), some (.int (iI b)), some (.int (iI w)), some (.int (iI p)), some (.int (iI q))]) hc rfl (Nat.le_of_ble_eq_true rfl) rfl ?_
                  have hN : m + yN C e = m + 0 := by
                    rw [od_n0 (by omega)]
                  exact join171_ (yRow C e) _ _ _ _ _ s8_ rfl (by rw [(od_yes hcy).2, ← he1]) hN.symm (fun c hc9_ => (hF8_ c (by omega)).trans ((hF7_ c (by omega)).trans (hF c (by omega)))) (fun k hk9 => (congrFun ((hF8_ 598 (by decide)).trans (hF7_ 598 (by decide))) k).trans (hf k hk9)) hJ8_
                · refine wi_ic hc rfl ?_
                  refine wi_go hc rfl ?_
                  refine wi_add hc rfl ?_
                  refine wi_is2 (L' := [some (.ref 598), some (.int (iI sd)), some (.int (iI n)), some (.int (iI (anI e1))), some (.int (iI (m + 1))), some (.int (iI i)), some (.int (iI b)), some (.int (iI w)), some (.int (iI p)), some (.int (iI q))]) hc rfl (Nat.le_of_ble_eq_true rfl) rfl ?_
                  have hN : m + yN C e = m + 1 := by
                    rw [od_n1 hcy (by omega)]
                  exact join171_ (yRow C e) _ _ _ _ _ s8_ rfl (by rw [(od_yes hcy).2, ← he1]) hN.symm (fun c hc9_ => (hF8_ c (by omega)).trans ((hF7_ c (by omega)).trans (hF c (by omega)))) (fun k hk9 => (congrFun ((hF8_ 598 (by decide)).trans (hF7_ 598 (by decide))) k).trans (hf k hk9)) hJ8_
        exact loop49_ 0 (by omega) (by omega) (keepF A) (sd * 4 + 31) 0 _ _ _ _ s1_ l kv (by omega) (by omega) (by omega) (by rw [show n - 0 = n by omega]; refine Prod.ext rfl (Prod.ext rfl ?_); show _ = 0 + _; omega) (fun c hc9_ => hF1_ c (by omega)) (fun c _ => rfl) (fun k _ => congrFun (hF1_ 598 (by decide)) k) hJ1_
      · refine wi_ic hc rfl ?_
        refine wi_ri hc rfl (by rw [cm_234]; rfl) ?_
        have hR : yearR A T sd n = (A, -1) := by unfold yearR; rw [if_neg (by omega)]
        rw [hR]
        exact ⟨s, l, rfl, fun c _ => rfl, fun c _ => rfl, fun k _ => rfl, hJ⟩
