/-! Text, on both sides. -/
theorem tc_90 {D L t t0 : Nat} {s l : Nat → Int → Int} (hD : 26 ≤ D) (hkt : KT L t t) {a5 : Int} (ha : 0 ≤ a5 ∧ a5 < 4) (ht : t = 265 + 6 * a5.toNat) (h10 : s 1 10 = a5) {f : Int → Int} (hT : s 597 = f) (hf : ∀ k, 0 ≤ f k ∧ f k ≤ 255) {n : Int} (hN : s 0 7 = n) (hn : 0 ≤ n ∧ n ≤ 300) : ∃ s1 v9, mm_Ev mm_ct mm_CM (D + 1) 90 [.ref 0] (MX L t0 s l) (some (.int (iI v9)), MX L t s1 l) ∧ ∃ kd k pl nm tn, CUn f n kd k pl nm tn ∧ v9 = (if (rcTx k nm).1 = 0 then a5 else -1) ∧ ∃ sU, CUr kd pl nm tn t s sU (rcTx k nm) ∧ (∀ q, q ≠ 0 → q ≠ 1 → s1 q = sU q) ∧ (∀ j, s1 0 j = if j = 7 then 0 else s 0 j) ∧ ∀ j, s1 1 j = if j = 10 then (if (rcTx k nm).1 = 0 then a5 + 1 else a5) else s 1 j := by
  have hc : (mm_CM 90).2.2.2.2.2.2.2 = mm_cf cd_90 := by rw [cm_90]; rfl
  refine ev_xws ?_
  refine ev_to (mx := 3) (by rw [cm_90]; decide) (by rw [cm_90]; rfl) (by show 1 ≤ _; decide) ?_
  show mm_wp _ _ (0, [some (.ref 0), none, none], [], MX L t0 s l) (fun res => ∃ s1 v9, res = (some (.int (iI v9)), MX L t s1 l) ∧ ∃ kd k pl nm tn, CUn f n kd k pl nm tn ∧ v9 = (if (rcTx k nm).1 = 0 then a5 else -1) ∧ ∃ sU, CUr kd pl nm tn t s sU (rcTx k nm) ∧ (∀ q, q ≠ 0 → q ≠ 1 → s1 q = sU q) ∧ (∀ j, s1 0 j = if j = 7 then 0 else s 0 j) ∧ ∀ j, s1 1 j = if j = 10 then (if (rcTx k nm).1 = 0 then a5 + 1 else a5) else s 1 j)
  refine wi_a1 hc rfl rfl ?_
  refine wi_gr (w := 1) hc rfl rfl (by decide) (Nat.le_of_ble_eq_true rfl) rfl ?_
  refine wi_a1 hc rfl rfl ?_
  refine wi_gr (w := 1) hc rfl rfl (by decide) (Nat.le_of_ble_eq_true rfl) rfl ?_
  refine wi_gfv (kz := 10) rfl hc rfl rfl (by decide) (Nat.le_of_ble_eq_true rfl) rfl (v := a5) (h10) ?_
  have hTA : mm_Ev mm_ct mm_CM (0 + 1) 13 [.ref 1, .int (iI a5)] (MX L t0 s l) (some (.ref t), MX L t0 s l) := by rw [ht]; exact sp_13 ha.1 ha.2
  refine wp_cv (b := 1) (As := [.int (iI a5)]) (r := []) hc rfl (by rw [cm_13]; rfl) rfl (Nat.le_of_ble_eq_true rfl) (show 1 < 621 by decide) (by rw [cm_13]; rfl) (ev_mono hTA (by omega)) ?_
  show mm_wp _ _ (14, [some (.ref 0), none, none], [.ref t], MX L t0 s l) _
  refine wi_as1 (L' := [some (.ref 0), some (.ref t), none]) hc rfl (Nat.le_of_ble_eq_true rfl) rfl ?_
  refine wi_a1 hc rfl rfl ?_
  refine wi_innr hc rfl ?_
  refine wi_a1 hc rfl rfl ?_
  refine wi_gr (w := 580) hc rfl rfl (by decide) (Nat.le_of_ble_eq_true rfl) rfl ?_
  refine wi_a1 hc rfl rfl ?_
  refine wi_gr (w := 597) hc rfl rfl (by decide) (Nat.le_of_ble_eq_true rfl) rfl ?_
  refine wi_a1 hc rfl rfl ?_
  refine wi_gfv (kz := 7) rfl hc rfl rfl (by decide) (Nat.le_of_ble_eq_true rfl) rfl (v := n) (hN) ?_
  refine wi_a1 hc rfl rfl ?_
  obtain ⟨sU, v8, hEU, kd, k, pl, nm, tn, hUn, hv8, hUr⟩ := un_44 (D := 25) (L := L) (t := t) (t0 := t0) (l := l) (Nat.le_refl _) hkt (by omega) hT hf hn.1 hn.2
  subst hv8
  refine wp_cv (b := 580) (As := [.ref 597, .int (iI n), .ref t]) (r := []) hc rfl (by rw [cm_44]; rfl) rfl (Nat.le_of_ble_eq_true rfl) (show 580 < 621 by decide) (by rw [cm_44]; rfl) (ev_mono hEU (by omega)) ?_
  have hU1 : sU 1 = s 1 := hUr.2.2 1 (by decide) (by omega)
  have hU0 : sU 0 = s 0 := hUr.2.2 0 (by decide) (by omega)
  show mm_wp _ _ (37, [some (.ref 0), some (.ref t), none], [.int (iI (bI ((rcTx k nm).1 = 0)))], MX L t sU l) _
  refine wi_is1 (L' := [some (.ref 0), some (.ref t), some (.int (iI (bI ((rcTx k nm).1 = 0))))]) hc rfl (Nat.le_of_ble_eq_true rfl) rfl ?_
  refine wi_a1 hc rfl rfl ?_
  refine wi_ic hc rfl ?_
  refine wi_pf (kz := 7) rfl hc rfl rfl (by decide) (Nat.le_of_ble_eq_true rfl) rfl (Nat.le_of_ble_eq_true rfl) ⟨rfl, rfl⟩ rfl ?_
  obtain ⟨s1_, es1_⟩ : ∃ q, q = up sU 0 7 0 := ⟨_, rfl⟩
  rw [← es1_]
  refine wi_i1 hc rfl rfl ?_
  refine wi_bne hc rfl (fun h1_ => ?_) (fun h1_ => ?_)
  · skip
    refine wi_a1 hc rfl rfl ?_
    refine wi_gr (w := 1) hc rfl rfl (by decide) (Nat.le_of_ble_eq_true rfl) rfl ?_
    refine wi_dupr hc rfl ?_
    refine wi_gfv (kz := 10) rfl hc rfl rfl (by decide) (Nat.le_of_ble_eq_true rfl) rfl (v := a5) (((congrFun (congrFun es1_ _) _).trans (up_c (by decide))).trans ((by rw [hU1]; exact h10 : sU 1 10 = a5))) ?_
    refine wi_ic hc rfl ?_
    refine wi_add hc rfl ?_
    refine wi_pf (kz := 10) rfl hc rfl rfl (by decide) (Nat.le_of_ble_eq_true rfl) rfl (Nat.le_of_ble_eq_true rfl) ⟨rfl, rfl⟩ rfl ?_
    obtain ⟨s2_, es2_⟩ : ∃ q, q = up s1_ 1 10 (a5 + 1) := ⟨_, rfl⟩
    rw [← es2_]
    refine wi_a1 hc rfl rfl ?_
    refine wi_gr (w := 1) hc rfl rfl (by decide) (Nat.le_of_ble_eq_true rfl) rfl ?_
    refine wi_gfv (kz := 10) rfl hc rfl rfl (by decide) (Nat.le_of_ble_eq_true rfl) rfl (v := a5 + 1) ((congrFun (congrFun es2_ _) _).trans (up_e (by omega))) ?_
    refine wi_ic hc rfl ?_
    refine wi_sub hc rfl ?_
    refine wi_ri hc rfl (by rw [cm_90]; rfl) ?_
    refine ⟨s2_, a5, by rw [show a5 + 1 - 1 = a5 by omega], kd, k, pl, nm, tn, hUn, (if_pos h1_).symm, sU, hUr, fun q a b => by rw [es2_, up_cc b, es1_, up_cc a], fun j => by rw [es2_, up_cc (by decide), es1_, up_ite, hU0], fun j => ?_⟩
    rw [es2_, up_ite, es1_, up_cc (by decide), hU1, if_pos h1_]
  · skip
    refine wi_ic hc rfl ?_
    refine wi_ri hc rfl (by rw [cm_90]; rfl) ?_
    refine ⟨s1_, -1, rfl, kd, k, pl, nm, tn, hUn, (if_neg h1_).symm, sU, hUr, fun q a b => by rw [es1_, up_cc a], fun j => by rw [es1_, up_ite, hU0], fun j => ?_⟩
    rw [es1_, up_cc (by decide), hU1, if_neg h1_]
    by_cases q : j = 10
    · rw [if_pos q, q]; exact h10
    · rw [if_neg q]
theorem tc_90n {d L t : Nat} {s l : Nat → Int → Int} (h10 : s 1 10 = 4) : mm_Ev mm_ct mm_CM (d + 2) 90 [.ref 0] (MX L t s l) (some (.int (iI (-1))), MX L t s l) := by
  have hc : (mm_CM 90).2.2.2.2.2.2.2 = mm_cf cd_90 := by rw [cm_90]; rfl
  refine ev_of (mx := 3) (by rw [cm_90]; decide) (by rw [cm_90]; rfl) (by show 1 ≤ _; decide) ?_
  show mm_wp _ _ (0, [some (.ref 0), none, none], [], MX L t s l) (fun r => r = (some (.int (iI (-1))), MX L t s l))
  refine wi_a1 hc rfl rfl ?_
  refine wi_gr (w := 1) hc rfl rfl (by decide) (Nat.le_of_ble_eq_true rfl) rfl ?_
  refine wi_a1 hc rfl rfl ?_
  refine wi_gr (w := 1) hc rfl rfl (by decide) (Nat.le_of_ble_eq_true rfl) rfl ?_
  refine wi_gfv (kz := 10) rfl hc rfl rfl (by decide) (Nat.le_of_ble_eq_true rfl) rfl (v := 4) (h10) ?_
  refine wp_cv (b := 1) (As := [.int (iI 4)]) (r := []) hc rfl (by rw [cm_13]; rfl) rfl (Nat.le_of_ble_eq_true rfl) (show 1 < 621 by decide) (by rw [cm_13]; rfl) (ev_mono (sp_13n (d := 0) (x := 4) ⟨by decide, by decide⟩ (Or.inr (by decide))) (by omega)) ?_
  show mm_wp _ _ (14, [some (.ref 0), none, none], [.null], MX L t s l) _
  refine wi_asn1 (L' := [some (.ref 0), some (.null), none]) hc rfl (Nat.le_of_ble_eq_true rfl) rfl ?_
  refine wi_aln1 hc rfl rfl ?_
  refine wi_innn hc rfl ?_
  refine wi_ic hc rfl ?_
  refine wi_ri hc rfl (by rw [cm_90]; rfl) ?_
  rfl
theorem tm_197n {d L t : Nat} {s l : Nat → Int → Int} (h5 : s 599 5 = 4) : mm_Ev mm_ct mm_CM (d + 2) 197 [.ref 598] (MX L t s l) (some (.int (iI (-1))), MX L t s l) := by
  have hc : (mm_CM 197).2.2.2.2.2.2.2 = mm_cf cd_197 := by rw [cm_197]; rfl
  refine ev_of (mx := 1) (by rw [cm_197]; decide) (by rw [cm_197]; rfl) (by show 1 ≤ _; decide) ?_
  show mm_wp _ _ (0, [some (.ref 598)], [], MX L t s l) (fun r => r = (some (.int (iI (-1))), MX L t s l))
  refine wi_a1 hc rfl rfl ?_
  refine wi_gr (w := 599) hc rfl rfl (by decide) (Nat.le_of_ble_eq_true rfl) rfl ?_
  refine wi_ic hc rfl ?_
  refine wi_ildv (N := 3642) hc rfl rfl (by decide) (by decide) (by omega) (by omega) (v := 4) (h5) ?_
  refine wi_ic hc rfl ?_
  refine wi_cne hc rfl ⟨by decide, by decide⟩ ⟨by decide, by decide⟩ (fun q => absurd q (by decide)) (fun _ => ?_)
  refine wi_ic hc rfl ?_
  refine wi_ri hc rfl (by rw [cm_197]; rfl) ?_
  rfl
theorem rcAll_r {k nm : Int → Int} : ∀ (n : Nat) (z : rpS) (G : Int → Int), 0 ≤ (rcAll k nm n z G).1 ∧ (rcAll k nm n z G).1 ≤ 6
  | 0, _, _ => ⟨Int.le_refl _, (by decide : (0 : Int) ≤ 6)⟩
  | n + 1, z, G => by
    rw [rcAll]
    split
    · exact ⟨Int.le_refl _, (by decide : (0 : Int) ≤ 6)⟩
    · split
      · exact rcAll_r n _ _
      · exact rcF_r rfl
theorem rcTx_r (k nm : Int → Int) : 0 ≤ (rcTx k nm).1 ∧ (rcTx k nm).1 ≤ 6 := rcAll_r _ _ _
theorem tm_197 {d L t : Nat} {s l : Nat → Int → Int} {f : Int → Int} {n : Int} {kd k pl nm : Int → Int} {tn : Int} (hG : GTX f n kd k pl nm tn) (hT : s 602 = f) (hN : s 598 4 = n) (h17 : 0 ≤ s 598 17) {a5 : Int} (h5 : s 599 5 = a5) (ha : 0 ≤ a5 ∧ a5 < 4) {r : rcR} (hr : rcTx k nm = r) : ∃ s1 l1, mm_Ev mm_ct mm_CM (d + 15) 197 [.ref 598] (MX L t s l) (some (.int (iI (if r.1 = 0 then a5 else -1))), MX L t s1 l1) ∧ ∃ (sR : Nat → Int → Int) (y : rpS) (Q : List Int) (o' w' : Int), y.1 = r.2.1.1 ∧ MSt f n k pl nm tn (705 * a5) sR l1 y Q o' w' ∧ (r.1 = 0 → y = r.2.1 ∧ o' = 0 ∧ MG (705 * a5) (sR 601) r.2.2) ∧ MQf (705 * a5) s sR l l1 ∧ (∀ q, q ≠ 598 → q ≠ 599 → s1 q = sR q) ∧ (∀ j, s1 598 j = if j = 4 then 0 else if j = 6 then (if r.1 = 0 then -1 else pl r.2.1.1) else if j = 5 then r.1 else sR 598 j) ∧ ∀ j, s1 599 j = if j = 5 then (if r.1 = 0 then a5 + 1 else a5) else s 599 j := by
  have hc : (mm_CM 197).2.2.2.2.2.2.2 = mm_cf cd_197 := by rw [cm_197]; rfl
  refine ev_xsl ?_
  refine ev_to (mx := 1) (by rw [cm_197]; decide) (by rw [cm_197]; rfl) (by show 1 ≤ _; decide) ?_
  show mm_wp _ _ (0, [some (.ref 598)], [], MX L t s l) (fun res => ∃ s1 l1, res = (some (.int (iI (if r.1 = 0 then a5 else -1))), MX L t s1 l1) ∧ ∃ (sR : Nat → Int → Int) (y : rpS) (Q : List Int) (o' w' : Int), y.1 = r.2.1.1 ∧ MSt f n k pl nm tn (705 * a5) sR l1 y Q o' w' ∧ (r.1 = 0 → y = r.2.1 ∧ o' = 0 ∧ MG (705 * a5) (sR 601) r.2.2) ∧ MQf (705 * a5) s sR l l1 ∧ (∀ q, q ≠ 598 → q ≠ 599 → s1 q = sR q) ∧ (∀ j, s1 598 j = if j = 4 then 0 else if j = 6 then (if r.1 = 0 then -1 else pl r.2.1.1) else if j = 5 then r.1 else sR 598 j) ∧ ∀ j, s1 599 j = if j = 5 then (if r.1 = 0 then a5 + 1 else a5) else s 599 j)
  refine wi_a1 hc rfl rfl ?_
  refine wi_gr (w := 599) hc rfl rfl (by decide) (Nat.le_of_ble_eq_true rfl) rfl ?_
  refine wi_ic hc rfl ?_
  refine wi_ildv (N := 3642) hc rfl rfl (by decide) (by decide) (by omega) (by omega) (v := a5) (h5) ?_
  refine wi_ic hc rfl ?_
  refine wi_cne hc rfl ⟨by omega, by omega⟩ ⟨by decide, by decide⟩ (fun h1_ => ?_) (fun h1_ => (by exfalso; omega))
  refine wi_a1 hc rfl rfl ?_
  refine wi_a1 hc rfl rfl ?_
  obtain ⟨sR, lR, hER, y, Q, oR, wR, hy, hM, hok, hQ⟩ := rd_196 (d := 0) (L := L) (t := t) (l := l) hG hT hN h17 h5 ha hr
  refine wp_cv (b := 598) (As := []) (r := [.ref 598]) hc rfl (by rw [cm_196]; rfl) rfl (Nat.le_of_ble_eq_true rfl) (show 598 < 621 by decide) (by rw [cm_196]; rfl) (ev_mono hER (by omega)) ?_
  have hR9 : sR 599 = s 599 := hQ.1 599 (by decide) (by decide) (by decide)
  have hr16 : 0 ≤ r.1 ∧ r.1 ≤ 6 := hr ▸ rcTx_r k nm
  have h8 : sR 598 8 = pl r.2.1.1 := by rw [← hy]; exact hM.2.1.2.1
  show mm_wp _ _ (17, [some (.ref 598)], [.int (iI r.1), .ref 598], MX L t sR lR) _
  refine wi_pf (kz := 5) rfl hc rfl rfl (by decide) (Nat.le_of_ble_eq_true rfl) rfl (Nat.le_of_ble_eq_true rfl) ⟨rfl, rfl⟩ rfl ?_
  obtain ⟨s1_, es1_⟩ : ∃ q, q = up sR 598 5 r.1 := ⟨_, rfl⟩
  rw [← es1_]
  refine wi_a1 hc rfl rfl ?_
  refine wi_a1 hc rfl rfl ?_
  refine wi_gfv (kz := 5) rfl hc rfl rfl (by decide) (Nat.le_of_ble_eq_true rfl) rfl (v := r.1) ((congrFun (congrFun es1_ _) _).trans (up_e (by omega))) ?_
  refine wi_zne hc rfl ⟨by omega, by omega⟩ (fun h2_ => ?_) (fun h2_ => ?_)
  · skip
    refine wi_a1 hc rfl rfl ?_
    refine wi_gfv (kz := 8) rfl hc rfl rfl (by decide) (Nat.le_of_ble_eq_true rfl) rfl (v := pl r.2.1.1) (((congrFun (congrFun es1_ _) _).trans (up_k (by omega))).trans (h8)) ?_
    refine wi_pf (kz := 6) rfl hc rfl rfl (by decide) (Nat.le_of_ble_eq_true rfl) rfl (Nat.le_of_ble_eq_true rfl) ⟨rfl, rfl⟩ rfl ?_
    obtain ⟨s2_, es2_⟩ : ∃ q, q = up s1_ 598 6 (pl r.2.1.1) := ⟨_, rfl⟩
    rw [← es2_]
    refine wi_a1 hc rfl rfl ?_
    refine wi_ic hc rfl ?_
    refine wi_pf (kz := 4) rfl hc rfl rfl (by decide) (Nat.le_of_ble_eq_true rfl) rfl (Nat.le_of_ble_eq_true rfl) ⟨rfl, rfl⟩ rfl ?_
    obtain ⟨s3_, es3_⟩ : ∃ q, q = up s2_ 598 4 0 := ⟨_, rfl⟩
    rw [← es3_]
    refine wi_a1 hc rfl rfl ?_
    refine wi_gfv (kz := 5) rfl hc rfl rfl (by decide) (Nat.le_of_ble_eq_true rfl) rfl (v := r.1) (((congrFun (congrFun es3_ _) _).trans (up_k (by omega))).trans (((congrFun (congrFun es2_ _) _).trans (up_k (by omega))).trans ((congrFun (congrFun es1_ _) _).trans (up_e (by omega))))) ?_
    refine wi_zeq hc rfl ⟨by omega, by omega⟩ (fun h3_ => (by exfalso; omega)) (fun h3_ => ?_)
    refine wi_ic hc rfl ?_
    refine wi_ri hc rfl (by rw [cm_197]; rfl) ?_
    have fz : ∀ j, s3_ 598 j = if j = 4 then 0 else if j = 6 then pl r.2.1.1 else if j = 5 then r.1 else sR 598 j := fun j => by rw [es3_, up_ite, es2_, up_ite, es1_, up_ite]
    have fo : ∀ q, q ≠ 598 → s3_ q = sR q := fun q a => by rw [es3_, up_cc a, es2_, up_cc a, es1_, up_cc a]
    refine ⟨s3_, lR, by rw [if_neg h2_], sR, y, Q, oR, wR, hy, hM, hok, hQ, fun q a b => fo q a, fun j => by rw [fz, if_neg h2_], fun j => ?_⟩
    rw [fo 599 (by decide), hR9, if_neg h2_]
    by_cases q : j = 5
    · rw [if_pos q, q]; exact h5
    · rw [if_neg q]
  · skip
    refine wi_ic hc rfl ?_
    refine wi_go hc rfl ?_
    refine wi_pf (kz := 6) rfl hc rfl rfl (by decide) (Nat.le_of_ble_eq_true rfl) rfl (Nat.le_of_ble_eq_true rfl) ⟨rfl, rfl⟩ rfl ?_
    obtain ⟨s4_, es4_⟩ : ∃ q, q = up s1_ 598 6 (-1) := ⟨_, rfl⟩
    rw [← es4_]
    refine wi_a1 hc rfl rfl ?_
    refine wi_ic hc rfl ?_
    refine wi_pf (kz := 4) rfl hc rfl rfl (by decide) (Nat.le_of_ble_eq_true rfl) rfl (Nat.le_of_ble_eq_true rfl) ⟨rfl, rfl⟩ rfl ?_
    obtain ⟨s5_, es5_⟩ : ∃ q, q = up s4_ 598 4 0 := ⟨_, rfl⟩
    rw [← es5_]
    refine wi_a1 hc rfl rfl ?_
    refine wi_gfv (kz := 5) rfl hc rfl rfl (by decide) (Nat.le_of_ble_eq_true rfl) rfl (v := r.1) (((congrFun (congrFun es5_ _) _).trans (up_k (by omega))).trans (((congrFun (congrFun es4_ _) _).trans (up_k (by omega))).trans ((congrFun (congrFun es1_ _) _).trans (up_e (by omega))))) ?_
    refine wi_zeq hc rfl ⟨by omega, by omega⟩ (fun h4_ => ?_) (fun h4_ => (by exfalso; omega))
    refine wi_a1 hc rfl rfl ?_
    refine wi_gr (w := 599) hc rfl rfl (by decide) (Nat.le_of_ble_eq_true rfl) rfl ?_
    refine wi_ic hc rfl ?_
    refine wi_dup2 hc rfl ?_
    refine wi_ildv (N := 3642) hc rfl rfl (by decide) (by decide) (by omega) (by omega) (v := a5) (((congrFun (congrFun es5_ _) _).trans (up_c (by decide))).trans (((congrFun (congrFun es4_ _) _).trans (up_c (by decide))).trans (((congrFun (congrFun es1_ _) _).trans (up_c (by decide))).trans ((by rw [hR9]; exact h5 : sR 599 5 = a5))))) ?_
    refine wi_ic hc rfl ?_
    refine wi_add hc rfl ?_
    refine wi_ist (N := 3642) hc rfl rfl (by decide) (by decide) (by omega) (by omega) ?_
    obtain ⟨s6_, es6_⟩ : ∃ q, q = up s5_ 599 5 (a5 + 1) := ⟨_, rfl⟩
    rw [← es6_]
    refine wi_a1 hc rfl rfl ?_
    refine wi_gr (w := 599) hc rfl rfl (by decide) (Nat.le_of_ble_eq_true rfl) rfl ?_
    refine wi_ic hc rfl ?_
    refine wi_ildv (N := 3642) hc rfl rfl (by decide) (by decide) (by omega) (by omega) (v := a5 + 1) ((congrFun (congrFun es6_ _) _).trans (up_e (by omega))) ?_
    refine wi_ic hc rfl ?_
    refine wi_sub hc rfl ?_
    refine wi_ri hc rfl (by rw [cm_197]; rfl) ?_
    have fz : ∀ j, s6_ 598 j = if j = 4 then 0 else if j = 6 then -1 else if j = 5 then r.1 else sR 598 j := fun j => by rw [es6_, up_cc (by decide), es5_, up_ite, es4_, up_ite, es1_, up_ite]
    have fo : ∀ q, q ≠ 598 → q ≠ 599 → s6_ q = sR q := fun q a b => by rw [es6_, up_cc b, es5_, up_cc a, es4_, up_cc a, es1_, up_cc a]
    refine ⟨s6_, lR, by rw [if_pos h2_, show a5 + 1 - 1 = a5 by omega], sR, y, Q, oR, wR, hy, hM, hok, hQ, fo, fun j => by rw [fz, if_pos h2_], fun j => ?_⟩
    rw [es6_, up_ite, es5_, up_cc (by decide), es4_, up_cc (by decide), es1_, up_cc (by decide), hR9, if_pos h2_]
