/-! The model's sums: one, what is behind it, the whole. -/
theorem plN_in {g : Int → Int} : ∀ {P : List Int} {i : Int}, plN g P → 0 ≤ i → i < (P.length : Int) → g i ∈ P
  | [], i, _, h0, h1 => by have h1 : i < ((0 : Nat) : Int) := h1; omega
  | p :: P, i, h, h0, h1 => by
    rw [List.length_cons] at h1
    by_cases q : i = P.length
    · rw [q, h.1]; exact List.mem_cons_self
    · exact List.mem_cons_of_mem _ (plN_in h.2 h0 (by omega))
theorem GTX_nx {f : Int → Int} {n : Int} {kd k pl nm : Int → Int} {tn a : Int} (hG : GTX f n kd k pl nm tn) (h0 : 0 ≤ a) (h1 : a < tn) (hk : k a ≠ 43) : a + 1 < tn := by
  obtain ⟨⟨-, -, -, -, h5⟩, -, -, -, h6, -⟩ := hG
  rcases (by omega : a + 1 < tn ∨ a = tn - 1) with h | h
  · exact h
  · exfalso
    apply hk
    rw [h6 a h0 h1, h]
    exact h5
theorem sp_180 {d L t : Nat} {s l : Nat → Int → Int} {f : Int → Int} {n : Int} {kd k pl nm : Int → Int} {tn b : Int} {z : rpS} {P : List Int} {o w c : Int} (hG : GTX f n kd k pl nm tn) (h : MSt f n k pl nm tn b s l z P o w) (b0 : 0 ≤ b ∧ b ≤ 2115) (hI : rqI z P o) (hcc : c ≤ z.2.2) : mm_Ev mm_ct mm_CM (d + 1) 180 [.ref 598] (MX L t s l) (some (.int (iI (bI (40 ∈ P)))), MX L t s l) := by
  have hc : (mm_CM 180).2.2.2.2.2.2.2 = mm_cf cd_180 := by rw [cm_180]; rfl
  refine ev_of (mx := 2) (by rw [cm_180]; decide) (by rw [cm_180]; rfl) (by show 1 ≤ _; decide) ?_
  show mm_wp _ _ (0, [some (.ref 598), none], [], MX L t s l) (fun r => r = (some (.int (iI (bI (40 ∈ P)))), MX L t s l))
  have hI2 := rqI_len hI
  obtain ⟨hi1, hi2, hi3, hi4, hi5⟩ := id hI
  have htn := hG.2.2.2.1
  have hz1 := h.2.1.1
  have hkr := hG.2.2.2.2.2.2 z.1
  obtain ⟨n9, hn9⟩ : ∃ n9 : Int, n9 = P.length := ⟨_, rfl⟩
  have hpl := h.2.2.2.1.2
  refine wi_ic hc rfl ?_
  refine wi_is1 (L' := [some (.ref 598), some (.int (iI 0))]) hc rfl (Nat.le_of_ble_eq_true rfl) rfl ?_
  have loop2_ : ∀ i : Int, i ≤ n9 → 0 ≤ i → (∀ j, 0 ≤ j → j < i → s 603 j ≠ 40) → mm_wp (mm_Ev mm_ct mm_CM d) 180 (2, [some (.ref 598), some (.int (iI i))], [], MX L t s l) (fun r => r = (some (.int (iI (bI (40 ∈ P)))), MX L t s l)) := by
    refine up_ind ?_
    intro i hi9 ih hi0 hno
    refine wi_i1 hc rfl rfl ?_
    refine wi_a1 hc rfl rfl ?_
    refine wi_gfv (kz := 17) rfl hc rfl rfl (by decide) (Nat.le_of_ble_eq_true rfl) rfl (v := n9) ((MSt.rn h).trans hn9.symm) ?_
    refine wi_cge hc rfl ⟨by omega, by omega⟩ ⟨by omega, by omega⟩ (fun h1_ => ?_) (fun h1_ => ?_)
    · refine wi_ic hc rfl ?_
      refine wi_r0 hc rfl (by rw [cm_180]; rfl) ?_
      rw [bI_f (p := 40 ∈ P) (fun e => by obtain ⟨j, j0, j1, j2⟩ := (plN_mem hpl).mp e; exact hno j j0 (by omega) j2)]
    · have hpi := pl_r hi3 _ (plN_in hpl (i := i) (by omega) (by omega))
      refine wi_a1 hc rfl rfl ?_
      refine wi_gr (w := 603) hc rfl rfl (by decide) (Nat.le_of_ble_eq_true rfl) rfl ?_
      refine wi_i1 hc rfl rfl ?_
      refine wi_ild (N := 160) hc rfl rfl (by decide) (by decide) (by omega) (by omega) ?_
      refine wi_bi hc rfl rfl ?_
      refine wi_cne hc rfl ⟨by omega, by omega⟩ ⟨by decide, by decide⟩ (fun h2_ => ?_) (fun h2_ => ?_)
      · refine wi_inc (L' := [some (.ref 598), some (.int (iI (i + 1)))]) hc rfl rfl rfl ?_
        refine wi_go hc rfl ?_
        exact ih (by omega) (by omega) (fun j h1 h2 => by
          rcases (by omega : j < i ∨ j = i) with g | g
          · exact hno j h1 g
          · rw [g]; omega)
      · refine wi_ic hc rfl ?_
        refine wi_r1 hc rfl (by rw [cm_180]; rfl) ?_
        rw [bI_t (p := 40 ∈ P) ((plN_mem hpl).mpr ⟨i, by omega, by omega, by omega⟩)]
  exact loop2_ 0 (by omega) (by omega) (fun j h1 h2 => by omega)
theorem sp_181 {d L t : Nat} {s l : Nat → Int → Int} {f : Int → Int} {n : Int} {kd k pl nm : Int → Int} {tn b : Int} {z : rpS} {P : List Int} {o w c : Int} (hG : GTX f n kd k pl nm tn) (h : MSt f n k pl nm tn b s l z P o w) (b0 : 0 ≤ b ∧ b ≤ 2115) (hI : rqI z P o) (hcc : c ≤ z.2.2) : mm_Ev mm_ct mm_CM (d + 2) 181 [.ref 598] (MX L t s l) (some (.int (iI (bI ((33 ≤ k z.1 ∧ k z.1 ≤ 36) ∨ (k z.1 = 38 ∧ 40 ∈ P))))), MX L t s l) := by
  have hc : (mm_CM 181).2.2.2.2.2.2.2 = mm_cf cd_181 := by rw [cm_181]; rfl
  refine ev_of (mx := 1) (by rw [cm_181]; decide) (by rw [cm_181]; rfl) (by show 1 ≤ _; decide) ?_
  show mm_wp _ _ (0, [some (.ref 598)], [], MX L t s l) (fun r => r = (some (.int (iI (bI ((33 ≤ k z.1 ∧ k z.1 ≤ 36) ∨ (k z.1 = 38 ∧ 40 ∈ P))))), MX L t s l))
  have hI2 := rqI_len hI
  obtain ⟨hi1, hi2, hi3, hi4, hi5⟩ := id hI
  have htn := hG.2.2.2.1
  have hz1 := h.2.1.1
  have hkr := hG.2.2.2.2.2.2 z.1
  obtain ⟨q9, hq9⟩ : ∃ q9, s 598 9 = q9 := ⟨_, rfl⟩
  obtain ⟨u9, hu9⟩ : ∃ u9, s 598 10 = u9 := ⟨_, rfl⟩
  obtain ⟨w9, hw9⟩ : ∃ w9, l 598 11 = w9 := ⟨_, rfl⟩
  have hk9 := MSt.tk h
  rw [hq9, hu9, hw9] at hk9
  have ha9 := tkR_a hk9
  unfold tkA at ha9
  refine wi_a1 hc rfl rfl ?_
  refine wi_gfv (kz := 9) rfl hc rfl rfl (by decide) (Nat.le_of_ble_eq_true rfl) rfl (v := q9) (hq9) ?_
  refine wi_bi hc rfl rfl ?_
  refine wi_ceq hc rfl ⟨by omega, by omega⟩ ⟨by decide, by decide⟩ (fun h1_ => ?_) (fun h1_ => ?_)
  · refine wi_ic hc rfl ?_
    refine wi_go hc rfl ?_
    refine wi_r1 hc rfl (by rw [cm_181]; rfl) ?_
    rw [bI_t (p := (33 ≤ k z.1 ∧ k z.1 ≤ 36) ∨ (k z.1 = 38 ∧ 40 ∈ P)) (Or.inl (by omega))]
  · refine wi_a1 hc rfl rfl ?_
    refine wi_gfv (kz := 9) rfl hc rfl rfl (by decide) (Nat.le_of_ble_eq_true rfl) rfl (v := q9) (hq9) ?_
    refine wi_bi hc rfl rfl ?_
    refine wi_ceq hc rfl ⟨by omega, by omega⟩ ⟨by decide, by decide⟩ (fun h2_ => ?_) (fun h2_ => ?_)
    · refine wi_ic hc rfl ?_
      refine wi_go hc rfl ?_
      refine wi_r1 hc rfl (by rw [cm_181]; rfl) ?_
      rw [bI_t (p := (33 ≤ k z.1 ∧ k z.1 ≤ 36) ∨ (k z.1 = 38 ∧ 40 ∈ P)) (Or.inl (by omega))]
    · refine wi_a1 hc rfl rfl ?_
      refine wi_gfv (kz := 9) rfl hc rfl rfl (by decide) (Nat.le_of_ble_eq_true rfl) rfl (v := q9) (hq9) ?_
      refine wi_bi hc rfl rfl ?_
      refine wi_ceq hc rfl ⟨by omega, by omega⟩ ⟨by decide, by decide⟩ (fun h3_ => ?_) (fun h3_ => ?_)
      · refine wi_ic hc rfl ?_
        refine wi_go hc rfl ?_
        refine wi_r1 hc rfl (by rw [cm_181]; rfl) ?_
        rw [bI_t (p := (33 ≤ k z.1 ∧ k z.1 ≤ 36) ∨ (k z.1 = 38 ∧ 40 ∈ P)) (Or.inl (by omega))]
      · refine wi_a1 hc rfl rfl ?_
        refine wi_gfv (kz := 9) rfl hc rfl rfl (by decide) (Nat.le_of_ble_eq_true rfl) rfl (v := q9) (hq9) ?_
        refine wi_bi hc rfl rfl ?_
        refine wi_ceq hc rfl ⟨by omega, by omega⟩ ⟨by decide, by decide⟩ (fun h4_ => ?_) (fun h4_ => ?_)
        · refine wi_ic hc rfl ?_
          refine wi_go hc rfl ?_
          refine wi_r1 hc rfl (by rw [cm_181]; rfl) ?_
          rw [bI_t (p := (33 ≤ k z.1 ∧ k z.1 ≤ 36) ∨ (k z.1 = 38 ∧ 40 ∈ P)) (Or.inl (by omega))]
        · refine wi_a1 hc rfl rfl ?_
          refine wi_gfv (kz := 9) rfl hc rfl rfl (by decide) (Nat.le_of_ble_eq_true rfl) rfl (v := q9) (hq9) ?_
          refine wi_bi hc rfl rfl ?_
          refine wi_cne hc rfl ⟨by omega, by omega⟩ ⟨by decide, by decide⟩ (fun h5_ => ?_) (fun h5_ => ?_)
          · refine wi_ic hc rfl ?_
            refine wi_r0 hc rfl (by rw [cm_181]; rfl) ?_
            rw [bI_f (p := (33 ≤ k z.1 ∧ k z.1 ≤ 36) ∨ (k z.1 = 38 ∧ 40 ∈ P)) (fun e => by
              rcases e with e | e
              · omega
              · have := e.1; omega)]
          · refine wi_a1 hc rfl rfl ?_
            refine wp_cv (b := 598) (As := []) (r := []) hc rfl (by rw [cm_180]; rfl) rfl (Nat.le_of_ble_eq_true rfl) (show 598 < 621 by decide) (by rw [cm_180]; rfl) (ev_mono (sp_180 (d := 0) hG h b0 hI hcc) (by omega)) ?_
            show mm_wp _ _ (49, [some (.ref 598)], [.int (iI (bI (40 ∈ P)))], MX L t s l) _
            refine wi_b01 hc rfl rfl rfl rfl (bI_01 _) ?_
            refine wi_rb hc rfl (by rw [cm_181]; rfl) ?_
            rw [show bI ((33 ≤ k z.1 ∧ k z.1 ≤ 36) ∨ (k z.1 = 38 ∧ 40 ∈ P)) = bI (40 ∈ P) by unfold bI; congr 1; exact propext ⟨fun e => e.elim (fun e => by exfalso; omega) (fun e => e.2), fun e => Or.inr ⟨by omega, e⟩⟩]
theorem sp_179 {d L t : Nat} {s l : Nat → Int → Int} {f : Int → Int} {n : Int} {kd k pl nm : Int → Int} {tn b : Int} {z : rpS} {P : List Int} {o c : Int} (hG : GTX f n kd k pl nm tn) (h : MSt f n k pl nm tn b s l z P o 0) (b0 : 0 ≤ b ∧ b ≤ 2115) (hI : rqI z P o) (hcc : c ≤ z.2.2) {so : Int} (hs9 : s 598 20 = so) (hso : 0 ≤ so ∧ so ≤ 9) : ∃ s1 l1, mm_Ev mm_ct mm_CM (d + 6) 179 [.ref 598] (MX L t s l) (some (.int (iI (rqBg k nm (15 + so) z P o).1)), MX L t s1 l1) ∧ MSt f n k pl nm tn b s1 l1 (rqBg k nm (15 + so) z P o).2.1 (rqBg k nm (15 + so) z P o).2.2.1 (rqBg k nm (15 + so) z P o).2.2.2.1 (rqBg k nm (15 + so) z P o).2.2.2.2 ∧ FR b c s s1 l l1 := by
  have hc : (mm_CM 179).2.2.2.2.2.2.2 = mm_cf cd_179 := by rw [cm_179]; rfl
  refine ev_xsl ?_
  refine ev_to (mx := 2) (by rw [cm_179]; decide) (by rw [cm_179]; rfl) (by show 1 ≤ _; decide) ?_
  show mm_wp _ _ (0, [some (.ref 598), none], [], MX L t s l) (fun res => ∃ s1 l1, res = (some (.int (iI (rqBg k nm (15 + so) z P o).1)), MX L t s1 l1) ∧ MSt f n k pl nm tn b s1 l1 (rqBg k nm (15 + so) z P o).2.1 (rqBg k nm (15 + so) z P o).2.2.1 (rqBg k nm (15 + so) z P o).2.2.2.1 (rqBg k nm (15 + so) z P o).2.2.2.2 ∧ FR b c s s1 l l1)
  have hI2 := rqI_len hI
  obtain ⟨hi1, hi2, hi3, hi4, hi5⟩ := id hI
  have htn := hG.2.2.2.1
  have hz1 := h.2.1.1
  have hkr := hG.2.2.2.2.2.2 z.1
  obtain ⟨q9, hq9⟩ : ∃ q9, s 598 9 = q9 := ⟨_, rfl⟩
  obtain ⟨u9, hu9⟩ : ∃ u9, s 598 10 = u9 := ⟨_, rfl⟩
  obtain ⟨w9, hw9⟩ : ∃ w9, l 598 11 = w9 := ⟨_, rfl⟩
  have hk9 := MSt.tk h
  rw [hq9, hu9, hw9] at hk9
  have ha9 := tkR_a hk9
  unfold tkA at ha9
  have hno9 := nmO_s (k z.1)
  refine wi_a1 hc rfl rfl ?_
  refine wi_gfv (kz := 9) rfl hc rfl rfl (by decide) (Nat.le_of_ble_eq_true rfl) rfl (v := q9) (hq9) ?_
  refine wi_ic hc rfl ?_
  refine wi_cne hc rfl ⟨by omega, by omega⟩ ⟨by decide, by decide⟩ (fun h1_ => ?_) (fun h1_ => ?_)
  · refine wi_a1 hc rfl rfl ?_
    refine wp_cv (b := 598) (As := []) (r := []) hc rfl (by rw [cm_177]; rfl) rfl (Nat.le_of_ble_eq_true rfl) (show 598 < 621 by decide) (by rw [cm_177]; rfl) (ev_mono (sp_177 (d := 0) hk9 hq9 hw9) (by omega)) ?_
    show mm_wp _ _ (43, [some (.ref 598), none], [.int (iI (nmO (k z.1)))], MX L t s l) _
    refine wi_zlt hc rfl ⟨by omega, by omega⟩ (fun h2_ => ?_) (fun h2_ => ?_)
    · refine wi_a1 hc rfl rfl ?_
      refine wi_gfv (kz := 9) rfl hc rfl rfl (by decide) (Nat.le_of_ble_eq_true rfl) rfl (v := q9) (hq9) ?_
      refine wi_bi hc rfl rfl ?_
      refine wi_cne hc rfl ⟨by omega, by omega⟩ ⟨by decide, by decide⟩ (fun h3_ => ?_) (fun h3_ => ?_)
      · refine wi_a1 hc rfl rfl ?_
        refine wi_gfv (kz := 9) rfl hc rfl rfl (by decide) (Nat.le_of_ble_eq_true rfl) rfl (v := q9) (hq9) ?_
        refine wi_bi hc rfl rfl ?_
        refine wi_cne hc rfl ⟨by omega, by omega⟩ ⟨by decide, by decide⟩ (fun h4_ => ?_) (fun h4_ => ?_)
        · refine wi_ic hc rfl ?_
          refine wi_is1 (L' := [some (.ref 598), some (.int (iI 0))]) hc rfl (Nat.le_of_ble_eq_true rfl) rfl ?_
          refine wi_i1 hc rfl rfl ?_
          refine wi_zne hc rfl ⟨by decide, by decide⟩ (fun q => absurd q (by decide)) (fun _ => ?_)
          refine wi_ic hc rfl ?_
          refine wi_ri hc rfl (by rw [cm_179]; rfl) ?_
          have hB : rqBg k nm (15 + so) z P o = (1, z, P, o, 0) := by
            unfold rqBg
            rw [if_neg (by omega), if_neg (by omega), if_neg (by omega)]
          rw [hB]
          exact ⟨s, l, rfl, h, FR.rf⟩
        · refine wi_ic hc rfl ?_
          refine wi_go hc rfl ?_
          refine wi_is1 (L' := [some (.ref 598), some (.int (iI 2))]) hc rfl (Nat.le_of_ble_eq_true rfl) rfl ?_
          refine wi_i1 hc rfl rfl ?_
          refine wi_zne hc rfl ⟨by decide, by decide⟩ (fun _ => ?_) (fun q => absurd q (by decide))
          refine wi_a1 hc rfl rfl ?_
          refine wi_gfv (kz := 18) rfl hc rfl rfl (by decide) (Nat.le_of_ble_eq_true rfl) rfl (v := o) (MSt.ro h) ?_
          refine wi_bi hc rfl rfl ?_
          refine wi_cne hc rfl ⟨by omega, by omega⟩ ⟨by decide, by decide⟩ (fun h7_ => ?_) (fun h7_ => ?_)
          · refine wi_a1 hc rfl rfl ?_
            refine wi_dupr hc rfl ?_
            refine wi_gfv (kz := 18) rfl hc rfl rfl (by decide) (Nat.le_of_ble_eq_true rfl) rfl (v := o) (MSt.ro h) ?_
            refine wi_ic hc rfl ?_
            refine wi_add hc rfl ?_
            refine wi_pf (kz := 18) rfl hc rfl rfl (by decide) (Nat.le_of_ble_eq_true rfl) rfl (Nat.le_of_ble_eq_true rfl) ⟨rfl, rfl⟩ rfl ?_
            obtain ⟨s1_, es1_⟩ : ∃ q, q = up s 598 18 (o + 1) := ⟨_, rfl⟩
            rw [← es1_]
            have hMs1_ : MSt f n k pl nm tn b s1_ l z P (o + 1) 0 := by rw [es1_]; exact MSt.so h
            have hFs1_ : FR b c s s1_ l l := FR.rf.tr (by rw [es1_]; exact FR.u (by decide)) (Int.le_refl c)
            refine wi_a1 hc rfl rfl ?_
            refine wi_i1 hc rfl rfl ?_
            obtain ⟨s2_, hE2_, hM2_, hF2_⟩ := ps_173 (d := 0) (L := L) (t := t) (c := c) hMs1_ (by omega) 2
            refine wp_cv (b := 598) (As := [.int (iI 2)]) (r := []) hc rfl (by rw [cm_173]; rfl) rfl (Nat.le_of_ble_eq_true rfl) (show 598 < 621 by decide) (by rw [cm_173]; rfl) (ev_mono hE2_ (by omega)) ?_
            have hF2q : FR b c s s2_ l l := hFs1_.tr hF2_ (Int.le_refl c)
            show mm_wp _ _ (139, [some (.ref 598), some (.int (iI 2))], [], MX L t s2_ l) _
            refine wi_a1 hc rfl rfl ?_
            obtain ⟨s3_, l3_, hE3_, hM3_, hF3_⟩ := nx_166 (d := 0) (L := L) (t := t) (c := c) hG hM2_ (by show z.1 + 1 < tn; exact GTX_nx hG hz1.1 hz1.2 (by omega))
            refine wp_cv (b := 598) (As := []) (r := []) hc rfl (by rw [cm_166]; rfl) rfl (Nat.le_of_ble_eq_true rfl) (show 598 < 621 by decide) (by rw [cm_166]; rfl) (ev_mono hE3_ (by omega)) ?_
            have hF3q : FR b c s s3_ l l3_ := hF2q.tr hF3_ (Int.le_refl c)
            show mm_wp _ _ (143, [some (.ref 598), some (.int (iI 2))], [], MX L t s3_ l3_) _
            refine wi_ic hc rfl ?_
            refine wi_ri hc rfl (by rw [cm_179]; rfl) ?_
            have hB : rqBg k nm (15 + so) z P o = (0, (rpNx z), (2 :: P), o + 1, 0) := by
              unfold rqBg
              rw [if_neg (by omega), if_neg (by omega), if_pos (by omega), if_neg (by omega), if_neg (by omega)]
            rw [hB]
            exact ⟨s3_, l3_, rfl, hM3_, hF3q⟩
          · refine wi_ic hc rfl ?_
            refine wi_ri hc rfl (by rw [cm_179]; rfl) ?_
            have hB : rqBg k nm (15 + so) z P o = (3, z, P, o, 0) := by
              unfold rqBg
              rw [if_neg (by omega), if_neg (by omega), if_pos (by omega), if_pos (by omega)]
            rw [hB]
            exact ⟨s, l, rfl, h, FR.rf⟩
      · refine wi_bi hc rfl rfl ?_
        refine wi_go hc rfl ?_
        refine wi_is1 (L' := [some (.ref 598), some (.int (iI 40))]) hc rfl (Nat.le_of_ble_eq_true rfl) rfl ?_
        refine wi_i1 hc rfl rfl ?_
        refine wi_zne hc rfl ⟨by decide, by decide⟩ (fun _ => ?_) (fun q => absurd q (by decide))
        refine wi_a1 hc rfl rfl ?_
        refine wi_gfv (kz := 18) rfl hc rfl rfl (by decide) (Nat.le_of_ble_eq_true rfl) rfl (v := o) (MSt.ro h) ?_
        refine wi_bi hc rfl rfl ?_
        refine wi_cne hc rfl ⟨by omega, by omega⟩ ⟨by decide, by decide⟩ (fun h9_ => ?_) (fun h9_ => ?_)
        · refine wi_a1 hc rfl rfl ?_
          refine wi_dupr hc rfl ?_
          refine wi_gfv (kz := 18) rfl hc rfl rfl (by decide) (Nat.le_of_ble_eq_true rfl) rfl (v := o) (MSt.ro h) ?_
          refine wi_ic hc rfl ?_
          refine wi_add hc rfl ?_
          refine wi_pf (kz := 18) rfl hc rfl rfl (by decide) (Nat.le_of_ble_eq_true rfl) rfl (Nat.le_of_ble_eq_true rfl) ⟨rfl, rfl⟩ rfl ?_
          obtain ⟨s4_, es4_⟩ : ∃ q, q = up s 598 18 (o + 1) := ⟨_, rfl⟩
          rw [← es4_]
          have hMs4_ : MSt f n k pl nm tn b s4_ l z P (o + 1) 0 := by rw [es4_]; exact MSt.so h
          have hFs4_ : FR b c s s4_ l l := FR.rf.tr (by rw [es4_]; exact FR.u (by decide)) (Int.le_refl c)
          refine wi_a1 hc rfl rfl ?_
          refine wi_i1 hc rfl rfl ?_
          obtain ⟨s5_, hE5_, hM5_, hF5_⟩ := ps_173 (d := 0) (L := L) (t := t) (c := c) hMs4_ (by omega) 40
          refine wp_cv (b := 598) (As := [.int (iI 40)]) (r := []) hc rfl (by rw [cm_173]; rfl) rfl (Nat.le_of_ble_eq_true rfl) (show 598 < 621 by decide) (by rw [cm_173]; rfl) (ev_mono hE5_ (by omega)) ?_
          have hF5q : FR b c s s5_ l l := hFs4_.tr hF5_ (Int.le_refl c)
          show mm_wp _ _ (139, [some (.ref 598), some (.int (iI 40))], [], MX L t s5_ l) _
          refine wi_a1 hc rfl rfl ?_
          obtain ⟨s6_, l6_, hE6_, hM6_, hF6_⟩ := nx_166 (d := 0) (L := L) (t := t) (c := c) hG hM5_ (by show z.1 + 1 < tn; exact GTX_nx hG hz1.1 hz1.2 (by omega))
          refine wp_cv (b := 598) (As := []) (r := []) hc rfl (by rw [cm_166]; rfl) rfl (Nat.le_of_ble_eq_true rfl) (show 598 < 621 by decide) (by rw [cm_166]; rfl) (ev_mono hE6_ (by omega)) ?_
          have hF6q : FR b c s s6_ l l6_ := hF5q.tr hF6_ (Int.le_refl c)
          show mm_wp _ _ (143, [some (.ref 598), some (.int (iI 40))], [], MX L t s6_ l6_) _
          refine wi_ic hc rfl ?_
          refine wi_ri hc rfl (by rw [cm_179]; rfl) ?_
          have hB : rqBg k nm (15 + so) z P o = (0, (rpNx z), (40 :: P), o + 1, 0) := by
            unfold rqBg
            rw [if_neg (by omega), if_neg (by omega), if_pos (by omega), if_neg (by omega), if_pos (by omega)]
          rw [hB]
          exact ⟨s6_, l6_, rfl, hM6_, hF6q⟩
        · refine wi_ic hc rfl ?_
          refine wi_ri hc rfl (by rw [cm_179]; rfl) ?_
          have hB : rqBg k nm (15 + so) z P o = (3, z, P, o, 0) := by
            unfold rqBg
            rw [if_neg (by omega), if_neg (by omega), if_pos (by omega), if_pos (by omega)]
          rw [hB]
          exact ⟨s, l, rfl, h, FR.rf⟩
    · have hnm9 : nmO (k z.1) = k z.1 := by omega
      refine wi_a1 hc rfl rfl ?_
      refine wi_a1 hc rfl rfl ?_
      refine wp_cv (b := 598) (As := []) (r := [.ref 598]) hc rfl (by rw [cm_177]; rfl) rfl (Nat.le_of_ble_eq_true rfl) (show 598 < 621 by decide) (by rw [cm_177]; rfl) (ev_mono (sp_177 (d := 0) hk9 hq9 hw9) (by omega)) ?_
      show mm_wp _ _ (51, [some (.ref 598), none], [.int (iI (nmO (k z.1))), .ref 598], MX L t s l) _
      refine wp_cv (b := 598) (As := [.int (iI (nmO (k z.1)))]) (r := []) hc rfl (by rw [cm_178]; rfl) rfl (Nat.le_of_ble_eq_true rfl) (show 598 < 621 by decide) (by rw [cm_178]; rfl) (ev_mono (sp_178 (d := 0) (x9 := nmO (k z.1)) ⟨by omega, by omega⟩ hs9 hso) (by omega)) ?_
      show mm_wp _ _ (54, [some (.ref 598), none], [.int (iI (bI (¬ rpHr (15 + so) (nmO (k z.1)) = true)))], MX L t s l) _
      refine wi_beq hc rfl (fun h10_ => ?_) (fun h10_ => ?_)
      · skip
        refine wi_a1 hc rfl rfl ?_
        refine wi_ic hc rfl ?_
        refine wi_a1 hc rfl rfl ?_
        refine wp_cv (b := 598) (As := []) (r := [.int (iI 1), .ref 598]) hc rfl (by rw [cm_177]; rfl) rfl (Nat.le_of_ble_eq_true rfl) (show 598 < 621 by decide) (by rw [cm_177]; rfl) (ev_mono (sp_177 (d := 0) hk9 hq9 hw9) (by omega)) ?_
        show mm_wp _ _ (65, [some (.ref 598), none], [.int (iI (nmO (k z.1))), .int (iI 1), .ref 598], MX L t s l) _
        have hnx9 := GTX_nx hG hz1.1 hz1.2 (by omega)
        obtain ⟨s7_, hE7_, hM7_, hF7_⟩ := em_172 (d := 0) (L := L) (t := t) (c := c) (x9 := 1) (v9 := nmO (k z.1)) h b0 ⟨by omega, by omega⟩ (by omega) (10000 + k z.1) (by unfold mop; rw [if_neg (by omega), if_pos (by omega)]) (by unfold mvl; rw [if_neg (by omega), if_pos (by omega)]; omega)
        refine wp_cv (b := 598) (As := [.int (iI 1), .int (iI (nmO (k z.1)))]) (r := []) hc rfl (by rw [cm_172]; rfl) rfl (Nat.le_of_ble_eq_true rfl) (show 598 < 621 by decide) (by rw [cm_172]; rfl) (ev_mono hE7_ (by omega)) ?_
        have hF7q : FR b c s s7_ l l := FR.rf.tr hF7_ (Int.le_refl c)
        show mm_wp _ _ (68, [some (.ref 598), none], [], MX L t s7_ l) _
        refine wi_a1 hc rfl rfl ?_
        obtain ⟨s8_, l8_, hE8_, hM8_, hF8_⟩ := nx_166 (d := 0) (L := L) (t := t) (c := c) hG hM7_ (by show z.1 + 1 < tn; exact GTX_nx hG hz1.1 hz1.2 (by omega))
        refine wp_cv (b := 598) (As := []) (r := []) hc rfl (by rw [cm_166]; rfl) rfl (Nat.le_of_ble_eq_true rfl) (show 598 < 621 by decide) (by rw [cm_166]; rfl) (ev_mono hE8_ (by omega)) ?_
        have hF8q : FR b c s s8_ l l8_ := hF7q.tr hF8_ (Int.le_refl c)
        show mm_wp _ _ (72, [some (.ref 598), none], [], MX L t s8_ l8_) _
        refine wi_a1 hc rfl rfl ?_
        obtain ⟨s9_, hE9_, hM9_, hF9_⟩ := sp_174 (d := 0) (L := L) (t := t) (c := c) hM8_ b0 ⟨by show 0 ≤ z.2.2 + 1; omega, by show z.2.2 + 1 + (P.length : Int) ≤ 300; have := GTX_nx hG hz1.1 hz1.2 (by omega); omega⟩ (by omega) hi3 (by show c ≤ z.2.2 + 1; omega)
        refine wp_cv (b := 598) (As := []) (r := []) hc rfl (by rw [cm_174]; rfl) rfl (Nat.le_of_ble_eq_true rfl) (show 598 < 621 by decide) (by rw [cm_174]; rfl) (ev_mono hE9_ (by omega)) ?_
        have hF9q : FR b c s s9_ l l8_ := hF8q.tr hF9_ (Int.le_refl c)
        show mm_wp _ _ (76, [some (.ref 598), none], [], MX L t s9_ l8_) _
        refine wi_ic hc rfl ?_
        refine wi_ri hc rfl (by rw [cm_179]; rfl) ?_
        have hB : rqBg k nm (15 + so) z P o = (0, (rqWh P (rpPut (10000 + k z.1) (rpNx z)) o).1, (rqWh P (rpPut (10000 + k z.1) (rpNx z)) o).2.1, (rqWh P (rpPut (10000 + k z.1) (rpNx z)) o).2.2, 1) := by
          unfold rqBg
          rw [if_neg (by omega), if_pos (by omega), if_pos (by rw [hnm9] at h10_; exact Classical.not_not.mp h10_)]
        rw [hB]
        exact ⟨s9_, l8_, rfl, hM9_, hF9q⟩
      · skip
        refine wi_ic hc rfl ?_
        refine wi_ri hc rfl (by rw [cm_179]; rfl) ?_
        have hB : rqBg k nm (15 + so) z P o = (5, z, P, o, 0) := by
          unfold rqBg
          rw [if_neg (by omega), if_pos (by omega), if_neg (by rw [hnm9] at h10_; exact h10_)]
        rw [hB]
        exact ⟨s, l, rfl, h, FR.rf⟩
  · have hnn := tkR_n hk9 (by omega)
    have hmu := minI_spec u9 10000
    refine wi_a1 hc rfl rfl ?_
    refine wi_gfv (kz := 10) rfl hc rfl rfl (by decide) (Nat.le_of_ble_eq_true rfl) rfl (v := u9) (hu9) ?_
    refine wi_si hc rfl rfl ?_
    refine wi_cle hc rfl ⟨by omega, by omega⟩ ⟨by decide, by decide⟩ (fun h11_ => ?_) (fun h11_ => ?_)
    · refine wi_a1 hc rfl rfl ?_
      refine wi_ic hc rfl ?_
      refine wi_a1 hc rfl rfl ?_
      refine wi_gfv (kz := 10) rfl hc rfl rfl (by decide) (Nat.le_of_ble_eq_true rfl) rfl (v := u9) (hu9) ?_
      have hnx9 := GTX_nx hG hz1.1 hz1.2 (by omega)
      obtain ⟨s10_, hE10_, hM10_, hF10_⟩ := em_172 (d := 0) (L := L) (t := t) (c := c) (x9 := 0) (v9 := u9) h b0 ⟨by omega, by omega⟩ (by omega) (nm z.1) (by unfold mop; rw [if_pos (by omega)]) (by unfold mvl; rw [if_pos (by omega)]; omega)
      refine wp_cv (b := 598) (As := [.int (iI 0), .int (iI u9)]) (r := []) hc rfl (by rw [cm_172]; rfl) rfl (Nat.le_of_ble_eq_true rfl) (show 598 < 621 by decide) (by rw [cm_172]; rfl) (ev_mono hE10_ (by omega)) ?_
      have hF10q : FR b c s s10_ l l := FR.rf.tr hF10_ (Int.le_refl c)
      show mm_wp _ _ (29, [some (.ref 598), none], [], MX L t s10_ l) _
      refine wi_a1 hc rfl rfl ?_
      obtain ⟨s11_, l11_, hE11_, hM11_, hF11_⟩ := nx_166 (d := 0) (L := L) (t := t) (c := c) hG hM10_ (by show z.1 + 1 < tn; exact GTX_nx hG hz1.1 hz1.2 (by omega))
      refine wp_cv (b := 598) (As := []) (r := []) hc rfl (by rw [cm_166]; rfl) rfl (Nat.le_of_ble_eq_true rfl) (show 598 < 621 by decide) (by rw [cm_166]; rfl) (ev_mono hE11_ (by omega)) ?_
      have hF11q : FR b c s s11_ l l11_ := hF10q.tr hF11_ (Int.le_refl c)
      show mm_wp _ _ (33, [some (.ref 598), none], [], MX L t s11_ l11_) _
      refine wi_a1 hc rfl rfl ?_
      obtain ⟨s12_, hE12_, hM12_, hF12_⟩ := sp_174 (d := 0) (L := L) (t := t) (c := c) hM11_ b0 ⟨by show 0 ≤ z.2.2 + 1; omega, by show z.2.2 + 1 + (P.length : Int) ≤ 300; have := GTX_nx hG hz1.1 hz1.2 (by omega); omega⟩ (by omega) hi3 (by show c ≤ z.2.2 + 1; omega)
      refine wp_cv (b := 598) (As := []) (r := []) hc rfl (by rw [cm_174]; rfl) rfl (Nat.le_of_ble_eq_true rfl) (show 598 < 621 by decide) (by rw [cm_174]; rfl) (ev_mono hE12_ (by omega)) ?_
      have hF12q : FR b c s s12_ l l11_ := hF11q.tr hF12_ (Int.le_refl c)
      show mm_wp _ _ (37, [some (.ref 598), none], [], MX L t s12_ l11_) _
      refine wi_ic hc rfl ?_
      refine wi_ri hc rfl (by rw [cm_179]; rfl) ?_
      have hB : rqBg k nm (15 + so) z P o = (0, (rqWh P (rpPut (nm z.1) (rpNx z)) o).1, (rqWh P (rpPut (nm z.1) (rpNx z)) o).2.1, (rqWh P (rpPut (nm z.1) (rpNx z)) o).2.2, 1) := by
        unfold rqBg
        rw [if_pos (by omega), if_neg (by omega)]
      rw [hB]
      exact ⟨s12_, l11_, rfl, hM12_, hF12q⟩
    · refine wi_ic hc rfl ?_
      refine wi_ri hc rfl (by rw [cm_179]; rfl) ?_
      have hB : rqBg k nm (15 + so) z P o = (2, z, P, o, 0) := by
        unfold rqBg
        rw [if_pos (by omega), if_pos (by omega)]
      rw [hB]
      exact ⟨s, l, rfl, h, FR.rf⟩
theorem sp_182 {d L t : Nat} {s l : Nat → Int → Int} {f : Int → Int} {n : Int} {kd k pl nm : Int → Int} {tn b : Int} {z : rpS} {P : List Int} {o w c : Int} (hG : GTX f n kd k pl nm tn) (h : MSt f n k pl nm tn b s l z P o w) (b0 : 0 ≤ b ∧ b ≤ 2115) (hI : rqI z P o) (hcc : c ≤ z.2.2) (hd : rqHd (fun p => p ≠ 2) P) (hgo : rqGo k z P) : ∃ s1 l1, mm_Ev mm_ct mm_CM (d + 4) 182 [.ref 598] (MX L t s l) (some (.int (iI 0)), MX L t s1 l1) ∧ MSt f n k pl nm tn b s1 l1 (rqBh k z P o).1 (rqBh k z P o).2.1 (rqBh k z P o).2.2.1 (rqBh k z P o).2.2.2 ∧ FR b c s s1 l l1 := by
  have hc : (mm_CM 182).2.2.2.2.2.2.2 = mm_cf cd_182 := by rw [cm_182]; rfl
  refine ev_xsl ?_
  refine ev_to (mx := 2) (by rw [cm_182]; decide) (by rw [cm_182]; rfl) (by show 1 ≤ _; decide) ?_
  show mm_wp _ _ (0, [some (.ref 598), none], [], MX L t s l) (fun res => ∃ s1 l1, res = (some (.int (iI 0)), MX L t s1 l1) ∧ MSt f n k pl nm tn b s1 l1 (rqBh k z P o).1 (rqBh k z P o).2.1 (rqBh k z P o).2.2.1 (rqBh k z P o).2.2.2 ∧ FR b c s s1 l l1)
  have hI2 := rqI_len hI
  obtain ⟨hi1, hi2, hi3, hi4, hi5⟩ := id hI
  have htn := hG.2.2.2.1
  have hz1 := h.2.1.1
  have hkr := hG.2.2.2.2.2.2 z.1
  obtain ⟨q9, hq9⟩ : ∃ q9, s 598 9 = q9 := ⟨_, rfl⟩
  obtain ⟨u9, hu9⟩ : ∃ u9, s 598 10 = u9 := ⟨_, rfl⟩
  obtain ⟨w9, hw9⟩ : ∃ w9, l 598 11 = w9 := ⟨_, rfl⟩
  have hk9 := MSt.tk h
  rw [hq9, hu9, hw9] at hk9
  have ha9 := tkR_a hk9
  unfold tkA at ha9
  have hgo2 : (33 ≤ k z.1 ∧ k z.1 ≤ 36) ∨ k z.1 = 38 := by
    rcases hgo with e | e
    · exact Or.inl e
    · exact Or.inr e.1
  refine wi_a1 hc rfl rfl ?_
  refine wi_gfv (kz := 9) rfl hc rfl rfl (by decide) (Nat.le_of_ble_eq_true rfl) rfl (v := q9) (hq9) ?_
  refine wi_is1 (L' := [some (.ref 598), some (.int (iI q9))]) hc rfl (Nat.le_of_ble_eq_true rfl) rfl ?_
  refine wi_i1 hc rfl rfl ?_
  refine wi_bi hc rfl rfl ?_
  refine wi_ceq hc rfl ⟨by omega, by omega⟩ ⟨by decide, by decide⟩ (fun h1_ => ?_) (fun h1_ => ?_)
  · have hs3 := rqSt_I 3 P z o (by decide) hI hd
    have hl3 := rqI_len hs3.1
    refine wi_a1 hc rfl rfl ?_
    refine wi_ic hc rfl ?_
    obtain ⟨s1_, hE1_, hM1_, hF1_⟩ := sp_175 (d := 0) (L := L) (t := t) (c := c) h b0 ⟨by omega, by omega⟩ (by omega) hi3 hcc (v := 3) ⟨by decide, by decide⟩
    refine wp_cv (b := 598) (As := [.int (iI 3)]) (r := []) hc rfl (by rw [cm_175]; rfl) rfl (Nat.le_of_ble_eq_true rfl) (show 598 < 621 by decide) (by rw [cm_175]; rfl) (ev_mono hE1_ (by omega)) ?_
    have hF1q : FR b c s s1_ l l := FR.rf.tr hF1_ (Int.le_refl c)
    show mm_wp _ _ (22, [some (.ref 598), some (.int (iI q9))], [], MX L t s1_ l) _
    refine wi_a1 hc rfl rfl ?_
    refine wi_i1 hc rfl rfl ?_
    refine wi_bi hc rfl rfl ?_
    refine wi_cne hc rfl ⟨by omega, by omega⟩ ⟨by decide, by decide⟩ (fun h2_ => ?_) (fun h2_ => ?_)
    · refine wi_ic hc rfl ?_
      obtain ⟨s2_, hE2_, hM2_, hF2_⟩ := ps_173 (d := 0) (L := L) (t := t) (c := c) hM1_ (by omega) 4
      refine wp_cv (b := 598) (As := [.int (iI 4)]) (r := []) hc rfl (by rw [cm_173]; rfl) rfl (Nat.le_of_ble_eq_true rfl) (show 598 < 621 by decide) (by rw [cm_173]; rfl) (ev_mono hE2_ (by omega)) ?_
      have hF2q : FR b c s s2_ l l := hF1q.tr hF2_ (Int.le_refl c)
      show mm_wp _ _ (37, [some (.ref 598), some (.int (iI q9))], [], MX L t s2_ l) _
      refine wi_a1 hc rfl rfl ?_
      refine wi_ic hc rfl ?_
      refine wi_pf (kz := 19) rfl hc rfl rfl (by decide) (Nat.le_of_ble_eq_true rfl) rfl (Nat.le_of_ble_eq_true rfl) ⟨rfl, rfl⟩ rfl ?_
      obtain ⟨s3_, es3_⟩ : ∃ q, q = up s2_ 598 19 0 := ⟨_, rfl⟩
      rw [← es3_]
      have hMs3_ : MSt f n k pl nm tn b s3_ l ((rqSt 3 P z).1) (4 :: ((rqSt 3 P z).2)) o 0 := by rw [es3_]; exact MSt.sw hM2_
      have hFs3_ : FR b c s s3_ l l := hF2q.tr (by rw [es3_]; exact FR.u (by decide)) (Int.le_refl c)
      refine wi_go hc rfl ?_
      refine wi_a1 hc rfl rfl ?_
      obtain ⟨s4_, l4_, hE4_, hM4_, hF4_⟩ := nx_166 (d := 0) (L := L) (t := t) (c := c) hG hMs3_ (by rw [(rqSt_at 3 P z)]; exact GTX_nx hG hz1.1 hz1.2 (by omega))
      refine wp_cv (b := 598) (As := []) (r := []) hc rfl (by rw [cm_166]; rfl) rfl (Nat.le_of_ble_eq_true rfl) (show 598 < 621 by decide) (by rw [cm_166]; rfl) (ev_mono hE4_ (by omega)) ?_
      have hF4q : FR b c s s4_ l l4_ := hFs3_.tr hF4_ (Int.le_refl c)
      show mm_wp _ _ (119, [some (.ref 598), some (.int (iI q9))], [], MX L t s4_ l4_) _
      refine wi_ic hc rfl ?_
      refine wi_ri hc rfl (by rw [cm_182]; rfl) ?_
      have hB : rqBh k z P o = (rpNx (rqSt 3 P z).1, 4 :: (rqSt 3 P z).2, o, 0) := by
        unfold rqBh
        rw [if_pos (by omega), show k z.1 - 30 = 4 by omega]
      rw [hB]
      exact ⟨s4_, l4_, rfl, hM4_, hF4q⟩
    · refine wi_ic hc rfl ?_
      refine wi_go hc rfl ?_
      obtain ⟨s5_, hE5_, hM5_, hF5_⟩ := ps_173 (d := 0) (L := L) (t := t) (c := c) hM1_ (by omega) 3
      refine wp_cv (b := 598) (As := [.int (iI 3)]) (r := []) hc rfl (by rw [cm_173]; rfl) rfl (Nat.le_of_ble_eq_true rfl) (show 598 < 621 by decide) (by rw [cm_173]; rfl) (ev_mono hE5_ (by omega)) ?_
      have hF5q : FR b c s s5_ l l := hF1q.tr hF5_ (Int.le_refl c)
      show mm_wp _ _ (37, [some (.ref 598), some (.int (iI q9))], [], MX L t s5_ l) _
      refine wi_a1 hc rfl rfl ?_
      refine wi_ic hc rfl ?_
      refine wi_pf (kz := 19) rfl hc rfl rfl (by decide) (Nat.le_of_ble_eq_true rfl) rfl (Nat.le_of_ble_eq_true rfl) ⟨rfl, rfl⟩ rfl ?_
      obtain ⟨s6_, es6_⟩ : ∃ q, q = up s5_ 598 19 0 := ⟨_, rfl⟩
      rw [← es6_]
      have hMs6_ : MSt f n k pl nm tn b s6_ l ((rqSt 3 P z).1) (3 :: ((rqSt 3 P z).2)) o 0 := by rw [es6_]; exact MSt.sw hM5_
      have hFs6_ : FR b c s s6_ l l := hF5q.tr (by rw [es6_]; exact FR.u (by decide)) (Int.le_refl c)
      refine wi_go hc rfl ?_
      refine wi_a1 hc rfl rfl ?_
      obtain ⟨s7_, l7_, hE7_, hM7_, hF7_⟩ := nx_166 (d := 0) (L := L) (t := t) (c := c) hG hMs6_ (by rw [(rqSt_at 3 P z)]; exact GTX_nx hG hz1.1 hz1.2 (by omega))
      refine wp_cv (b := 598) (As := []) (r := []) hc rfl (by rw [cm_166]; rfl) rfl (Nat.le_of_ble_eq_true rfl) (show 598 < 621 by decide) (by rw [cm_166]; rfl) (ev_mono hE7_ (by omega)) ?_
      have hF7q : FR b c s s7_ l l7_ := hFs6_.tr hF7_ (Int.le_refl c)
      show mm_wp _ _ (119, [some (.ref 598), some (.int (iI q9))], [], MX L t s7_ l7_) _
      refine wi_ic hc rfl ?_
      refine wi_ri hc rfl (by rw [cm_182]; rfl) ?_
      have hB : rqBh k z P o = (rpNx (rqSt 3 P z).1, 3 :: (rqSt 3 P z).2, o, 0) := by
        unfold rqBh
        rw [if_pos (by omega), show k z.1 - 30 = 3 by omega]
      rw [hB]
      exact ⟨s7_, l7_, rfl, hM7_, hF7q⟩
  · refine wi_i1 hc rfl rfl ?_
    refine wi_bi hc rfl rfl ?_
    refine wi_cne hc rfl ⟨by omega, by omega⟩ ⟨by decide, by decide⟩ (fun h3_ => ?_) (fun h3_ => ?_)
    · refine wi_i1 hc rfl rfl ?_
      refine wi_bi hc rfl rfl ?_
      refine wi_ceq hc rfl ⟨by omega, by omega⟩ ⟨by decide, by decide⟩ (fun h4_ => ?_) (fun h4_ => ?_)
      · have hs3 := rqSt_I 5 P z o (by decide) hI hd
        have hl3 := rqI_len hs3.1
        refine wi_a1 hc rfl rfl ?_
        refine wi_ic hc rfl ?_
        obtain ⟨s8_, hE8_, hM8_, hF8_⟩ := sp_175 (d := 0) (L := L) (t := t) (c := c) h b0 ⟨by omega, by omega⟩ (by omega) hi3 hcc (v := 5) ⟨by decide, by decide⟩
        refine wp_cv (b := 598) (As := [.int (iI 5)]) (r := []) hc rfl (by rw [cm_175]; rfl) rfl (Nat.le_of_ble_eq_true rfl) (show 598 < 621 by decide) (by rw [cm_175]; rfl) (ev_mono hE8_ (by omega)) ?_
        have hF8q : FR b c s s8_ l l := FR.rf.tr hF8_ (Int.le_refl c)
        show mm_wp _ _ (62, [some (.ref 598), some (.int (iI q9))], [], MX L t s8_ l) _
        refine wi_a1 hc rfl rfl ?_
        refine wi_i1 hc rfl rfl ?_
        refine wi_bi hc rfl rfl ?_
        refine wi_cne hc rfl ⟨by omega, by omega⟩ ⟨by decide, by decide⟩ (fun h5_ => ?_) (fun h5_ => ?_)
        · refine wi_bi hc rfl rfl ?_
          obtain ⟨s9_, hE9_, hM9_, hF9_⟩ := ps_173 (d := 0) (L := L) (t := t) (c := c) hM8_ (by omega) 6
          refine wp_cv (b := 598) (As := [.int (iI 6)]) (r := []) hc rfl (by rw [cm_173]; rfl) rfl (Nat.le_of_ble_eq_true rfl) (show 598 < 621 by decide) (by rw [cm_173]; rfl) (ev_mono hE9_ (by omega)) ?_
          have hF9q : FR b c s s9_ l l := hF8q.tr hF9_ (Int.le_refl c)
          show mm_wp _ _ (78, [some (.ref 598), some (.int (iI q9))], [], MX L t s9_ l) _
          refine wi_a1 hc rfl rfl ?_
          refine wi_ic hc rfl ?_
          refine wi_pf (kz := 19) rfl hc rfl rfl (by decide) (Nat.le_of_ble_eq_true rfl) rfl (Nat.le_of_ble_eq_true rfl) ⟨rfl, rfl⟩ rfl ?_
          obtain ⟨s10_, es10_⟩ : ∃ q, q = up s9_ 598 19 0 := ⟨_, rfl⟩
          rw [← es10_]
          have hMs10_ : MSt f n k pl nm tn b s10_ l ((rqSt 5 P z).1) (6 :: ((rqSt 5 P z).2)) o 0 := by rw [es10_]; exact MSt.sw hM9_
          have hFs10_ : FR b c s s10_ l l := hF9q.tr (by rw [es10_]; exact FR.u (by decide)) (Int.le_refl c)
          refine wi_go hc rfl ?_
          refine wi_a1 hc rfl rfl ?_
          obtain ⟨s11_, l11_, hE11_, hM11_, hF11_⟩ := nx_166 (d := 0) (L := L) (t := t) (c := c) hG hMs10_ (by rw [(rqSt_at 5 P z)]; exact GTX_nx hG hz1.1 hz1.2 (by omega))
          refine wp_cv (b := 598) (As := []) (r := []) hc rfl (by rw [cm_166]; rfl) rfl (Nat.le_of_ble_eq_true rfl) (show 598 < 621 by decide) (by rw [cm_166]; rfl) (ev_mono hE11_ (by omega)) ?_
          have hF11q : FR b c s s11_ l l11_ := hFs10_.tr hF11_ (Int.le_refl c)
          show mm_wp _ _ (119, [some (.ref 598), some (.int (iI q9))], [], MX L t s11_ l11_) _
          refine wi_ic hc rfl ?_
          refine wi_ri hc rfl (by rw [cm_182]; rfl) ?_
          have hB : rqBh k z P o = (rpNx (rqSt 5 P z).1, 6 :: (rqSt 5 P z).2, o, 0) := by
            unfold rqBh
            rw [if_neg (by omega), if_pos (by omega), show k z.1 - 30 = 6 by omega]
          rw [hB]
          exact ⟨s11_, l11_, rfl, hM11_, hF11q⟩
        · refine wi_ic hc rfl ?_
          refine wi_go hc rfl ?_
          obtain ⟨s12_, hE12_, hM12_, hF12_⟩ := ps_173 (d := 0) (L := L) (t := t) (c := c) hM8_ (by omega) 5
          refine wp_cv (b := 598) (As := [.int (iI 5)]) (r := []) hc rfl (by rw [cm_173]; rfl) rfl (Nat.le_of_ble_eq_true rfl) (show 598 < 621 by decide) (by rw [cm_173]; rfl) (ev_mono hE12_ (by omega)) ?_
          have hF12q : FR b c s s12_ l l := hF8q.tr hF12_ (Int.le_refl c)
          show mm_wp _ _ (78, [some (.ref 598), some (.int (iI q9))], [], MX L t s12_ l) _
          refine wi_a1 hc rfl rfl ?_
          refine wi_ic hc rfl ?_
          refine wi_pf (kz := 19) rfl hc rfl rfl (by decide) (Nat.le_of_ble_eq_true rfl) rfl (Nat.le_of_ble_eq_true rfl) ⟨rfl, rfl⟩ rfl ?_
          obtain ⟨s13_, es13_⟩ : ∃ q, q = up s12_ 598 19 0 := ⟨_, rfl⟩
          rw [← es13_]
          have hMs13_ : MSt f n k pl nm tn b s13_ l ((rqSt 5 P z).1) (5 :: ((rqSt 5 P z).2)) o 0 := by rw [es13_]; exact MSt.sw hM12_
          have hFs13_ : FR b c s s13_ l l := hF12q.tr (by rw [es13_]; exact FR.u (by decide)) (Int.le_refl c)
          refine wi_go hc rfl ?_
          refine wi_a1 hc rfl rfl ?_
          obtain ⟨s14_, l14_, hE14_, hM14_, hF14_⟩ := nx_166 (d := 0) (L := L) (t := t) (c := c) hG hMs13_ (by rw [(rqSt_at 5 P z)]; exact GTX_nx hG hz1.1 hz1.2 (by omega))
          refine wp_cv (b := 598) (As := []) (r := []) hc rfl (by rw [cm_166]; rfl) rfl (Nat.le_of_ble_eq_true rfl) (show 598 < 621 by decide) (by rw [cm_166]; rfl) (ev_mono hE14_ (by omega)) ?_
          have hF14q : FR b c s s14_ l l14_ := hFs13_.tr hF14_ (Int.le_refl c)
          show mm_wp _ _ (119, [some (.ref 598), some (.int (iI q9))], [], MX L t s14_ l14_) _
          refine wi_ic hc rfl ?_
          refine wi_ri hc rfl (by rw [cm_182]; rfl) ?_
          have hB : rqBh k z P o = (rpNx (rqSt 5 P z).1, 5 :: (rqSt 5 P z).2, o, 0) := by
            unfold rqBh
            rw [if_neg (by omega), if_pos (by omega), show k z.1 - 30 = 5 by omega]
          rw [hB]
          exact ⟨s14_, l14_, rfl, hM14_, hF14q⟩
      · refine wi_i1 hc rfl rfl ?_
        refine wi_bi hc rfl rfl ?_
        refine wi_cne hc rfl ⟨by omega, by omega⟩ ⟨by decide, by decide⟩ (fun h6_ => ?_) (fun h6_ => ?_)
        · skip
          refine wi_a1 hc rfl rfl ?_
          refine wi_ic hc rfl ?_
          obtain ⟨s15_, hE15_, hM15_, hF15_⟩ := sp_175 (d := 0) (L := L) (t := t) (c := c) h b0 ⟨by omega, by omega⟩ (by omega) hi3 hcc (v := 3) ⟨by decide, by decide⟩
          refine wp_cv (b := 598) (As := [.int (iI 3)]) (r := []) hc rfl (by rw [cm_175]; rfl) rfl (Nat.le_of_ble_eq_true rfl) (show 598 < 621 by decide) (by rw [cm_175]; rfl) (ev_mono hE15_ (by omega)) ?_
          have hF15q : FR b c s s15_ l l := FR.rf.tr hF15_ (Int.le_refl c)
          show mm_wp _ _ (91, [some (.ref 598), some (.int (iI q9))], [], MX L t s15_ l) _
          obtain ⟨P4, hP4⟩ := rqBh_38 hI hd (by rcases hgo with e | e; omega; exact e.2)
          rw [hP4] at hM15_
          obtain ⟨n4, hn4⟩ : ∃ n4 : Int, n4 = (40 :: P4 : List Int).length := ⟨_, rfl⟩
          have hn5 := hn4
          rw [List.length_cons] at hn5
          have hs3 := rqSt_I 3 P z o (by decide) hI hd
          rw [hP4] at hs3
          have hl4 := rqI_len hs3.1
          rw [List.length_cons] at hl4
          obtain ⟨⟨hj1, hj2, hj3, hj4, hj5⟩, -, hj6, -⟩ := hs3
          rw [List.length_cons] at hj2
          have hj7 := rqSt_at 3 P z
          have hnx9 := GTX_nx hG hz1.1 hz1.2 (by omega)
          refine wi_a1 hc rfl rfl ?_
          refine wi_dupr hc rfl ?_
          refine wi_gfv (kz := 17) rfl hc rfl rfl (by decide) (Nat.le_of_ble_eq_true rfl) rfl (v := n4) ((MSt.rn hM15_).trans (hn4.symm)) ?_
          refine wi_ic hc rfl ?_
          refine wi_sub hc rfl ?_
          refine wi_pf (kz := 17) rfl hc rfl rfl (by decide) (Nat.le_of_ble_eq_true rfl) rfl (Nat.le_of_ble_eq_true rfl) ⟨rfl, rfl⟩ rfl ?_
          obtain ⟨s16_, es16_⟩ : ∃ q, q = up s15_ 598 17 (n4 - 1) := ⟨_, rfl⟩
          rw [← es16_]
          have hMs16_ : MSt f n k pl nm tn b s16_ l ((rqSt 3 P z).1) P4 o w := by rw [es16_]; exact MSt.pop hM15_ (by omega)
          have hFs16_ : FR b c s s16_ l l := hF15q.tr (by rw [es16_]; exact FR.u (by decide)) (Int.le_refl c)
          refine wi_a1 hc rfl rfl ?_
          refine wi_dupr hc rfl ?_
          refine wi_gfv (kz := 18) rfl hc rfl rfl (by decide) (Nat.le_of_ble_eq_true rfl) rfl (v := o) (MSt.ro hMs16_) ?_
          refine wi_ic hc rfl ?_
          refine wi_sub hc rfl ?_
          refine wi_pf (kz := 18) rfl hc rfl rfl (by decide) (Nat.le_of_ble_eq_true rfl) rfl (Nat.le_of_ble_eq_true rfl) ⟨rfl, rfl⟩ rfl ?_
          obtain ⟨s17_, es17_⟩ : ∃ q, q = up s16_ 598 18 (o - 1) := ⟨_, rfl⟩
          rw [← es17_]
          have hMs17_ : MSt f n k pl nm tn b s17_ l ((rqSt 3 P z).1) P4 (o - 1) w := by rw [es17_]; exact MSt.so hMs16_
          have hFs17_ : FR b c s s17_ l l := hFs16_.tr (by rw [es17_]; exact FR.u (by decide)) (Int.le_refl c)
          refine wi_a1 hc rfl rfl ?_
          obtain ⟨s18_, hE18_, hM18_, hF18_⟩ := sp_174 (d := 0) (L := L) (t := t) (c := c) hMs17_ b0 ⟨by omega, by omega⟩ (by omega) hj3.2 (by omega)
          refine wp_cv (b := 598) (As := []) (r := []) hc rfl (by rw [cm_174]; rfl) rfl (Nat.le_of_ble_eq_true rfl) (show 598 < 621 by decide) (by rw [cm_174]; rfl) (ev_mono hE18_ (by omega)) ?_
          have hF18q : FR b c s s18_ l l := hFs17_.tr hF18_ (Int.le_refl c)
          show mm_wp _ _ (115, [some (.ref 598), some (.int (iI q9))], [], MX L t s18_ l) _
          refine wi_a1 hc rfl rfl ?_
          obtain ⟨s19_, l19_, hE19_, hM19_, hF19_⟩ := nx_166 (d := 0) (L := L) (t := t) (c := c) hG hM18_ (by rw [((rqWh_at P4 (rqSt 3 P z).1 (o - 1)).trans (rqSt_at 3 P z))]; exact GTX_nx hG hz1.1 hz1.2 (by omega))
          refine wp_cv (b := 598) (As := []) (r := []) hc rfl (by rw [cm_166]; rfl) rfl (Nat.le_of_ble_eq_true rfl) (show 598 < 621 by decide) (by rw [cm_166]; rfl) (ev_mono hE19_ (by omega)) ?_
          have hF19q : FR b c s s19_ l l19_ := hF18q.tr hF19_ (Int.le_refl c)
          show mm_wp _ _ (119, [some (.ref 598), some (.int (iI q9))], [], MX L t s19_ l19_) _
          refine wi_ic hc rfl ?_
          refine wi_ri hc rfl (by rw [cm_182]; rfl) ?_
          have hB : rqBh k z P o = (rpNx (rqWh P4 (rqSt 3 P z).1 (o - 1)).1, (rqWh P4 (rqSt 3 P z).1 (o - 1)).2.1, (rqWh P4 (rqSt 3 P z).1 (o - 1)).2.2, 1) := by
            unfold rqBh
            rw [if_neg (by omega), if_neg (by omega), hP4]
            rfl
          rw [hB]
          exact ⟨s19_, l19_, rfl, hM19_, hF19q⟩
        · have hs3 := rqSt_I 5 P z o (by decide) hI hd
          have hl3 := rqI_len hs3.1
          refine wi_a1 hc rfl rfl ?_
          refine wi_ic hc rfl ?_
          obtain ⟨s20_, hE20_, hM20_, hF20_⟩ := sp_175 (d := 0) (L := L) (t := t) (c := c) h b0 ⟨by omega, by omega⟩ (by omega) hi3 hcc (v := 5) ⟨by decide, by decide⟩
          refine wp_cv (b := 598) (As := [.int (iI 5)]) (r := []) hc rfl (by rw [cm_175]; rfl) rfl (Nat.le_of_ble_eq_true rfl) (show 598 < 621 by decide) (by rw [cm_175]; rfl) (ev_mono hE20_ (by omega)) ?_
          have hF20q : FR b c s s20_ l l := FR.rf.tr hF20_ (Int.le_refl c)
          show mm_wp _ _ (62, [some (.ref 598), some (.int (iI q9))], [], MX L t s20_ l) _
          refine wi_a1 hc rfl rfl ?_
          refine wi_i1 hc rfl rfl ?_
          refine wi_bi hc rfl rfl ?_
          refine wi_cne hc rfl ⟨by omega, by omega⟩ ⟨by decide, by decide⟩ (fun h7_ => ?_) (fun h7_ => ?_)
          · refine wi_bi hc rfl rfl ?_
            obtain ⟨s21_, hE21_, hM21_, hF21_⟩ := ps_173 (d := 0) (L := L) (t := t) (c := c) hM20_ (by omega) 6
            refine wp_cv (b := 598) (As := [.int (iI 6)]) (r := []) hc rfl (by rw [cm_173]; rfl) rfl (Nat.le_of_ble_eq_true rfl) (show 598 < 621 by decide) (by rw [cm_173]; rfl) (ev_mono hE21_ (by omega)) ?_
            have hF21q : FR b c s s21_ l l := hF20q.tr hF21_ (Int.le_refl c)
            show mm_wp _ _ (78, [some (.ref 598), some (.int (iI q9))], [], MX L t s21_ l) _
            refine wi_a1 hc rfl rfl ?_
            refine wi_ic hc rfl ?_
            refine wi_pf (kz := 19) rfl hc rfl rfl (by decide) (Nat.le_of_ble_eq_true rfl) rfl (Nat.le_of_ble_eq_true rfl) ⟨rfl, rfl⟩ rfl ?_
            obtain ⟨s22_, es22_⟩ : ∃ q, q = up s21_ 598 19 0 := ⟨_, rfl⟩
            rw [← es22_]
            have hMs22_ : MSt f n k pl nm tn b s22_ l ((rqSt 5 P z).1) (6 :: ((rqSt 5 P z).2)) o 0 := by rw [es22_]; exact MSt.sw hM21_
            have hFs22_ : FR b c s s22_ l l := hF21q.tr (by rw [es22_]; exact FR.u (by decide)) (Int.le_refl c)
            refine wi_go hc rfl ?_
            refine wi_a1 hc rfl rfl ?_
            obtain ⟨s23_, l23_, hE23_, hM23_, hF23_⟩ := nx_166 (d := 0) (L := L) (t := t) (c := c) hG hMs22_ (by rw [(rqSt_at 5 P z)]; exact GTX_nx hG hz1.1 hz1.2 (by omega))
            refine wp_cv (b := 598) (As := []) (r := []) hc rfl (by rw [cm_166]; rfl) rfl (Nat.le_of_ble_eq_true rfl) (show 598 < 621 by decide) (by rw [cm_166]; rfl) (ev_mono hE23_ (by omega)) ?_
            have hF23q : FR b c s s23_ l l23_ := hFs22_.tr hF23_ (Int.le_refl c)
            show mm_wp _ _ (119, [some (.ref 598), some (.int (iI q9))], [], MX L t s23_ l23_) _
            refine wi_ic hc rfl ?_
            refine wi_ri hc rfl (by rw [cm_182]; rfl) ?_
            have hB : rqBh k z P o = (rpNx (rqSt 5 P z).1, 6 :: (rqSt 5 P z).2, o, 0) := by
              unfold rqBh
              rw [if_neg (by omega), if_pos (by omega), show k z.1 - 30 = 6 by omega]
            rw [hB]
            exact ⟨s23_, l23_, rfl, hM23_, hF23q⟩
          · refine wi_ic hc rfl ?_
            refine wi_go hc rfl ?_
            obtain ⟨s24_, hE24_, hM24_, hF24_⟩ := ps_173 (d := 0) (L := L) (t := t) (c := c) hM20_ (by omega) 5
            refine wp_cv (b := 598) (As := [.int (iI 5)]) (r := []) hc rfl (by rw [cm_173]; rfl) rfl (Nat.le_of_ble_eq_true rfl) (show 598 < 621 by decide) (by rw [cm_173]; rfl) (ev_mono hE24_ (by omega)) ?_
            have hF24q : FR b c s s24_ l l := hF20q.tr hF24_ (Int.le_refl c)
            show mm_wp _ _ (78, [some (.ref 598), some (.int (iI q9))], [], MX L t s24_ l) _
            refine wi_a1 hc rfl rfl ?_
            refine wi_ic hc rfl ?_
            refine wi_pf (kz := 19) rfl hc rfl rfl (by decide) (Nat.le_of_ble_eq_true rfl) rfl (Nat.le_of_ble_eq_true rfl) ⟨rfl, rfl⟩ rfl ?_
            obtain ⟨s25_, es25_⟩ : ∃ q, q = up s24_ 598 19 0 := ⟨_, rfl⟩
            rw [← es25_]
            have hMs25_ : MSt f n k pl nm tn b s25_ l ((rqSt 5 P z).1) (5 :: ((rqSt 5 P z).2)) o 0 := by rw [es25_]; exact MSt.sw hM24_
            have hFs25_ : FR b c s s25_ l l := hF24q.tr (by rw [es25_]; exact FR.u (by decide)) (Int.le_refl c)
            refine wi_go hc rfl ?_
            refine wi_a1 hc rfl rfl ?_
            obtain ⟨s26_, l26_, hE26_, hM26_, hF26_⟩ := nx_166 (d := 0) (L := L) (t := t) (c := c) hG hMs25_ (by rw [(rqSt_at 5 P z)]; exact GTX_nx hG hz1.1 hz1.2 (by omega))
            refine wp_cv (b := 598) (As := []) (r := []) hc rfl (by rw [cm_166]; rfl) rfl (Nat.le_of_ble_eq_true rfl) (show 598 < 621 by decide) (by rw [cm_166]; rfl) (ev_mono hE26_ (by omega)) ?_
            have hF26q : FR b c s s26_ l l26_ := hFs25_.tr hF26_ (Int.le_refl c)
            show mm_wp _ _ (119, [some (.ref 598), some (.int (iI q9))], [], MX L t s26_ l26_) _
            refine wi_ic hc rfl ?_
            refine wi_ri hc rfl (by rw [cm_182]; rfl) ?_
            have hB : rqBh k z P o = (rpNx (rqSt 5 P z).1, 5 :: (rqSt 5 P z).2, o, 0) := by
              unfold rqBh
              rw [if_neg (by omega), if_pos (by omega), show k z.1 - 30 = 5 by omega]
            rw [hB]
            exact ⟨s26_, l26_, rfl, hM26_, hF26q⟩
    · have hs3 := rqSt_I 3 P z o (by decide) hI hd
      have hl3 := rqI_len hs3.1
      refine wi_a1 hc rfl rfl ?_
      refine wi_ic hc rfl ?_
      obtain ⟨s27_, hE27_, hM27_, hF27_⟩ := sp_175 (d := 0) (L := L) (t := t) (c := c) h b0 ⟨by omega, by omega⟩ (by omega) hi3 hcc (v := 3) ⟨by decide, by decide⟩
      refine wp_cv (b := 598) (As := [.int (iI 3)]) (r := []) hc rfl (by rw [cm_175]; rfl) rfl (Nat.le_of_ble_eq_true rfl) (show 598 < 621 by decide) (by rw [cm_175]; rfl) (ev_mono hE27_ (by omega)) ?_
      have hF27q : FR b c s s27_ l l := FR.rf.tr hF27_ (Int.le_refl c)
      show mm_wp _ _ (22, [some (.ref 598), some (.int (iI q9))], [], MX L t s27_ l) _
      refine wi_a1 hc rfl rfl ?_
      refine wi_i1 hc rfl rfl ?_
      refine wi_bi hc rfl rfl ?_
      refine wi_cne hc rfl ⟨by omega, by omega⟩ ⟨by decide, by decide⟩ (fun h8_ => ?_) (fun h8_ => ?_)
      · refine wi_ic hc rfl ?_
        obtain ⟨s28_, hE28_, hM28_, hF28_⟩ := ps_173 (d := 0) (L := L) (t := t) (c := c) hM27_ (by omega) 4
        refine wp_cv (b := 598) (As := [.int (iI 4)]) (r := []) hc rfl (by rw [cm_173]; rfl) rfl (Nat.le_of_ble_eq_true rfl) (show 598 < 621 by decide) (by rw [cm_173]; rfl) (ev_mono hE28_ (by omega)) ?_
        have hF28q : FR b c s s28_ l l := hF27q.tr hF28_ (Int.le_refl c)
        show mm_wp _ _ (37, [some (.ref 598), some (.int (iI q9))], [], MX L t s28_ l) _
        refine wi_a1 hc rfl rfl ?_
        refine wi_ic hc rfl ?_
        refine wi_pf (kz := 19) rfl hc rfl rfl (by decide) (Nat.le_of_ble_eq_true rfl) rfl (Nat.le_of_ble_eq_true rfl) ⟨rfl, rfl⟩ rfl ?_
        obtain ⟨s29_, es29_⟩ : ∃ q, q = up s28_ 598 19 0 := ⟨_, rfl⟩
        rw [← es29_]
        have hMs29_ : MSt f n k pl nm tn b s29_ l ((rqSt 3 P z).1) (4 :: ((rqSt 3 P z).2)) o 0 := by rw [es29_]; exact MSt.sw hM28_
        have hFs29_ : FR b c s s29_ l l := hF28q.tr (by rw [es29_]; exact FR.u (by decide)) (Int.le_refl c)
        refine wi_go hc rfl ?_
        refine wi_a1 hc rfl rfl ?_
        obtain ⟨s30_, l30_, hE30_, hM30_, hF30_⟩ := nx_166 (d := 0) (L := L) (t := t) (c := c) hG hMs29_ (by rw [(rqSt_at 3 P z)]; exact GTX_nx hG hz1.1 hz1.2 (by omega))
        refine wp_cv (b := 598) (As := []) (r := []) hc rfl (by rw [cm_166]; rfl) rfl (Nat.le_of_ble_eq_true rfl) (show 598 < 621 by decide) (by rw [cm_166]; rfl) (ev_mono hE30_ (by omega)) ?_
        have hF30q : FR b c s s30_ l l30_ := hFs29_.tr hF30_ (Int.le_refl c)
        show mm_wp _ _ (119, [some (.ref 598), some (.int (iI q9))], [], MX L t s30_ l30_) _
        refine wi_ic hc rfl ?_
        refine wi_ri hc rfl (by rw [cm_182]; rfl) ?_
        have hB : rqBh k z P o = (rpNx (rqSt 3 P z).1, 4 :: (rqSt 3 P z).2, o, 0) := by
          unfold rqBh
          rw [if_pos (by omega), show k z.1 - 30 = 4 by omega]
        rw [hB]
        exact ⟨s30_, l30_, rfl, hM30_, hF30q⟩
      · refine wi_ic hc rfl ?_
        refine wi_go hc rfl ?_
        obtain ⟨s31_, hE31_, hM31_, hF31_⟩ := ps_173 (d := 0) (L := L) (t := t) (c := c) hM27_ (by omega) 3
        refine wp_cv (b := 598) (As := [.int (iI 3)]) (r := []) hc rfl (by rw [cm_173]; rfl) rfl (Nat.le_of_ble_eq_true rfl) (show 598 < 621 by decide) (by rw [cm_173]; rfl) (ev_mono hE31_ (by omega)) ?_
        have hF31q : FR b c s s31_ l l := hF27q.tr hF31_ (Int.le_refl c)
        show mm_wp _ _ (37, [some (.ref 598), some (.int (iI q9))], [], MX L t s31_ l) _
        refine wi_a1 hc rfl rfl ?_
        refine wi_ic hc rfl ?_
        refine wi_pf (kz := 19) rfl hc rfl rfl (by decide) (Nat.le_of_ble_eq_true rfl) rfl (Nat.le_of_ble_eq_true rfl) ⟨rfl, rfl⟩ rfl ?_
        obtain ⟨s32_, es32_⟩ : ∃ q, q = up s31_ 598 19 0 := ⟨_, rfl⟩
        rw [← es32_]
        have hMs32_ : MSt f n k pl nm tn b s32_ l ((rqSt 3 P z).1) (3 :: ((rqSt 3 P z).2)) o 0 := by rw [es32_]; exact MSt.sw hM31_
        have hFs32_ : FR b c s s32_ l l := hF31q.tr (by rw [es32_]; exact FR.u (by decide)) (Int.le_refl c)
        refine wi_go hc rfl ?_
        refine wi_a1 hc rfl rfl ?_
        obtain ⟨s33_, l33_, hE33_, hM33_, hF33_⟩ := nx_166 (d := 0) (L := L) (t := t) (c := c) hG hMs32_ (by rw [(rqSt_at 3 P z)]; exact GTX_nx hG hz1.1 hz1.2 (by omega))
        refine wp_cv (b := 598) (As := []) (r := []) hc rfl (by rw [cm_166]; rfl) rfl (Nat.le_of_ble_eq_true rfl) (show 598 < 621 by decide) (by rw [cm_166]; rfl) (ev_mono hE33_ (by omega)) ?_
        have hF33q : FR b c s s33_ l l33_ := hFs32_.tr hF33_ (Int.le_refl c)
        show mm_wp _ _ (119, [some (.ref 598), some (.int (iI q9))], [], MX L t s33_ l33_) _
        refine wi_ic hc rfl ?_
        refine wi_ri hc rfl (by rw [cm_182]; rfl) ?_
        have hB : rqBh k z P o = (rpNx (rqSt 3 P z).1, 3 :: (rqSt 3 P z).2, o, 0) := by
          unfold rqBh
          rw [if_pos (by omega), show k z.1 - 30 = 3 by omega]
        rw [hB]
        exact ⟨s33_, l33_, rfl, hM33_, hF33q⟩
theorem rqBg_r (k nm : Int → Int) (W : Int) (z : rpS) (P : List Int) (o : Int) : 0 ≤ (rqBg k nm W z P o).1 ∧ (rqBg k nm W z P o).1 ≤ 5 := by
  unfold rqBg
  (repeat' split) <;> (dsimp only; omega)
theorem rqBg_c {k nm : Int → Int} {W : Int} {z : rpS} {P : List Int} {o : Int} (h : rqI z P o) : z.2.2 ≤ (rqBg k nm W z P o).2.1.2.2 := by
  obtain ⟨h1, h2, h3, h4, h5⟩ := id h
  unfold rqBg
  split
  · split
    · exact Int.le_refl _
    · have := (rqWh_I P (rpPut (nm z.1) (rpNx z)) o ⟨by show 0 ≤ z.2.2 + 1; omega, by show z.2.2 + 1 + (P.length : Int) ≤ z.1 + 1; omega, h3, h4, h5⟩).2.2
      have e : z.2.2 + 1 ≤ _ := this
      show z.2.2 ≤ (rqWh P (rpPut (nm z.1) (rpNx z)) o).1.2.2
      omega
  · split
    · split
      · have := (rqWh_I P (rpPut (10000 + k z.1) (rpNx z)) o ⟨by show 0 ≤ z.2.2 + 1; omega, by show z.2.2 + 1 + (P.length : Int) ≤ z.1 + 1; omega, h3, h4, h5⟩).2.2
        have e : z.2.2 + 1 ≤ _ := this
        show z.2.2 ≤ (rqWh P (rpPut (10000 + k z.1) (rpNx z)) o).1.2.2
        omega
      · exact Int.le_refl _
    · (repeat' split) <;> exact Int.le_refl _
theorem rqWh_c : ∀ (P : List Int) (z : rpS) (o : Int), z.2.2 ≤ (rqWh P z o).1.2.2
  | [], _, _ => Int.le_refl _
  | p :: P, z, o => by
    unfold rqWh
    split
    · have h : z.2.2 + 1 ≤ _ := rqWh_c P (rpPut 10045 z) (o - 1)
      omega
    · exact Int.le_refl _
theorem rqSt_c (v : Int) : ∀ (P : List Int) (z : rpS), z.2.2 ≤ (rqSt v P z).1.2.2
  | [], _ => Int.le_refl _
  | p :: P, z => by
    unfold rqSt
    split
    · have h : z.2.2 + 1 ≤ _ := rqSt_c v P (rpPut (10030 + p) z)
      omega
    · exact Int.le_refl _
theorem rqBh_c {k : Int → Int} {z : rpS} {P : List Int} {o : Int} (_ : rqI z P o) (_ : rqHd (fun p => p ≠ 2) P) : z.2.2 ≤ (rqBh k z P o).1.2.2 := by
  unfold rqBh
  split
  · exact rqSt_c 3 P z
  · split
    · exact rqSt_c 5 P z
    · exact Int.le_trans (rqSt_c 3 P z) (rqWh_c _ _ _)
theorem sp_183 {d L t : Nat} {s l : Nat → Int → Int} {f : Int → Int} {n : Int} {kd k pl nm : Int → Int} {tn b : Int} {z : rpS} {P : List Int} {o w c : Int} (hG : GTX f n kd k pl nm tn) (h : MSt f n k pl nm tn b s l z P o w) (b0 : 0 ≤ b ∧ b ≤ 2115) {so : Int} (hs9 : s 598 20 = so) (hso : 0 ≤ so ∧ so ≤ 9) (hI : rqI z [] o) (hcc : c ≤ z.2.2) {r9 : Int × rpS × Int} (hr : rqFin k nm (15 + so) z [] o false r9) : ∃ s1 l1, mm_Ev mm_ct mm_CM (d + 7) 183 [.ref 598] (MX L t s l) (some (.int (iI r9.1)), MX L t s1 l1) ∧ ∃ Q w9, MSt f n k pl nm tn b s1 l1 r9.2.1 Q r9.2.2 w9 ∧ (r9.1 = 0 → Q = []) ∧ FR b c s s1 l l1 := by
  have hc : (mm_CM 183).2.2.2.2.2.2.2 = mm_cf cd_183 := by rw [cm_183]; rfl
  refine ev_xsl ?_
  refine ev_to (mx := 2) (by rw [cm_183]; decide) (by rw [cm_183]; rfl) (by show 1 ≤ _; decide) ?_
  show mm_wp _ _ (0, [some (.ref 598), none], [], MX L t s l) (fun res => ∃ s1 l1, res = (some (.int (iI r9.1)), MX L t s1 l1) ∧ ∃ Q w9, MSt f n k pl nm tn b s1 l1 r9.2.1 Q r9.2.2 w9 ∧ (r9.1 = 0 → Q = []) ∧ FR b c s s1 l l1)
  have htn := hG.2.2.2.1
  have hcB : ∀ {z1 : rpS} {P1 : List Int} {o1 : Int}, rqI z1 P1 o1 → c ≤ z1.2.2 → c ≤ (rqBg k nm (15 + so) z1 P1 o1).2.1.2.2 := fun h g => by have := rqBg_c (k := k) (nm := nm) (W := 15 + so) h; omega
  have hcH : ∀ {z1 : rpS} {P1 : List Int} {o1 : Int}, rqI z1 P1 o1 → rqHd (fun p => p ≠ 2) P1 → c ≤ z1.2.2 → c ≤ (rqBh k z1 P1 o1).1.2.2 := fun h h2 g => by have := rqBh_c (k := k) h h2; omega
  refine wi_a1 hc rfl rfl ?_
  refine wi_ic hc rfl ?_
  refine wi_pf (kz := 17) rfl hc rfl rfl (by decide) (Nat.le_of_ble_eq_true rfl) rfl (Nat.le_of_ble_eq_true rfl) ⟨rfl, rfl⟩ rfl ?_
  obtain ⟨s1_, es1_⟩ : ∃ q, q = up s 598 17 0 := ⟨_, rfl⟩
  rw [← es1_]
  have hMs1_ : MSt f n k pl nm tn b s1_ l z ([]) o w := by rw [es1_]; exact MSt.clr h
  have hFs1_ : FR b c s s1_ l l := FR.rf.tr (by rw [es1_]; exact FR.u (by decide)) (Int.le_refl c)
  refine wi_a1 hc rfl rfl ?_
  refine wi_ic hc rfl ?_
  refine wi_pf (kz := 19) rfl hc rfl rfl (by decide) (Nat.le_of_ble_eq_true rfl) rfl (Nat.le_of_ble_eq_true rfl) ⟨rfl, rfl⟩ rfl ?_
  obtain ⟨s2_, es2_⟩ : ∃ q, q = up s1_ 598 19 0 := ⟨_, rfl⟩
  rw [← es2_]
  have hMs2_ : MSt f n k pl nm tn b s2_ l z ([]) o 0 := by rw [es2_]; exact MSt.sw hMs1_
  have hFs2_ : FR b c s s2_ l l := hFs1_.tr (by rw [es2_]; exact FR.u (by decide)) (Int.le_refl c)
  have loop10_ : ∀ N : Nat, ∀ (z1 : rpS) (P1 : List Int) (o1 w1 : Int) (bw : Bool) (s1 l1 : Nat → Int → Int), w1 = (if bw = true then 1 else 0) → rqRun k nm (15 + so) N z1 P1 o1 bw = some r9 → MSt f n k pl nm tn b s1 l1 z1 P1 o1 w1 → FR b c s s1 l l1 → rqI z1 P1 o1 → c ≤ z1.2.2 → (w1 = 1 → rqHd (fun p => p ≠ 2) P1) → ∀ Lf : Option Value, mm_wp (mm_Ev mm_ct mm_CM (d + 6)) 183 (10, [some (.ref 598), Lf], [], MX L t s1 l1) (fun res => ∃ s1 l1, res = (some (.int (iI r9.1)), MX L t s1 l1) ∧ ∃ Q w9, MSt f n k pl nm tn b s1 l1 r9.2.1 Q r9.2.2 w9 ∧ (r9.1 = 0 → Q = []) ∧ FR b c s s1 l l1) := by
    intro N
    induction N with
    | zero => intro z1 P1 o1 w1 bw s1 l1 hbw hrun; cases hrun
    | succ N ih =>
      intro z1 P1 o1 w1 bw s1 l1 hbw hrun hM0 hF0 hI1 hcz1 hd1 Lf
      have hI2 := rqI_len hI1
      obtain ⟨hi1, hi2, hi3, hi4, hi5⟩ := id hI1
      have hz1 := hM0.2.1.1
      have hw01 : w1 = 0 ∨ w1 = 1 := by cases bw with | false => exact Or.inl hbw | true => exact Or.inr hbw
      refine wi_a1 hc rfl rfl ?_
      refine wi_gfv (kz := 19) rfl hc rfl rfl (by decide) (Nat.le_of_ble_eq_true rfl) rfl (v := w1) (MSt.rw9 hM0) ?_
      refine wi_zeq hc rfl ⟨by omega, by omega⟩ (fun h1_ => ?_) (fun h1_ => ?_)
      · have hbwf : bw = false := by cases bw with | false => rfl | true => exfalso; simp at hbw; omega
        refine wi_a1 hc rfl rfl ?_
        refine wi_gfv (kz := 19) rfl hc rfl rfl (by decide) (Nat.le_of_ble_eq_true rfl) rfl (v := w1) (MSt.rw9 hM0) ?_
        refine wi_zeq hc rfl ⟨by omega, by omega⟩ (fun h2_ => ?_) (fun h2_ => (by exfalso; omega))
        refine wi_a1 hc rfl rfl ?_
        have hM00 : MSt f n k pl nm tn b s1 l1 z1 P1 o1 0 := by
          have e : w1 = 0 := by omega
          rw [e] at hM0
          exact hM0
        obtain ⟨s3_, l3_, hE3_, hM3_, hF3_⟩ := sp_179 (d := 0) (L := L) (t := t) (c := c) hG hM00 b0 hI1 (by omega) (so := so) (by rw [FR_20 hF0]; exact hs9) hso
        refine wp_cv (b := 598) (As := []) (r := []) hc rfl (by rw [cm_179]; rfl) rfl (Nat.le_of_ble_eq_true rfl) (show 598 < 621 by decide) (by rw [cm_179]; rfl) (ev_mono hE3_ (by omega)) ?_
        have hF3q : FR b c s s3_ l l3_ := hF0.tr hF3_ (Int.le_refl c)
        show mm_wp _ _ (42, [some (.ref 598), Lf], [.int (iI ((rqBg k nm (15 + so) z1 P1 o1).1))], MX L t s3_ l3_) _
        have hbr9 := rqBg_r k nm (15 + so) z1 P1 o1
        refine wi_is1 (L' := [some (.ref 598), some (.int (iI ((rqBg k nm (15 + so) z1 P1 o1).1)))]) hc rfl (Nat.le_of_ble_eq_true rfl) rfl ?_
        refine wi_i1 hc rfl rfl ?_
        refine wi_zeq hc rfl ⟨by omega, by omega⟩ (fun h3_ => ?_) (fun h3_ => ?_)
        · refine wi_go hc rfl ?_
          rcases rqRun_b (by rw [hbwf] at hrun; exact hrun) with ⟨hb0, bw9, hb1, hb2⟩ | ⟨hb0, -, -⟩
          · exact ih _ _ _ _ bw9 s3_ l3_ hb1 hb2 hM3_ hF3q (rqBg_I hI1).1 (hcB hI1 hcz1) (rqBg_I hI1).2 _
          · exfalso; omega
        · refine wi_i1 hc rfl rfl ?_
          refine wi_ri hc rfl (by rw [cm_183]; rfl) ?_
          rcases rqRun_b (by rw [hbwf] at hrun; exact hrun) with ⟨hb0, -⟩ | ⟨hb0, hb1, hb2⟩
          · exfalso; omega
          · subst hb1
            rw [hb2] at hM3_
            exact ⟨s3_, l3_, rfl, P1, 0, hM3_, fun e => absurd e hb0, hF3q⟩
      · have hbwt : bw = true := by cases bw with | true => rfl | false => exfalso; simp at hbw; omega
        have hw1 : w1 = 1 := by rw [hbw, if_pos hbwt]
        have hd2 := hd1 hw1
        refine wi_a1 hc rfl rfl ?_
        refine wp_cv (b := 598) (As := []) (r := []) hc rfl (by rw [cm_181]; rfl) rfl (Nat.le_of_ble_eq_true rfl) (show 598 < 621 by decide) (by rw [cm_181]; rfl) (ev_mono (sp_181 (d := 0) hG hM0 b0 hI1 (by omega : c ≤ z1.2.2)) (by omega)) ?_
        show mm_wp _ _ (21, [some (.ref 598), Lf], [.int (iI (bI ((33 ≤ k z1.1 ∧ k z1.1 ≤ 36) ∨ (k z1.1 = 38 ∧ 40 ∈ P1))))], MX L t s1 l1) _
        refine wi_beq hc rfl (fun h4_ => ?_) (fun h4_ => ?_)
        · have hgo9 : ¬ rqGo k z1 P1 := h4_
          obtain ⟨n5, hn5⟩ : ∃ n5 : Int, n5 = (rqSt 3 P1 z1).2.length := ⟨_, rfl⟩
          have hl5 := rqI_len (rqSt_I 3 P1 z1 o1 (by decide) hI1 hd2).1
          refine wi_a1 hc rfl rfl ?_
          refine wi_ic hc rfl ?_
          obtain ⟨s4_, hE4_, hM4_, hF4_⟩ := sp_175 (d := 0) (L := L) (t := t) (c := c) hM0 b0 ⟨by omega, by omega⟩ (by omega) hi3 (by omega) (v := 3) ⟨by decide, by decide⟩
          refine wp_cv (b := 598) (As := [.int (iI 3)]) (r := []) hc rfl (by rw [cm_175]; rfl) rfl (Nat.le_of_ble_eq_true rfl) (show 598 < 621 by decide) (by rw [cm_175]; rfl) (ev_mono hE4_ (by omega)) ?_
          have hF4q : FR b c s s4_ l l1 := hF0.tr hF4_ (Int.le_refl c)
          show mm_wp _ _ (57, [some (.ref 598), Lf], [], MX L t s4_ l1) _
          refine wi_a1 hc rfl rfl ?_
          refine wi_gfv (kz := 17) rfl hc rfl rfl (by decide) (Nat.le_of_ble_eq_true rfl) rfl (v := n5) ((MSt.rn hM4_).trans (hn5.symm)) ?_
          refine wi_zle hc rfl ⟨by omega, by omega⟩ (fun h5_ => ?_) (fun h5_ => ?_)
          · refine wi_ic hc rfl ?_
            refine wi_ri hc rfl (by rw [cm_183]; rfl) ?_
            have hre := rqRun_e (by rw [hbwt] at hrun; exact hrun) hgo9
            have hnil : (rqSt 3 P1 z1).2 = [] := by
              revert hn5
              cases (rqSt 3 P1 z1).2 with
              | nil => exact fun _ => rfl
              | cons q P5 => intro hn5; exfalso; rw [List.length_cons] at hn5; omega
            have hv9 : 0 = r9.1 := by
              rw [hre]
              exact (if_pos hnil).symm
            rw [hv9]
            refine ⟨s4_, l1, rfl, (rqSt 3 P1 z1).2, w1, ?_, fun e => ?_, hF4q⟩
            · rw [hre]; exact hM4_
            · exact hnil
          · refine wi_ic hc rfl ?_
            refine wi_go hc rfl ?_
            refine wi_ri hc rfl (by rw [cm_183]; rfl) ?_
            have hre := rqRun_e (by rw [hbwt] at hrun; exact hrun) hgo9
            have hnil : ¬ (rqSt 3 P1 z1).2 = [] := fun e => by
              rw [e] at hn5
              have hn5 : n5 = ((0 : Nat) : Int) := hn5
              omega
            have hv9 : 1 = r9.1 := by
              rw [hre]
              exact (if_neg hnil).symm
            rw [hv9]
            refine ⟨s4_, l1, rfl, (rqSt 3 P1 z1).2, w1, ?_, fun e => ?_, hF4q⟩
            · rw [hre]; exact hM4_
            · exfalso; omega
        · have hgo9 : rqGo k z1 P1 := h4_
          refine wi_a1 hc rfl rfl ?_
          refine wi_gfv (kz := 19) rfl hc rfl rfl (by decide) (Nat.le_of_ble_eq_true rfl) rfl (v := w1) (MSt.rw9 hM0) ?_
          refine wi_zeq hc rfl ⟨by omega, by omega⟩ (fun h6_ => (by exfalso; omega)) (fun h6_ => ?_)
          refine wi_a1 hc rfl rfl ?_
          obtain ⟨s5_, l5_, hE5_, hM5_, hF5_⟩ := sp_182 (d := 0) (L := L) (t := t) (c := c) hG hM0 b0 hI1 (by omega) hd2 hgo9
          refine wp_cv (b := 598) (As := []) (r := []) hc rfl (by rw [cm_182]; rfl) rfl (Nat.le_of_ble_eq_true rfl) (show 598 < 621 by decide) (by rw [cm_182]; rfl) (ev_mono hE5_ (by omega)) ?_
          have hF5q : FR b c s s5_ l l5_ := hF0.tr hF5_ (Int.le_refl c)
          show mm_wp _ _ (35, [some (.ref 598), Lf], [.int (iI 0)], MX L t s5_ l5_) _
          refine wi_go hc rfl ?_
          have hbr9 := rqBg_r k nm (15 + so) z1 P1 o1
          refine wi_is1 (L' := [some (.ref 598), some (.int (iI 0))]) hc rfl (Nat.le_of_ble_eq_true rfl) rfl ?_
          refine wi_i1 hc rfl rfl ?_
          refine wi_zeq hc rfl ⟨by decide, by decide⟩ (fun _ => ?_) (fun q => absurd q (by decide))
          refine wi_go hc rfl ?_
          obtain ⟨bw9, hb1, hb2⟩ := rqRun_w (by rw [hbwt] at hrun; exact hrun) hgo9
          exact ih _ _ _ _ bw9 s5_ l5_ hb1 hb2 hM5_ hF5q (rqBh_I hI1 hd2 hgo9).1 (hcH hI1 hd2 hcz1) (rqBh_I hI1 hd2 hgo9).2 _
  obtain ⟨N9, hN9⟩ := hr
  exact loop10_ N9 _ _ _ _ false s2_ l rfl hN9 hMs2_ hFs2_ hI (by omega) (fun e => absurd e (by decide)) _
