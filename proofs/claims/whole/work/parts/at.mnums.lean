/-! The model's numbers. -/
def FN (lo : Int) (s s1 l l1 : Nat → Int → Int) : Prop := (∀ q, q ≠ 598 → q ≠ 601 → q ≠ 603 → s1 q = s q) ∧ (∀ q, ¬ (7 ≤ q ∧ q ≤ 10) → q ≠ 14 → ¬ (17 ≤ q ∧ q ≤ 19) → s1 598 q = s 598 q) ∧ (∀ j, j < lo → s1 601 j = s 601 j) ∧ (∀ q, q ≠ 598 → l1 q = l q) ∧ ∀ q, q ≠ 11 → l1 598 q = l 598 q
section FNP
variable {f : Int → Int} {n : Int} {k pl nm : Int → Int} {tn b : Int} {s s1 s2 l l1 l2 : Nat → Int → Int} {z : rpS} {P : List Int} {o w lo lo' v ix c : Int}
theorem FN.rf : FN lo s s l l := ⟨fun _ _ _ _ => rfl, fun _ _ _ _ => rfl, fun _ _ => rfl, fun _ _ => rfl, fun _ _ => rfl⟩
theorem FN.tr (h : FN lo s s1 l l1) (g : FN lo' s1 s2 l1 l2) (hc : lo ≤ lo') : FN lo s s2 l l2 := ⟨fun q a1 a2 a3 => (g.1 q a1 a2 a3).trans (h.1 q a1 a2 a3), fun q a1 a2 a3 => (g.2.1 q a1 a2 a3).trans (h.2.1 q a1 a2 a3), fun j a => (g.2.2.1 j (by omega)).trans (h.2.2.1 j a), fun q a => (g.2.2.2.1 q a).trans (h.2.2.2.1 q a), fun q a => (g.2.2.2.2 q a).trans (h.2.2.2.2 q a)⟩
theorem FN.lo9 (h : FN lo s s1 l l1) (hc : lo' ≤ lo) : FN lo' s s1 l l1 := ⟨h.1, h.2.1, fun j a => h.2.2.1 j (by omega), h.2.2.2⟩
theorem FR.fn9 (h : FR b c s s1 l l1) (hl : lo ≤ b + 97 + 2 * c) : FN lo s s1 l l1 := ⟨h.1, h.2.1, fun j a => h.2.2.1 j (by omega), h.2.2.2⟩
theorem MSt.nw (h : MSt f n k pl nm tn b s l z P o w) (hi : ix < b + 97) : MSt f n k pl nm tn b (up s 601 ix v) l z P o w := by
  obtain ⟨-, -, hc, hp, ho, hw⟩ := id h
  refine h.ch rfl (up_cc (by decide)) (fun q a1 a2 => by rw [up_cc (by decide)]) ⟨?_, fun j j0 j1 => ?_⟩ ?_ ?_ ?_
  · rw [up_cc (by decide)]; exact hc.1
  · rw [up_k (by omega), up_k (by omega)]; exact hc.2 j j0 j1
  · rw [up_cc (by decide), up_cc (by decide)]; exact hp
  · rw [up_cc (by decide)]; exact ho
  · rw [up_cc (by decide)]; exact hw
theorem FN.wr (hl : lo ≤ ix) : FN lo s (up s 601 ix v) l l := ⟨fun q a1 a2 a3 => up_cc a2, fun q a a2 a3 => by rw [up_cc (by decide)], fun j a => up_k (by omega), fun _ _ => rfl, fun _ _ => rfl⟩
theorem FN.st {q : Int} (hq : 17 ≤ q ∧ q ≤ 19) : FN lo s (up s 598 q v) l l := (FR.u (b := lo - 97) (c := 0) hq).fn9 (by omega)
end FNP
theorem fg_188 {d L t : Nat} {s l : Nat → Int → Int} {f : Int → Int} {n : Int} {kd k pl nm : Int → Int} {tn b : Int} {z : rpS} {P : List Int} {o w : Int} (hG : GTX f n kd k pl nm tn) (h : MSt f n k pl nm tn b s l z P o w) (b0 : 0 ≤ b ∧ b ≤ 2115) {ix lo hi : Int} (hix : b + 1 ≤ ix ∧ ix < b + 97) (hlo : 0 ≤ lo ∧ lo ≤ 99) (hhi : 0 ≤ hi ∧ hi ≤ 99) {r : rpR} (hr : rcFig k nm lo hi z = r) : ∃ s1 l1, mm_Ev mm_ct mm_CM (d + 4) 188 [.ref 598, .int (iI ix), .int (iI lo), .int (iI hi)] (MX L t s l) (some (.int (iI r.1)), MX L t s1 l1) ∧ MSt f n k pl nm tn b s1 l1 r.2 P o w ∧ FN ix s s1 l l1 ∧ (r.1 = 0 → s1 601 ix = nm z.1) := by
  have hc : (mm_CM 188).2.2.2.2.2.2.2 = mm_cf cd_188 := by rw [cm_188]; rfl
  refine ev_xsl ?_
  refine ev_to (mx := 4) (by rw [cm_188]; decide) (by rw [cm_188]; rfl) (by show 4 ≤ _; decide) ?_
  show mm_wp _ _ (0, [some (.ref 598), some (.int (iI ix)), some (.int (iI lo)), some (.int (iI hi))], [], MX L t s l) (fun res => ∃ s1 l1, res = (some (.int (iI r.1)), MX L t s1 l1) ∧ MSt f n k pl nm tn b s1 l1 r.2 P o w ∧ FN ix s s1 l l1 ∧ (r.1 = 0 → s1 601 ix = nm z.1))
  obtain ⟨q9, hq9⟩ : ∃ q9, s 598 9 = q9 := ⟨_, rfl⟩
  obtain ⟨u9, hu9⟩ : ∃ u9, s 598 10 = u9 := ⟨_, rfl⟩
  obtain ⟨w9, hw9⟩ : ∃ w9, l 598 11 = w9 := ⟨_, rfl⟩
  have hk9 := MSt.tk h
  rw [hq9, hu9, hw9] at hk9
  have ha9 := tkR_a hk9
  unfold tkA at ha9
  have htn := hG.2.2.2.1
  have hz1 := h.2.1.1
  have hkr := hG.2.2.2.2.2.2 z.1
  refine wi_a1 hc rfl rfl ?_
  refine wi_gfv (kz := 9) rfl hc rfl rfl (by decide) (Nat.le_of_ble_eq_true rfl) rfl (v := q9) (hq9) ?_
  refine wi_ic hc rfl ?_
  refine wi_ceq hc rfl ⟨by omega, by omega⟩ ⟨by decide, by decide⟩ (fun h1_ => ?_) (fun h1_ => ?_)
  · have hnn := tkR_n hk9 (by omega)
    have hmu := minI_spec u9 10000
    refine wi_a1 hc rfl rfl ?_
    refine wi_gfv (kz := 10) rfl hc rfl rfl (by decide) (Nat.le_of_ble_eq_true rfl) rfl (v := u9) (hu9) ?_
    refine wi_i1 hc rfl rfl ?_
    refine wi_i1 hc rfl rfl ?_
    refine wp_cs (As := [.int (iI u9), .int (iI lo), .int (iI hi)]) (r := []) hc rfl (by rw [cm_148]; rfl) rfl (Nat.le_of_ble_eq_true rfl) (ev_mono (sp_148 (d := 0) ⟨by omega, by omega⟩ ⟨by omega, by omega⟩ ⟨by omega, by omega⟩) (by omega)) ?_
    show mm_wp _ _ (19, [some (.ref 598), some (.int (iI ix)), some (.int (iI lo)), some (.int (iI hi))], [.int (iI (bI (lo ≤ u9 ∧ u9 ≤ hi)))], MX L t s l) _
    refine wi_bne hc rfl (fun h2_ => ?_) (fun h2_ => ?_)
    · refine wi_a1 hc rfl rfl ?_
      refine wi_gr (w := 601) hc rfl rfl (by decide) (Nat.le_of_ble_eq_true rfl) rfl ?_
      refine wi_i1 hc rfl rfl ?_
      refine wi_a1 hc rfl rfl ?_
      refine wi_gfv (kz := 10) rfl hc rfl rfl (by decide) (Nat.le_of_ble_eq_true rfl) rfl (v := u9) (hu9) ?_
      refine wi_ist (N := 2820) hc rfl rfl (by decide) (by decide) (by omega) (by omega) ?_
      obtain ⟨s1_, es1_⟩ : ∃ q, q = up s 601 ix u9 := ⟨_, rfl⟩
      rw [← es1_]
      refine wi_a1 hc rfl rfl ?_
      have hMw : MSt f n k pl nm tn b s1_ l z P o w := by rw [es1_]; exact h.nw (by omega)
      obtain ⟨sx, lx, hEx, hMx, hFx⟩ := nx_166 (d := 0) (L := L) (t := t) (c := 0) hG hMw (GTX_nx hG hz1.1 hz1.2 (by omega))
      refine wp_cv (b := 598) (As := []) (r := []) hc rfl (by rw [cm_166]; rfl) rfl (Nat.le_of_ble_eq_true rfl) (show 598 < 621 by decide) (by rw [cm_166]; rfl) (ev_mono hEx (by omega)) ?_
      have hFN : FN ix s sx l lx := (show FN ix s s1_ l l by rw [es1_]; exact FN.wr (Int.le_refl _)).tr (hFx.fn9 (lo := b + 97) (by omega)) (by omega)
      have hVx : sx 601 ix = nm z.1 := by rw [hFx.2.2.1 ix (by omega), es1_, up_at]; omega
      show mm_wp _ _ (38, [some (.ref 598), some (.int (iI ix)), some (.int (iI lo)), some (.int (iI hi))], [], MX L t sx lx) _
      refine wi_ic hc rfl ?_
      refine wi_ri hc rfl (by rw [cm_188]; rfl) ?_
      have hr9 : r = (0, rpNx z) := by rw [← hr, rcFig, if_pos (by omega), if_pos (by omega)]
      subst hr9
      exact ⟨sx, lx, rfl, hMx, hFN, fun _ => hVx⟩
    · refine wi_ic hc rfl ?_
      refine wi_ri hc rfl (by rw [cm_188]; rfl) ?_
      have hr9 : r = (2, z) := by rw [← hr, rcFig, if_pos (by omega), if_neg (by omega)]
      subst hr9
      exact ⟨s, l, rfl, h, FN.rf, fun e => absurd (show (2 : Int) = 0 from e) (by decide)⟩
  · refine wi_ic hc rfl ?_
    refine wi_ri hc rfl (by rw [cm_188]; rfl) ?_
    have hr9 : r = (1, z) := by rw [← hr, rcFig, if_neg (by omega)]
    subst hr9
    exact ⟨s, l, rfl, h, FN.rf, fun e => absurd (show (1 : Int) = 0 from e) (by decide)⟩
theorem wd_189_24 {d L t : Nat} {s l : Nat → Int → Int} {f : Int → Int} {n : Int} {kd k pl nm : Int → Int} {tn b : Int} {z : rpS} {P : List Int} {o w : Int} (hG : GTX f n kd k pl nm tn) (h : MSt f n k pl nm tn b s l z P o w) (b0 : 0 ≤ b ∧ b ≤ 2115) {ix hi : Int} (hix : b + 1 ≤ ix ∧ ix < b + 97) (hhi : 0 ≤ hi ∧ hi ≤ 99) {r : rpR} (hr : rpB (rcWd k 24 z) (rcFig k nm 0 hi) = r) : ∃ s1 l1, mm_Ev mm_ct mm_CM (d + 5) 189 [.ref 598, .int (iI 97), .int (iI 116), .int (iI ix), .int (iI hi)] (MX L t s l) (some (.int (iI r.1)), MX L t s1 l1) ∧ MSt f n k pl nm tn b s1 l1 r.2 P o w ∧ FN ix s s1 l l1 ∧ (r.1 = 0 → s1 601 ix = nm (z.1 + 1)) := by
  have hc : (mm_CM 189).2.2.2.2.2.2.2 = mm_cf cd_189 := by rw [cm_189]; rfl
  refine ev_xsl ?_
  refine ev_to (mx := 5) (by rw [cm_189]; decide) (by rw [cm_189]; rfl) (by show 5 ≤ _; decide) ?_
  show mm_wp _ _ (0, [some (.ref 598), some (.int (iI 97)), some (.int (iI 116)), some (.int (iI ix)), some (.int (iI hi))], [], MX L t s l) (fun res => ∃ s1 l1, res = (some (.int (iI r.1)), MX L t s1 l1) ∧ MSt f n k pl nm tn b s1 l1 r.2 P o w ∧ FN ix s s1 l l1 ∧ (r.1 = 0 → s1 601 ix = nm (z.1 + 1)))
  obtain ⟨q9, hq9⟩ : ∃ q9, s 598 9 = q9 := ⟨_, rfl⟩
  obtain ⟨u9, hu9⟩ : ∃ u9, s 598 10 = u9 := ⟨_, rfl⟩
  obtain ⟨w9, hw9⟩ : ∃ w9, l 598 11 = w9 := ⟨_, rfl⟩
  have hk9 := MSt.tk h
  rw [hq9, hu9, hw9] at hk9
  have ha9 := tkR_a hk9
  unfold tkA at ha9
  have htn := hG.2.2.2.1
  have hz1 := h.2.1.1
  have hkr := hG.2.2.2.2.2.2 z.1
  refine wi_a1 hc rfl rfl ?_
  refine wi_gfv (kz := 9) rfl hc rfl rfl (by decide) (Nat.le_of_ble_eq_true rfl) rfl (v := q9) (hq9) ?_
  refine wi_ic hc rfl ?_
  refine wi_cne hc rfl ⟨by omega, by omega⟩ ⟨by decide, by decide⟩ (fun h1_ => ?_) (fun h1_ => ?_)
  · skip
    refine wi_ic hc rfl ?_
    refine wi_ri hc rfl (by rw [cm_189]; rfl) ?_
    have hr9 : r = (1, z) := by rw [← hr, rcWd, if_neg (by omega), rpB_n (r := (1, z)) (by show (1 : Int) ≠ 0; decide)]
    subst hr9
    exact ⟨s, l, rfl, h, FN.rf, fun e => absurd (show (1 : Int) = 0 from e) (by decide)⟩
  · have hwr9 := (tkR_w hk9 (by omega)).1
    refine wi_a1 hc rfl rfl ?_
    refine wi_glv (kz := 11) rfl hc rfl rfl (by decide) (Nat.le_of_ble_eq_true rfl) rfl (v := w9) (hw9) ?_
    refine wi_i1 hc rfl rfl ?_
    refine wi_bi hc rfl rfl ?_
    refine wi_shl 256 rfl hc rfl (by omega) (by omega) ?_
    refine wi_i1 hc rfl rfl ?_
    refine wi_or hc rfl (by decide) (by decide) ?_
    rw [show orI (97 * 256) 116 = 24948 from rfl]
    refine wl_i2l hc rfl ⟨by decide, by decide⟩ ?_
    have h2_ := cmpI_spec w9 24948
    refine wl_cmp hc rfl ⟨by omega, by omega⟩ ⟨by decide, by decide⟩ ?_
    refine wi_zeq hc rfl (cmpI_r _ _) (fun h3_ => ?_) (fun h3_ => ?_)
    · have hkq : k z.1 = 24 := (tkW_24 hk9 (by omega)).mp (by omega)
      refine wi_a1 hc rfl rfl ?_
      have hnx9 := GTX_nx hG hz1.1 hz1.2 (by omega)
      obtain ⟨sx, lx, hEx, hMx, hFx⟩ := nx_166 (d := 0) (L := L) (t := t) (c := 0) hG h hnx9
      refine wp_cv (b := 598) (As := []) (r := []) hc rfl (by rw [cm_166]; rfl) rfl (Nat.le_of_ble_eq_true rfl) (show 598 < 621 by decide) (by rw [cm_166]; rfl) (ev_mono hEx (by omega)) ?_
      show mm_wp _ _ (29, [some (.ref 598), some (.int (iI 97)), some (.int (iI 116)), some (.int (iI ix)), some (.int (iI hi))], [], MX L t sx lx) _
      refine wi_a1 hc rfl rfl ?_
      refine wi_i1 hc rfl rfl ?_
      refine wi_ic hc rfl ?_
      refine wi_i2 hc rfl rfl ?_
      obtain ⟨f1, y1, hy1⟩ : ∃ f y, rcFig k nm 0 hi (rpNx z) = (f, y) := ⟨_, _, rfl⟩
      obtain ⟨sy, ly, hEy, hMy, hFy, hNy⟩ := fg_188 (d := 0) (L := L) (t := t) hG hMx b0 hix (lo := 0) ⟨by decide, by decide⟩ hhi hy1
      refine wp_cv (b := 598) (As := [.int (iI ix), .int (iI 0), .int (iI hi)]) (r := []) hc rfl (by rw [cm_188]; rfl) rfl (Nat.le_of_ble_eq_true rfl) (show 598 < 621 by decide) (by rw [cm_188]; rfl) (ev_mono hEy (by omega)) ?_
      show mm_wp _ _ (37, [some (.ref 598), some (.int (iI 97)), some (.int (iI 116)), some (.int (iI ix)), some (.int (iI hi))], [.int (iI f1)], MX L t sy ly) _
      refine wi_ri hc rfl (by rw [cm_189]; rfl) ?_
      have hr9 : r = (f1, y1) := by rw [← hr, rcWd, if_pos hkq, rpB_z]; exact hy1
      subst hr9
      exact ⟨sy, ly, rfl, hMy, (hFx.fn9 (lo := ix) (by omega)).tr hFy (Int.le_refl _), hNy⟩
    · skip
      refine wi_ic hc rfl ?_
      refine wi_ri hc rfl (by rw [cm_189]; rfl) ?_
      have hr9 : r = (1, z) := by rw [← hr, rcWd, if_neg (fun e => absurd ((tkW_24 hk9 (by omega)).mpr e) (by omega)), rpB_n (r := (1, z)) (by show (1 : Int) ≠ 0; decide)]
      subst hr9
      exact ⟨s, l, rfl, h, FN.rf, fun e => absurd (show (1 : Int) = 0 from e) (by decide)⟩
theorem wd_189_25 {d L t : Nat} {s l : Nat → Int → Int} {f : Int → Int} {n : Int} {kd k pl nm : Int → Int} {tn b : Int} {z : rpS} {P : List Int} {o w : Int} (hG : GTX f n kd k pl nm tn) (h : MSt f n k pl nm tn b s l z P o w) (b0 : 0 ≤ b ∧ b ≤ 2115) {ix hi : Int} (hix : b + 1 ≤ ix ∧ ix < b + 97) (hhi : 0 ≤ hi ∧ hi ≤ 99) {r : rpR} (hr : rpB (rcWd k 25 z) (rcFig k nm 0 hi) = r) : ∃ s1 l1, mm_Ev mm_ct mm_CM (d + 5) 189 [.ref 598, .int (iI 111), .int (iI 110), .int (iI ix), .int (iI hi)] (MX L t s l) (some (.int (iI r.1)), MX L t s1 l1) ∧ MSt f n k pl nm tn b s1 l1 r.2 P o w ∧ FN ix s s1 l l1 ∧ (r.1 = 0 → s1 601 ix = nm (z.1 + 1)) := by
  have hc : (mm_CM 189).2.2.2.2.2.2.2 = mm_cf cd_189 := by rw [cm_189]; rfl
  refine ev_xsl ?_
  refine ev_to (mx := 5) (by rw [cm_189]; decide) (by rw [cm_189]; rfl) (by show 5 ≤ _; decide) ?_
  show mm_wp _ _ (0, [some (.ref 598), some (.int (iI 111)), some (.int (iI 110)), some (.int (iI ix)), some (.int (iI hi))], [], MX L t s l) (fun res => ∃ s1 l1, res = (some (.int (iI r.1)), MX L t s1 l1) ∧ MSt f n k pl nm tn b s1 l1 r.2 P o w ∧ FN ix s s1 l l1 ∧ (r.1 = 0 → s1 601 ix = nm (z.1 + 1)))
  obtain ⟨q9, hq9⟩ : ∃ q9, s 598 9 = q9 := ⟨_, rfl⟩
  obtain ⟨u9, hu9⟩ : ∃ u9, s 598 10 = u9 := ⟨_, rfl⟩
  obtain ⟨w9, hw9⟩ : ∃ w9, l 598 11 = w9 := ⟨_, rfl⟩
  have hk9 := MSt.tk h
  rw [hq9, hu9, hw9] at hk9
  have ha9 := tkR_a hk9
  unfold tkA at ha9
  have htn := hG.2.2.2.1
  have hz1 := h.2.1.1
  have hkr := hG.2.2.2.2.2.2 z.1
  refine wi_a1 hc rfl rfl ?_
  refine wi_gfv (kz := 9) rfl hc rfl rfl (by decide) (Nat.le_of_ble_eq_true rfl) rfl (v := q9) (hq9) ?_
  refine wi_ic hc rfl ?_
  refine wi_cne hc rfl ⟨by omega, by omega⟩ ⟨by decide, by decide⟩ (fun h1_ => ?_) (fun h1_ => ?_)
  · skip
    refine wi_ic hc rfl ?_
    refine wi_ri hc rfl (by rw [cm_189]; rfl) ?_
    have hr9 : r = (1, z) := by rw [← hr, rcWd, if_neg (by omega), rpB_n (r := (1, z)) (by show (1 : Int) ≠ 0; decide)]
    subst hr9
    exact ⟨s, l, rfl, h, FN.rf, fun e => absurd (show (1 : Int) = 0 from e) (by decide)⟩
  · have hwr9 := (tkR_w hk9 (by omega)).1
    refine wi_a1 hc rfl rfl ?_
    refine wi_glv (kz := 11) rfl hc rfl rfl (by decide) (Nat.le_of_ble_eq_true rfl) rfl (v := w9) (hw9) ?_
    refine wi_i1 hc rfl rfl ?_
    refine wi_bi hc rfl rfl ?_
    refine wi_shl 256 rfl hc rfl (by omega) (by omega) ?_
    refine wi_i1 hc rfl rfl ?_
    refine wi_or hc rfl (by decide) (by decide) ?_
    rw [show orI (111 * 256) 110 = 28526 from rfl]
    refine wl_i2l hc rfl ⟨by decide, by decide⟩ ?_
    have h2_ := cmpI_spec w9 28526
    refine wl_cmp hc rfl ⟨by omega, by omega⟩ ⟨by decide, by decide⟩ ?_
    refine wi_zeq hc rfl (cmpI_r _ _) (fun h3_ => ?_) (fun h3_ => ?_)
    · have hkq : k z.1 = 25 := (tkW_25 hk9 (by omega)).mp (by omega)
      refine wi_a1 hc rfl rfl ?_
      have hnx9 := GTX_nx hG hz1.1 hz1.2 (by omega)
      obtain ⟨sx, lx, hEx, hMx, hFx⟩ := nx_166 (d := 0) (L := L) (t := t) (c := 0) hG h hnx9
      refine wp_cv (b := 598) (As := []) (r := []) hc rfl (by rw [cm_166]; rfl) rfl (Nat.le_of_ble_eq_true rfl) (show 598 < 621 by decide) (by rw [cm_166]; rfl) (ev_mono hEx (by omega)) ?_
      show mm_wp _ _ (29, [some (.ref 598), some (.int (iI 111)), some (.int (iI 110)), some (.int (iI ix)), some (.int (iI hi))], [], MX L t sx lx) _
      refine wi_a1 hc rfl rfl ?_
      refine wi_i1 hc rfl rfl ?_
      refine wi_ic hc rfl ?_
      refine wi_i2 hc rfl rfl ?_
      obtain ⟨f1, y1, hy1⟩ : ∃ f y, rcFig k nm 0 hi (rpNx z) = (f, y) := ⟨_, _, rfl⟩
      obtain ⟨sy, ly, hEy, hMy, hFy, hNy⟩ := fg_188 (d := 0) (L := L) (t := t) hG hMx b0 hix (lo := 0) ⟨by decide, by decide⟩ hhi hy1
      refine wp_cv (b := 598) (As := [.int (iI ix), .int (iI 0), .int (iI hi)]) (r := []) hc rfl (by rw [cm_188]; rfl) rfl (Nat.le_of_ble_eq_true rfl) (show 598 < 621 by decide) (by rw [cm_188]; rfl) (ev_mono hEy (by omega)) ?_
      show mm_wp _ _ (37, [some (.ref 598), some (.int (iI 111)), some (.int (iI 110)), some (.int (iI ix)), some (.int (iI hi))], [.int (iI f1)], MX L t sy ly) _
      refine wi_ri hc rfl (by rw [cm_189]; rfl) ?_
      have hr9 : r = (f1, y1) := by rw [← hr, rcWd, if_pos hkq, rpB_z]; exact hy1
      subst hr9
      exact ⟨sy, ly, rfl, hMy, (hFx.fn9 (lo := ix) (by omega)).tr hFy (Int.le_refl _), hNy⟩
    · skip
      refine wi_ic hc rfl ?_
      refine wi_ri hc rfl (by rw [cm_189]; rfl) ?_
      have hr9 : r = (1, z) := by rw [← hr, rcWd, if_neg (fun e => absurd ((tkW_25 hk9 (by omega)).mpr e) (by omega)), rpB_n (r := (1, z)) (by show (1 : Int) ≠ 0; decide)]
      subst hr9
      exact ⟨s, l, rfl, h, FN.rf, fun e => absurd (show (1 : Int) = 0 from e) (by decide)⟩
/-- the model's row beside the table -/
def MG (b : Int) (T G : Int → Int) : Prop := T b = G 0 ∧ (0 ≤ G 0 ∧ G 0 ≤ 24) ∧ ∀ q, 0 ≤ q → q < G 0 → T (b + 1 + 4 * q) = G (1 + 4 * q) ∧ ((G (1 + 4 * q) = 0 ∨ (3 ≤ G (1 + 4 * q) ∧ G (1 + 4 * q) ≤ 7)) → T (b + 2 + 4 * q) = G (2 + 4 * q)) ∧ ((G (1 + 4 * q) ≤ 2 ∨ G (1 + 4 * q) = 5 ∨ G (1 + 4 * q) = 7) → T (b + 3 + 4 * q) = G (3 + 4 * q)) ∧ ((G (1 + 4 * q) ≤ 2 ∨ G (1 + 4 * q) = 7) → T (b + 4 + 4 * q) = G (4 + 4 * q))
theorem MG.f {b : Int} {T T1 G : Int → Int} {c : Int} (h : MG b T G) (hc : c = G 0) (f : ∀ j, j < b + 1 + 4 * c → T1 j = T j) : MG b T1 G := by
  subst hc
  obtain ⟨h1, h2, h3⟩ := h
  refine ⟨(f b (by omega)).trans h1, h2, fun q q0 q1 => ?_⟩
  obtain ⟨a1, a2, a3, a4⟩ := h3 q q0 q1
  rw [f _ (by omega), f _ (by omega), f _ (by omega), f _ (by omega)]
  exact ⟨a1, a2, a3, a4⟩
theorem hl_190 {d L t : Nat} {s l : Nat → Int → Int} {b v : Int} {G : Int → Int} (hb9 : s 598 12 = b) (b0 : 0 ≤ b ∧ b ≤ 2115) (hG : MG b (s 601) G) (hI : ∀ q, 0 ≤ q → q < G 0 → 0 ≤ G (1 + 4 * q) ∧ G (1 + 4 * q) ≤ 9 ∧ (G (1 + 4 * q) = 0 → 0 ≤ G (2 + 4 * q) ∧ G (2 + 4 * q) ≤ 5)) (hv : 0 ≤ v ∧ v ≤ 99) : mm_Ev mm_ct mm_CM (d + 1) 190 [.ref 598, .int (iI v)] (MX L t s l) (some (.int (iI (bI (0 ≤ rcHas G 0 v)))), MX L t s l) := by
  have hc : (mm_CM 190).2.2.2.2.2.2.2 = mm_cf cd_190 := by rw [cm_190]; rfl
  refine ev_of (mx := 3) (by rw [cm_190]; decide) (by rw [cm_190]; rfl) (by show 2 ≤ _; decide) ?_
  show mm_wp _ _ (0, [some (.ref 598), some (.int (iI v)), none], [], MX L t s l) (fun r => r = (some (.int (iI (bI (0 ≤ rcHas G 0 v)))), MX L t s l))
  obtain ⟨hr1, hr2, hr3, hr4⟩ := rcHas_r (G := G) (so := 0) (la := v) hG.2.1.1
  have hG0 := hG.2.1
  refine wi_ic hc rfl ?_
  refine wi_is1 (L' := [some (.ref 598), some (.int (iI v)), some (.int (iI 0))]) hc rfl (Nat.le_of_ble_eq_true rfl) rfl ?_
  have loop2_ : ∀ q : Int, q ≤ G 0 → 0 ≤ q → (∀ j, 0 ≤ j → j < q → G (1 + 4 * j) = 0 → G (2 + 4 * j) ≠ v) → mm_wp (mm_Ev mm_ct mm_CM d) 190 (2, [some (.ref 598), some (.int (iI v)), some (.int (iI q))], [], MX L t s l) (fun r => r = (some (.int (iI (bI (0 ≤ rcHas G 0 v)))), MX L t s l)) := by
    refine up_ind ?_
    intro q hq9 ih q0 hno
    refine wi_i1 hc rfl rfl ?_
    refine wi_a1 hc rfl rfl ?_
    refine wi_gr (w := 601) hc rfl rfl (by decide) (Nat.le_of_ble_eq_true rfl) rfl ?_
    refine wi_a1 hc rfl rfl ?_
    refine wi_gfv (kz := 12) rfl hc rfl rfl (by decide) (Nat.le_of_ble_eq_true rfl) rfl (v := b) (hb9) ?_
    refine wi_ildv (N := 2820) hc rfl rfl (by decide) (by decide) (by omega) (by omega) (v := G 0) (hG.1) ?_
    refine wi_cge hc rfl ⟨by omega, by omega⟩ ⟨by omega, by omega⟩ (fun h1_ => ?_) (fun h1_ => ?_)
    · refine wi_ic hc rfl ?_
      refine wi_r0 hc rfl (by rw [cm_190]; rfl) ?_
      rw [bI_f (p := 0 ≤ rcHas G 0 v) (fun e => by
        have g := (hr3 e)
        refine hno (rcHas G 0 v) e (by omega) g.1 ?_
        rcases g.2 with g2 | g2
        · exact absurd rfl g2
        · exact g2)]
    · obtain ⟨hf1, hf2, -, -⟩ := hG.2.2 q q0 (by omega)
      have hi9 := hI q q0 (by omega)
      have hf3 : s 601 (b + 1 + 4 * q) = G (1 + 4 * q) := hf1
      refine wi_a1 hc rfl rfl ?_
      refine wi_gr (w := 601) hc rfl rfl (by decide) (Nat.le_of_ble_eq_true rfl) rfl ?_
      refine wi_a1 hc rfl rfl ?_
      refine wi_gfv (kz := 12) rfl hc rfl rfl (by decide) (Nat.le_of_ble_eq_true rfl) rfl (v := b) (hb9) ?_
      refine wi_ic hc rfl ?_
      refine wi_add hc rfl ?_
      refine wi_ic hc rfl ?_
      refine wi_i1 hc rfl rfl ?_
      refine wi_mul hc rfl ?_
      refine wi_add hc rfl ?_
      refine wi_ild (N := 2820) hc rfl rfl (by decide) (by decide) (by omega) (by omega) ?_
      refine wi_zne hc rfl ⟨by omega, by omega⟩ (fun h2_ => ?_) (fun h2_ => ?_)
      · skip
        refine wi_inc (L' := [some (.ref 598), some (.int (iI v)), some (.int (iI (q + 1)))]) hc rfl rfl rfl ?_
        refine wi_go hc rfl ?_
        refine ih (by omega) (by omega) (fun j j0 j1 j2 => ?_)
        rcases (by omega : j < q ∨ j = q) with g | g
        · exact hno j j0 g j2
        · rw [g] at j2 ⊢
          exact absurd (hf1.trans j2) h2_
      · have hf4 := fun e => hf2 (Or.inl e)
        refine wi_a1 hc rfl rfl ?_
        refine wi_gr (w := 601) hc rfl rfl (by decide) (Nat.le_of_ble_eq_true rfl) rfl ?_
        refine wi_a1 hc rfl rfl ?_
        refine wi_gfv (kz := 12) rfl hc rfl rfl (by decide) (Nat.le_of_ble_eq_true rfl) rfl (v := b) (hb9) ?_
        refine wi_ic hc rfl ?_
        refine wi_add hc rfl ?_
        refine wi_ic hc rfl ?_
        refine wi_i1 hc rfl rfl ?_
        refine wi_mul hc rfl ?_
        refine wi_add hc rfl ?_
        refine wi_ild (N := 2820) hc rfl rfl (by decide) (by decide) (by omega) (by omega) ?_
        refine wi_i1 hc rfl rfl ?_
        refine wi_cne hc rfl ⟨by omega, by omega⟩ ⟨by omega, by omega⟩ (fun h3_ => ?_) (fun h3_ => ?_)
        · skip
          refine wi_inc (L' := [some (.ref 598), some (.int (iI v)), some (.int (iI (q + 1)))]) hc rfl rfl rfl ?_
          refine wi_go hc rfl ?_
          refine ih (by omega) (by omega) (fun j j0 j1 j2 => ?_)
          rcases (by omega : j < q ∨ j = q) with g | g
          · exact hno j j0 g j2
          · rw [g] at j2 ⊢
            exact fun e => h3_ ((hf2 (Or.inl j2)).trans e)
        · have hx1 : G (1 + 4 * q) = 0 := by omega
          have hx2 : G (2 + 4 * q) = v := (hf2 (Or.inl hx1)).symm.trans (by omega)
          refine wi_ic hc rfl ?_
          refine wi_r1 hc rfl (by rw [cm_190]; rfl) ?_
          rw [bI_t (p := 0 ≤ rcHas G 0 v) (by
            rcases (by omega : 0 ≤ rcHas G 0 v ∨ rcHas G 0 v < 0) with g | g
            · exact g
            · exact absurd ⟨hx1, Or.inr hx2⟩ ((hr4 g).2 q q0 (by omega)))]
  exact loop2_ 0 (by omega) (by omega) (fun j j0 j1 => by omega)
