/-! The bodies of the model's clauses. -/
def MRn (f : Int → Int) (n : Int) (k pl nm : Int → Int) (tn b lo : Int) (s s1 l l1 : Nat → Int → Int) (r : rpR) (o : Int) : Prop := ∃ (y : rpS) (Q : List Int) (o' w' : Int), y.1 = r.2.1 ∧ MSt f n k pl nm tn b s1 l1 y Q o' w' ∧ (r.1 = 0 → y = r.2 ∧ o' = o) ∧ FN lo s s1 l l1
theorem rpB_as {r : rpR} {g h : rpS → rpR} : rpB (rpB r g) h = rpB r (fun y => rpB (g y) h) := by
  by_cases q : r.1 = 0
  · rw [show rpB r g = g r.2 from if_pos q, show rpB r (fun y => rpB (g y) h) = rpB (g r.2) h from if_pos q]
  · rw [rpB_n (r := r) q, rpB_n (r := r) q, rpB_n (r := r) q]
theorem rpF_Fig {k nm : Int → Int} {lo hi : Int} {z : rpS} : rpF (rcFig k nm lo hi z) := by
  unfold rcFig
  (repeat' split) <;> exact rpF_c (by decide)
theorem rpF_Wd {k : Int → Int} {q : Int} {z : rpS} : rpF (rcWd k q z) := by
  unfold rcWd
  split <;> exact rpF_c (by decide)
theorem pc_193 {d L t : Nat} {s l : Nat → Int → Int} {f : Int → Int} {n : Int} {kd k pl nm : Int → Int} {tn b : Int} {z : rpS} {P : List Int} {o w : Int} (hG : GTX f n kd k pl nm tn) (h : MSt f n k pl nm tn b s l z P o w) (b0 : 0 ≤ b ∧ b ≤ 2115) {a9 : Int} (ha9 : b + 1 ≤ a9 ∧ a9 + 3 < b + 97) {r : rpR} (hr : rpB (rcFig k nm 0 9 z) (fun y => rpB (rcWd k 25 y) (fun x => rpB (rcFig k nm 0 2 x) (fun u => rpB (rcWd k 24 u) (rcFig k nm 0 9)))) = r) : ∃ s1 l1, mm_Ev mm_ct mm_CM (d + 6) 193 [.ref 598, .int (iI a9)] (MX L t s l) (some (.int (iI r.1)), MX L t s1 l1) ∧ MSt f n k pl nm tn b s1 l1 r.2 P o w ∧ FN (a9 + 1) s s1 l l1 ∧ (r.1 = 0 → s1 601 (a9 + 1) = nm z.1 ∧ s1 601 (a9 + 2) = nm (z.1 + 2) ∧ s1 601 (a9 + 3) = nm (z.1 + 4)) := by
  have hc : (mm_CM 193).2.2.2.2.2.2.2 = mm_cf cd_193 := by rw [cm_193]; rfl
  refine ev_xsl ?_
  refine ev_to (mx := 3) (by rw [cm_193]; decide) (by rw [cm_193]; rfl) (by show 2 ≤ _; decide) ?_
  show mm_wp _ _ (0, [some (.ref 598), some (.int (iI a9)), none], [], MX L t s l) (fun res => ∃ s1 l1, res = (some (.int (iI r.1)), MX L t s1 l1) ∧ MSt f n k pl nm tn b s1 l1 r.2 P o w ∧ FN (a9 + 1) s s1 l l1 ∧ (r.1 = 0 → s1 601 (a9 + 1) = nm z.1 ∧ s1 601 (a9 + 2) = nm (z.1 + 2) ∧ s1 601 (a9 + 3) = nm (z.1 + 4)))
  have htn := hG.2.2.2.1
  have hz1 := h.2.1.1
  have hk43 := GTX_43 hG
  refine wi_a1 hc rfl rfl ?_
  refine wi_i1 hc rfl rfl ?_
  refine wi_ic hc rfl ?_
  refine wi_add hc rfl ?_
  refine wi_ic hc rfl ?_
  refine wi_bi hc rfl rfl ?_
  obtain ⟨f1_, y1_, hy1_⟩ : ∃ f y, rcFig k nm 0 9 z = (f, y) := ⟨_, _, rfl⟩
  have hr1_ : rpF (f1_, y1_) := hy1_ ▸ rpF_Fig
  have hr11_ : 0 ≤ f1_ := hr1_.1
  have hr21_ : f1_ ≤ 5 := hr1_.2
  obtain ⟨s1_, l1_, hE1_, hM1_, hF1_, hN1_⟩ := fg_188 (d := 0) (L := L) (t := t) hG h b0 (ix := a9 + 1) ⟨by omega, by omega⟩ (lo := 0) ⟨by decide, by decide⟩ (hi := 9) ⟨by decide, by decide⟩ hy1_
  refine wp_cv (b := 598) (As := [.int (iI (a9 + 1)), .int (iI 0), .int (iI 9)]) (r := []) hc rfl (by rw [cm_188]; rfl) rfl (Nat.le_of_ble_eq_true rfl) (show 598 < 621 by decide) (by rw [cm_188]; rfl) (ev_mono hE1_ (by omega)) ?_
  have hM1_ : MSt f n k pl nm tn b s1_ l1_ y1_ P o w := hM1_
  have hFF1_ : FN (a9 + 1) s s1_ l l1_ := FN.rf.tr hF1_ (by omega)
  show mm_wp _ _ (10, [some (.ref 598), some (.int (iI a9)), none], [.int (iI f1_)], MX L t s1_ l1_) _
  refine wi_is1 (L' := [some (.ref 598), some (.int (iI a9)), some (.int (iI f1_))]) hc rfl (Nat.le_of_ble_eq_true rfl) rfl ?_
  refine wi_i1 hc rfl rfl ?_
  refine wi_zne hc rfl ⟨by omega, by omega⟩ (fun h1_ => ?_) (fun h1_ => ?_)
  · skip
    refine wi_i1 hc rfl rfl ?_
    refine wi_zeq hc rfl ⟨by omega, by omega⟩ (fun h2_ => (by exfalso; omega)) (fun h2_ => ?_)
    refine wi_i1 hc rfl rfl ?_
    refine wi_go hc rfl ?_
    refine wi_ri hc rfl (by rw [cm_193]; rfl) ?_
    have hrr : rpB (rcFig k nm 0 9 z) (fun y => rpB (rpB (rcWd k 25 y) (rcFig k nm 0 2)) (fun u => rpB (rcWd k 24 u) (rcFig k nm 0 9))) = r := by rw [← hr]; exact congrArg (rpB _) (funext fun y => rpB_as)
    have hr9 : r = (f1_, y1_) := by
      rw [← hrr]
      rw [hy1_, rpB_n (r := (f1_, y1_)) h1_]
    subst hr9
    exact ⟨s1_, l1_, rfl, hM1_, hFF1_, fun e => absurd e h1_⟩
  · have e9 : f1_ = 0 := h1_
    subst e9
    refine wi_a1 hc rfl rfl ?_
    refine wi_bi hc rfl rfl ?_
    refine wi_bi hc rfl rfl ?_
    refine wi_i1 hc rfl rfl ?_
    refine wi_ic hc rfl ?_
    refine wi_add hc rfl ?_
    refine wi_ic hc rfl ?_
    obtain ⟨f2_, y2_, hy2_⟩ : ∃ f y, rpB (rcWd k 25 y1_) (rcFig k nm 0 2) = (f, y) := ⟨_, _, rfl⟩
    have hr2_ : rpF (f2_, y2_) := hy2_ ▸ (rpF_B rpF_Wd (fun _ => rpF_Fig))
    have hr12_ : 0 ≤ f2_ := hr2_.1
    have hr22_ : f2_ ≤ 5 := hr2_.2
    obtain ⟨s2_, l2_, hE2_, hM2_, hF2_, hN2_⟩ := wd_189_25 (d := 0) (L := L) (t := t) hG hM1_ b0 (ix := a9 + 2) ⟨by omega, by omega⟩ (hi := 2) ⟨by decide, by decide⟩ hy2_
    refine wp_cv (b := 598) (As := [.int (iI 111), .int (iI 110), .int (iI (a9 + 2)), .int (iI 2)]) (r := []) hc rfl (by rw [cm_189]; rfl) rfl (Nat.le_of_ble_eq_true rfl) (show 598 < 621 by decide) (by rw [cm_189]; rfl) (ev_mono hE2_ (by omega)) ?_
    have hM2_ : MSt f n k pl nm tn b s2_ l2_ y2_ P o w := hM2_
    have hFF2_ : FN (a9 + 1) s s2_ l l2_ := hFF1_.tr hF2_ (by omega)
    show mm_wp _ _ (27, [some (.ref 598), some (.int (iI a9)), some (.int (iI 0))], [.int (iI f2_)], MX L t s2_ l2_) _
    refine wi_is1 (L' := [some (.ref 598), some (.int (iI a9)), some (.int (iI f2_))]) hc rfl (Nat.le_of_ble_eq_true rfl) rfl ?_
    refine wi_i1 hc rfl rfl ?_
    refine wi_zeq hc rfl ⟨by omega, by omega⟩ (fun h3_ => ?_) (fun h3_ => ?_)
    · have e9 : f2_ = 0 := h3_
      subst e9
      refine wi_a1 hc rfl rfl ?_
      refine wi_bi hc rfl rfl ?_
      refine wi_bi hc rfl rfl ?_
      refine wi_i1 hc rfl rfl ?_
      refine wi_ic hc rfl ?_
      refine wi_add hc rfl ?_
      refine wi_bi hc rfl rfl ?_
      obtain ⟨f3_, y3_, hy3_⟩ : ∃ f y, rpB (rcWd k 24 y2_) (rcFig k nm 0 9) = (f, y) := ⟨_, _, rfl⟩
      have hr3_ : rpF (f3_, y3_) := hy3_ ▸ (rpF_B rpF_Wd (fun _ => rpF_Fig))
      have hr13_ : 0 ≤ f3_ := hr3_.1
      have hr23_ : f3_ ≤ 5 := hr3_.2
      obtain ⟨s3_, l3_, hE3_, hM3_, hF3_, hN3_⟩ := wd_189_24 (d := 0) (L := L) (t := t) hG hM2_ b0 (ix := a9 + 3) ⟨by omega, by omega⟩ (hi := 9) ⟨by decide, by decide⟩ hy3_
      refine wp_cv (b := 598) (As := [.int (iI 97), .int (iI 116), .int (iI (a9 + 3)), .int (iI 9)]) (r := []) hc rfl (by rw [cm_189]; rfl) rfl (Nat.le_of_ble_eq_true rfl) (show 598 < 621 by decide) (by rw [cm_189]; rfl) (ev_mono hE3_ (by omega)) ?_
      have hM3_ : MSt f n k pl nm tn b s3_ l3_ y3_ P o w := hM3_
      have hFF3_ : FN (a9 + 1) s s3_ l l3_ := hFF2_.tr hF3_ (by omega)
      show mm_wp _ _ (49, [some (.ref 598), some (.int (iI a9)), some (.int (iI 0))], [.int (iI f3_)], MX L t s3_ l3_) _
      refine wi_ri hc rfl (by rw [cm_193]; rfl) ?_
      have hrr : rpB (rcFig k nm 0 9 z) (fun y => rpB (rpB (rcWd k 25 y) (rcFig k nm 0 2)) (fun u => rpB (rcWd k 24 u) (rcFig k nm 0 9))) = r := by rw [← hr]; exact congrArg (rpB _) (funext fun y => rpB_as)
      have hr9 : r = (f3_, y3_) := by
        rw [← hrr]
        rw [hy1_, rpB_z]
        rw [hy2_, rpB_z]
        exact hy3_
      subst hr9
      have p1 : y1_ = rpNx z := (rcFig_K hk43 hy1_).2.1
      have p2 : y2_.1 = z.1 + 3 := by
        obtain ⟨u, h1, h2⟩ := rpB_0 hy2_
        rw [(rcFig_K hk43 h2).2.1, (rcWd_K hk43 (by decide) h1).2, p1]
        show z.1 + 1 + 1 + 1 = z.1 + 3; omega
      refine ⟨s3_, l3_, rfl, hM3_, hFF3_, fun e => ⟨((hF3_.2.2.1 _ (by omega)).trans (((hF2_.2.2.1 _ (by omega)).trans ((hN1_ rfl))))), ?_, ?_⟩⟩
      · rw [show z.1 + 2 = y1_.1 + 1 by rw [p1]; show z.1 + 2 = z.1 + 1 + 1; omega]; exact ((hF3_.2.2.1 _ (by omega)).trans ((hN2_ rfl)))
      · rw [show z.1 + 4 = y2_.1 + 1 by omega]; exact hN3_ e
    · skip
      refine wi_i1 hc rfl rfl ?_
      refine wi_go hc rfl ?_
      refine wi_ri hc rfl (by rw [cm_193]; rfl) ?_
      have hrr : rpB (rcFig k nm 0 9 z) (fun y => rpB (rpB (rcWd k 25 y) (rcFig k nm 0 2)) (fun u => rpB (rcWd k 24 u) (rcFig k nm 0 9))) = r := by rw [← hr]; exact congrArg (rpB _) (funext fun y => rpB_as)
      have hr9 : r = (f2_, y2_) := by
        rw [← hrr]
        rw [hy1_, rpB_z]
        rw [hy2_, rpB_n (r := (f2_, y2_)) h3_]
      subst hr9
      exact ⟨s2_, l2_, rfl, hM2_, hFF2_, fun e => absurd e h3_⟩
section MRN
variable {f : Int → Int} {n : Int} {k pl nm : Int → Int} {tn b : Int} {s s1 s2 l l1 l2 : Nat → Int → Int} {r : rpR} {o lo c v ix : Int}
/-- the end's count is written behind a reading -/
theorem MRs.wr (h : MRs f n k pl nm tn b c s s1 l l1 r o) (hc : 0 ≤ c) (hlo : lo ≤ ix) (hi : ix < b + 97) (e : s2 = up s1 601 ix v) : MRn f n k pl nm tn b lo s s2 l l1 r o := by
  obtain ⟨y, Q, o', w', h1, h2, h3, h4⟩ := h
  refine ⟨y, Q, o', w', h1, by rw [e]; exact h2.nw hi, h3, (h4.fn9 (by omega)).tr (by rw [e]; exact FN.wr hlo) (Int.le_refl _)⟩
theorem MRn.tr0 {lo' : Int} (h : MRn f n k pl nm tn b lo' s1 s2 l1 l2 r o) (g : FN lo s s1 l l1) (hl : lo ≤ lo') : MRn f n k pl nm tn b lo s s2 l l2 r o := by
  obtain ⟨y, Q, o', w', h1, h2, h3, h4⟩ := h
  exact ⟨y, Q, o', w', h1, h2, h3, g.tr h4 hl⟩
end MRN
theorem sc_192_1 {d L t : Nat} {s l : Nat → Int → Int} {f : Int → Int} {n : Int} {kd k pl nm : Int → Int} {tn b : Int} {z : rpS} {P : List Int} {w : Int} (hG : GTX f n kd k pl nm tn) (h : MSt f n k pl nm tn b s l z P 0 w) (b0 : 0 ≤ b ∧ b ≤ 2115) (hI : 0 ≤ z.2.2 ∧ z.2.2 ≤ z.1) {a9 : Int} (ha9 : b + 1 ≤ a9 ∧ a9 + 3 < b + 97) (hs9 : s 598 20 = 1) {r : rpR} (hr : rpEi k nm 16 301 false false z = r) : ∃ s1 l1, mm_Ev mm_ct mm_CM (d + 10) 192 [.ref 598, .int (iI 1), .int (iI a9)] (MX L t s l) (some (.int (iI r.1)), MX L t s1 l1) ∧ MRn f n k pl nm tn b (a9 + 1) s s1 l l1 r 0 ∧ (r.1 = 0 → s1 601 (a9 + 2) = z.2.2 ∧ s1 601 (a9 + 3) = r.2.2.2) := by
  have hc : (mm_CM 192).2.2.2.2.2.2.2 = mm_cf cd_192 := by rw [cm_192]; rfl
  refine ev_xsl ?_
  refine ev_to (mx := 4) (by rw [cm_192]; decide) (by rw [cm_192]; rfl) (by show 3 ≤ _; decide) ?_
  show mm_wp _ _ (0, [some (.ref 598), some (.int (iI 1)), some (.int (iI a9)), none], [], MX L t s l) (fun res => ∃ s1 l1, res = (some (.int (iI r.1)), MX L t s1 l1) ∧ MRn f n k pl nm tn b (a9 + 1) s s1 l l1 r 0 ∧ (r.1 = 0 → s1 601 (a9 + 2) = z.2.2 ∧ s1 601 (a9 + 3) = r.2.2.2))
  have htn := hG.2.2.2.1
  have hz1 := h.2.1.1
  have hk43 := GTX_43 hG
  refine wi_a1 hc rfl rfl ?_
  refine wi_gr (w := 601) hc rfl rfl (by decide) (Nat.le_of_ble_eq_true rfl) rfl ?_
  refine wi_i1 hc rfl rfl ?_
  refine wi_ic hc rfl ?_
  refine wi_add hc rfl ?_
  refine wi_a1 hc rfl rfl ?_
  refine wi_gfv (kz := 14) rfl hc rfl rfl (by decide) (Nat.le_of_ble_eq_true rfl) rfl (v := z.2.2) (MSt.rc h) ?_
  refine wi_ist (N := 2820) hc rfl rfl (by decide) (by decide) (by omega) (by omega) ?_
  obtain ⟨s1_, es1_⟩ : ∃ q, q = up s 601 (a9 + 2) z.2.2 := ⟨_, rfl⟩
  rw [← es1_]
  refine wi_i1 hc rfl rfl ?_
  refine wi_ic hc rfl ?_
  refine wi_cne hc rfl ⟨by decide, by decide⟩ ⟨by decide, by decide⟩ (fun _ => ?_) (fun q => absurd q (by decide))
  refine wi_a1 hc rfl rfl ?_
  have hMw : MSt f n k pl nm tn b s1_ l z P 0 w := by rw [es1_]; exact h.nw (by omega)
  have hFw : FN (a9 + 2) s s1_ l l := by rw [es1_]; exact FN.wr (Int.le_refl _)
  obtain ⟨f1, y1, hy1⟩ : ∃ f y, rpEi k nm 16 301 false false z = (f, y) := ⟨_, _, rfl⟩
  obtain ⟨sx, lx, hEx, hRx⟩ := sp_186 (d := 0) (L := L) (t := t) (c := z.2.2) hG hMw b0 (so := 1) (by rw [es1_, up_cc (by decide)]; exact hs9) ⟨by decide, by decide⟩ hI (Int.le_refl _) hy1
  refine wp_cv (b := 598) (As := []) (r := []) hc rfl (by rw [cm_186]; rfl) rfl (Nat.le_of_ble_eq_true rfl) (show 598 < 621 by decide) (by rw [cm_186]; rfl) (ev_mono hEx (by omega)) ?_
  obtain ⟨yx, Qx, ox, wx, hx1, hx2, hx3, hx4⟩ := id hRx
  show mm_wp _ _ (28, [some (.ref 598), some (.int (iI 1)), some (.int (iI a9)), none], [.int (iI f1)], MX L t sx lx) _
  refine wi_is1 (L' := [some (.ref 598), some (.int (iI 1)), some (.int (iI a9)), some (.int (iI f1))]) hc rfl (Nat.le_of_ble_eq_true rfl) rfl ?_
  refine wi_a1 hc rfl rfl ?_
  refine wi_gr (w := 601) hc rfl rfl (by decide) (Nat.le_of_ble_eq_true rfl) rfl ?_
  refine wi_i1 hc rfl rfl ?_
  refine wi_ic hc rfl ?_
  refine wi_add hc rfl ?_
  refine wi_a1 hc rfl rfl ?_
  refine wi_gfv (kz := 14) rfl hc rfl rfl (by decide) (Nat.le_of_ble_eq_true rfl) rfl (v := yx.2.2) (MSt.rc hx2) ?_
  refine wi_ist (N := 2820) hc rfl rfl (by decide) (by decide) (by omega) (by omega) ?_
  obtain ⟨s2_, es2_⟩ : ∃ q, q = up sx 601 (a9 + 3) yx.2.2 := ⟨_, rfl⟩
  rw [← es2_]
  refine wi_i1 hc rfl rfl ?_
  refine wi_ri hc rfl (by rw [cm_192]; rfl) ?_
  have hr9 : r = (f1, y1) := by rw [← hr]; exact hy1
  subst hr9
  refine ⟨s2_, lx, rfl, (hRx.wr hI.1 (lo := a9 + 2) (by omega) (by omega) es2_).tr0 (hFw.lo9 (by omega : a9 + 1 ≤ a9 + 2)) (by omega), fun e9 => ⟨?_, ?_⟩⟩
  · rw [es2_, up_k (by omega), hx4.2.2.1 _ (by omega), es1_, up_at]
  · rw [es2_, up_at, (hx3 e9).1]
theorem sc_192_2 {d L t : Nat} {s l : Nat → Int → Int} {f : Int → Int} {n : Int} {kd k pl nm : Int → Int} {tn b : Int} {z : rpS} {P : List Int} {w : Int} (hG : GTX f n kd k pl nm tn) (h : MSt f n k pl nm tn b s l z P 0 w) (b0 : 0 ≤ b ∧ b ≤ 2115) (hI : 0 ≤ z.2.2 ∧ z.2.2 ≤ z.1) {a9 : Int} (ha9 : b + 1 ≤ a9 ∧ a9 + 3 < b + 97) (hs9 : s 598 20 = 2) {r : rpR} (hr : rpSum k (rpOne k nm 17 8) z = r) : ∃ s1 l1, mm_Ev mm_ct mm_CM (d + 10) 192 [.ref 598, .int (iI 2), .int (iI a9)] (MX L t s l) (some (.int (iI r.1)), MX L t s1 l1) ∧ MRn f n k pl nm tn b (a9 + 1) s s1 l l1 r 0 ∧ (r.1 = 0 → s1 601 (a9 + 2) = z.2.2 ∧ s1 601 (a9 + 3) = r.2.2.2) := by
  have hc : (mm_CM 192).2.2.2.2.2.2.2 = mm_cf cd_192 := by rw [cm_192]; rfl
  refine ev_xsl ?_
  refine ev_to (mx := 4) (by rw [cm_192]; decide) (by rw [cm_192]; rfl) (by show 3 ≤ _; decide) ?_
  show mm_wp _ _ (0, [some (.ref 598), some (.int (iI 2)), some (.int (iI a9)), none], [], MX L t s l) (fun res => ∃ s1 l1, res = (some (.int (iI r.1)), MX L t s1 l1) ∧ MRn f n k pl nm tn b (a9 + 1) s s1 l l1 r 0 ∧ (r.1 = 0 → s1 601 (a9 + 2) = z.2.2 ∧ s1 601 (a9 + 3) = r.2.2.2))
  have htn := hG.2.2.2.1
  have hz1 := h.2.1.1
  have hk43 := GTX_43 hG
  refine wi_a1 hc rfl rfl ?_
  refine wi_gr (w := 601) hc rfl rfl (by decide) (Nat.le_of_ble_eq_true rfl) rfl ?_
  refine wi_i1 hc rfl rfl ?_
  refine wi_ic hc rfl ?_
  refine wi_add hc rfl ?_
  refine wi_a1 hc rfl rfl ?_
  refine wi_gfv (kz := 14) rfl hc rfl rfl (by decide) (Nat.le_of_ble_eq_true rfl) rfl (v := z.2.2) (MSt.rc h) ?_
  refine wi_ist (N := 2820) hc rfl rfl (by decide) (by decide) (by omega) (by omega) ?_
  obtain ⟨s1_, es1_⟩ : ∃ q, q = up s 601 (a9 + 2) z.2.2 := ⟨_, rfl⟩
  rw [← es1_]
  refine wi_i1 hc rfl rfl ?_
  refine wi_ic hc rfl ?_
  refine wi_cne hc rfl ⟨by decide, by decide⟩ ⟨by decide, by decide⟩ (fun q => absurd q (by decide)) (fun _ => ?_)
  refine wi_a1 hc rfl rfl ?_
  have hMw : MSt f n k pl nm tn b s1_ l z P 0 w := by rw [es1_]; exact h.nw (by omega)
  have hFw : FN (a9 + 2) s s1_ l l := by rw [es1_]; exact FN.wr (Int.le_refl _)
  obtain ⟨f1, y1, hy1⟩ : ∃ f y, rpSum k (rpOne k nm 17 8) z = (f, y) := ⟨_, _, rfl⟩
  obtain ⟨sx, lx, hEx, hRx⟩ := su_183 (d := 0) (L := L) (t := t) (c := z.2.2) hG (m := 8) (by decide) hMw b0 (so := 2) (by rw [es1_, up_cc (by decide)]; exact hs9) ⟨by decide, by decide⟩ hI (Int.le_refl _) hy1
  refine wp_cv (b := 598) (As := []) (r := []) hc rfl (by rw [cm_183]; rfl) rfl (Nat.le_of_ble_eq_true rfl) (show 598 < 621 by decide) (by rw [cm_183]; rfl) (ev_mono hEx (by omega)) ?_
  obtain ⟨yx, Qx, ox, wx, hx1, hx2, hx3, hx4⟩ := id hRx
  show mm_wp _ _ (21, [some (.ref 598), some (.int (iI 2)), some (.int (iI a9)), none], [.int (iI f1)], MX L t sx lx) _
  refine wi_go hc rfl ?_
  refine wi_is1 (L' := [some (.ref 598), some (.int (iI 2)), some (.int (iI a9)), some (.int (iI f1))]) hc rfl (Nat.le_of_ble_eq_true rfl) rfl ?_
  refine wi_a1 hc rfl rfl ?_
  refine wi_gr (w := 601) hc rfl rfl (by decide) (Nat.le_of_ble_eq_true rfl) rfl ?_
  refine wi_i1 hc rfl rfl ?_
  refine wi_ic hc rfl ?_
  refine wi_add hc rfl ?_
  refine wi_a1 hc rfl rfl ?_
  refine wi_gfv (kz := 14) rfl hc rfl rfl (by decide) (Nat.le_of_ble_eq_true rfl) rfl (v := yx.2.2) (MSt.rc hx2) ?_
  refine wi_ist (N := 2820) hc rfl rfl (by decide) (by decide) (by omega) (by omega) ?_
  obtain ⟨s2_, es2_⟩ : ∃ q, q = up sx 601 (a9 + 3) yx.2.2 := ⟨_, rfl⟩
  rw [← es2_]
  refine wi_i1 hc rfl rfl ?_
  refine wi_ri hc rfl (by rw [cm_192]; rfl) ?_
  have hr9 : r = (f1, y1) := by rw [← hr]; exact hy1
  subst hr9
  refine ⟨s2_, lx, rfl, (hRx.wr hI.1 (lo := a9 + 2) (by omega) (by omega) es2_).tr0 (hFw.lo9 (by omega : a9 + 1 ≤ a9 + 2)) (by omega), fun e9 => ⟨?_, ?_⟩⟩
  · rw [es2_, up_k (by omega), hx4.2.2.1 _ (by omega), es1_, up_at]
  · rw [es2_, up_at, (hx3 e9).1]
theorem lc_191 {d L t : Nat} {s l : Nat → Int → Int} {f : Int → Int} {n : Int} {kd k pl nm : Int → Int} {tn b : Int} {z : rpS} {P : List Int} {w : Int} (hG : GTX f n kd k pl nm tn) (h : MSt f n k pl nm tn b s l z P 0 w) (b0 : 0 ≤ b ∧ b ≤ 2115) (hI : 0 ≤ z.2.2 ∧ z.2.2 ≤ z.1) {a9 : Int} (ha9 : b + 1 ≤ a9 ∧ a9 + 3 < b + 97) {G : Int → Int} (hGm : MG b (s 601) G) (hGb : ∀ q, 0 ≤ q → q < G 0 → 0 ≤ G (1 + 4 * q) ∧ G (1 + 4 * q) ≤ 9 ∧ (G (1 + 4 * q) = 0 → 0 ≤ G (2 + 4 * q) ∧ G (2 + 4 * q) ≤ 5)) (hs9 : s 598 20 = 0) {r : rpR} (hr : rcBody k nm G 0 z = r) : ∃ s1 l1, mm_Ev mm_ct mm_CM (d + 11) 191 [.ref 598, .int (iI a9)] (MX L t s l) (some (.int (iI r.1)), MX L t s1 l1) ∧ MRn f n k pl nm tn b (a9 + 1) s s1 l l1 r 0 ∧ (r.1 = 0 → s1 601 (a9 + 1) = nm z.1 ∧ s1 601 (a9 + 2) = z.2.2 ∧ s1 601 (a9 + 3) = r.2.2.2) := by
  have hc : (mm_CM 191).2.2.2.2.2.2.2 = mm_cf cd_191 := by rw [cm_191]; rfl
  refine ev_xsl ?_
  refine ev_to (mx := 3) (by rw [cm_191]; decide) (by rw [cm_191]; rfl) (by show 2 ≤ _; decide) ?_
  show mm_wp _ _ (0, [some (.ref 598), some (.int (iI a9)), none], [], MX L t s l) (fun res => ∃ s1 l1, res = (some (.int (iI r.1)), MX L t s1 l1) ∧ MRn f n k pl nm tn b (a9 + 1) s s1 l l1 r 0 ∧ (r.1 = 0 → s1 601 (a9 + 1) = nm z.1 ∧ s1 601 (a9 + 2) = z.2.2 ∧ s1 601 (a9 + 3) = r.2.2.2))
  have htn := hG.2.2.2.1
  have hz1 := h.2.1.1
  have hk43 := GTX_43 hG
  obtain ⟨q9, hq9⟩ : ∃ q9, s 598 9 = q9 := ⟨_, rfl⟩
  obtain ⟨u9, hu9⟩ : ∃ u9, s 598 10 = u9 := ⟨_, rfl⟩
  obtain ⟨w9, hw9⟩ : ∃ w9, l 598 11 = w9 := ⟨_, rfl⟩
  have hk9 := MSt.tk h
  rw [hq9, hu9, hw9] at hk9
  have ha9 := tkR_a hk9
  unfold tkA at ha9
  have hkr := hG.2.2.2.2.2.2 z.1
  refine wi_a1 hc rfl rfl ?_
  refine wi_gfv (kz := 9) rfl hc rfl rfl (by decide) (Nat.le_of_ble_eq_true rfl) rfl (v := q9) (hq9) ?_
  refine wi_ic hc rfl ?_
  refine wi_cne hc rfl ⟨by omega, by omega⟩ ⟨by decide, by decide⟩ (fun h1_ => ?_) (fun h1_ => ?_)
  · skip
    have hnh : k z.1 = 42 → nm z.1 ≤ 5 → ¬ 0 ≤ rcHas G 0 (nm z.1) := fun e => by exfalso; omega
    refine wi_a1 hc rfl rfl ?_
    refine wi_i1 hc rfl rfl ?_
    refine wi_ic hc rfl ?_
    refine wi_add hc rfl ?_
    refine wi_ic hc rfl ?_
    refine wi_ic hc rfl ?_
    obtain ⟨f1, y1, hy1⟩ : ∃ f y, rcFig k nm 0 5 z = (f, y) := ⟨_, _, rfl⟩
    have hr1 : rpF (f1, y1) := hy1 ▸ rpF_Fig
    have hr1a : 0 ≤ f1 := hr1.1
    have hr1b : f1 ≤ 5 := hr1.2
    obtain ⟨sf, lf, hEf, hMf, hFf, hNf⟩ := fg_188 (d := 0) (L := L) (t := t) hG h b0 (ix := a9 + 1) ⟨by omega, by omega⟩ (lo := 0) ⟨by decide, by decide⟩ (hi := 5) ⟨by decide, by decide⟩ hy1
    refine wp_cv (b := 598) (As := [.int (iI (a9 + 1)), .int (iI 0), .int (iI 5)]) (r := []) hc rfl (by rw [cm_188]; rfl) rfl (Nat.le_of_ble_eq_true rfl) (show 598 < 621 by decide) (by rw [cm_188]; rfl) (ev_mono hEf (by omega)) ?_
    have hMf : MSt f n k pl nm tn b sf lf y1 P 0 w := hMf
    show mm_wp _ _ (39, [some (.ref 598), some (.int (iI a9)), none], [.int (iI f1)], MX L t sf lf) _
    refine wi_is1 (L' := [some (.ref 598), some (.int (iI a9)), some (.int (iI f1))]) hc rfl (Nat.le_of_ble_eq_true rfl) rfl ?_
    refine wi_i1 hc rfl rfl ?_
    refine wi_zeq hc rfl ⟨by omega, by omega⟩ (fun h2_ => ?_) (fun h2_ => ?_)
    · have e9 : f1 = 0 := h2_
      subst e9
      obtain ⟨g1, g2, g3⟩ := rcFig_K hk43 hy1
      have hk42 : k z.1 = 42 := by
        unfold rcFig at hy1
        by_cases q : k z.1 = 42
        · exact q
        · rw [if_neg q] at hy1; cases hy1
      have hns := hnh hk42 g3.2
      have hyc : y1.2.2 = z.2.2 := by rw [g2]; rfl
      have hyp : y1.1 = z.1 + 1 := by rw [g2]; rfl
      refine wi_a1 hc rfl rfl ?_
      refine wi_gr (w := 601) hc rfl rfl (by decide) (Nat.le_of_ble_eq_true rfl) rfl ?_
      refine wi_i1 hc rfl rfl ?_
      refine wi_ic hc rfl ?_
      refine wi_add hc rfl ?_
      refine wi_a1 hc rfl rfl ?_
      refine wi_gfv (kz := 14) rfl hc rfl rfl (by decide) (Nat.le_of_ble_eq_true rfl) rfl (v := y1.2.2) (MSt.rc hMf) ?_
      refine wi_ist (N := 2820) hc rfl rfl (by decide) (by decide) (by omega) (by omega) ?_
      obtain ⟨s1_, es1_⟩ : ∃ q, q = up sf 601 (a9 + 2) y1.2.2 := ⟨_, rfl⟩
      rw [← es1_]
      refine wi_a1 hc rfl rfl ?_
      have hMw : MSt f n k pl nm tn b s1_ lf y1 P 0 w := by rw [es1_]; exact hMf.nw (by omega)
      have hFw : FN (a9 + 2) sf s1_ lf lf := by rw [es1_]; exact FN.wr (Int.le_refl _)
      obtain ⟨f2, y2, hy2⟩ : ∃ f y, rpEi k nm 15 301 false false y1 = (f, y) := ⟨_, _, rfl⟩
      obtain ⟨sx, lx, hEx, hRx⟩ := sp_186 (d := 0) (L := L) (t := t) (c := y1.2.2) hG hMw b0 (so := 0) (by rw [es1_, up_cc (by decide), hFf.2.1 20 (by decide) (by decide) (by decide)]; exact hs9) ⟨by decide, by decide⟩ ⟨by omega, by omega⟩ (Int.le_refl _) hy2
      refine wp_cv (b := 598) (As := []) (r := []) hc rfl (by rw [cm_186]; rfl) rfl (Nat.le_of_ble_eq_true rfl) (show 598 < 621 by decide) (by rw [cm_186]; rfl) (ev_mono hEx (by omega)) ?_
      obtain ⟨yx, Qx, ox, wx, hx1, hx2, hx3, hx4⟩ := id hRx
      show mm_wp _ _ (62, [some (.ref 598), some (.int (iI a9)), some (.int (iI 0))], [.int (iI f2)], MX L t sx lx) _
      refine wi_is1 (L' := [some (.ref 598), some (.int (iI a9)), some (.int (iI f2))]) hc rfl (Nat.le_of_ble_eq_true rfl) rfl ?_
      refine wi_a1 hc rfl rfl ?_
      refine wi_gr (w := 601) hc rfl rfl (by decide) (Nat.le_of_ble_eq_true rfl) rfl ?_
      refine wi_i1 hc rfl rfl ?_
      refine wi_ic hc rfl ?_
      refine wi_add hc rfl ?_
      refine wi_a1 hc rfl rfl ?_
      refine wi_gfv (kz := 14) rfl hc rfl rfl (by decide) (Nat.le_of_ble_eq_true rfl) rfl (v := yx.2.2) (MSt.rc hx2) ?_
      refine wi_ist (N := 2820) hc rfl rfl (by decide) (by decide) (by omega) (by omega) ?_
      obtain ⟨s2_, es2_⟩ : ∃ q, q = up sx 601 (a9 + 3) yx.2.2 := ⟨_, rfl⟩
      rw [← es2_]
      refine wi_i1 hc rfl rfl ?_
      refine wi_ri hc rfl (by rw [cm_191]; rfl) ?_
      have hr9 : r = (f2, y2) := by
        rw [← hr, rcBody, if_pos rfl, hy1, rpB_z, if_neg hns]
        exact hy2
      subst hr9
      refine ⟨s2_, lx, rfl, ((hRx.wr (by omega) (lo := a9 + 2) (by omega) (by omega) es2_).tr0 (hFw.lo9 (by omega : a9 + 1 ≤ a9 + 2)) (by omega)).tr0 hFf (Int.le_refl _), fun e9 => ⟨?_, ?_, ?_⟩⟩
      · rw [es2_, up_k (by omega), hx4.2.2.1 _ (by omega), es1_, up_k (by omega)]; exact hNf rfl
      · rw [es2_, up_k (by omega), hx4.2.2.1 _ (by omega), es1_, up_at]; exact hyc
      · rw [es2_, up_at, (hx3 e9).1]
    · skip
      refine wi_i1 hc rfl rfl ?_
      refine wi_ri hc rfl (by rw [cm_191]; rfl) ?_
      have hr9 : r = (f1, y1) := by
        rw [← hr, rcBody, if_pos rfl, hy1, rpB_n (r := (f1, y1)) h2_]
      subst hr9
      exact ⟨sf, lf, rfl, ⟨y1, P, 0, w, rfl, hMf, fun e => absurd e h2_, hFf⟩, fun e => absurd e h2_⟩
  · have hnn0 : 0 ≤ u9 ∧ u9 ≤ 2000000 := by
      have hk42 : k z.1 = 42 := by omega
      exact (tkR_n hk9 hk42).2.1
    refine wi_a1 hc rfl rfl ?_
    refine wi_gfv (kz := 10) rfl hc rfl rfl (by decide) (Nat.le_of_ble_eq_true rfl) rfl (v := u9) (hu9) ?_
    refine wi_bi hc rfl rfl ?_
    refine wi_cge hc rfl ⟨by omega, by omega⟩ ⟨by decide, by decide⟩ (fun h3_ => ?_) (fun h3_ => ?_)
    · skip
      have hnh : k z.1 = 42 → nm z.1 ≤ 5 → ¬ 0 ≤ rcHas G 0 (nm z.1) := fun e e2 => by have hnn := tkR_n hk9 e; have hmu := minI_spec u9 10000; exfalso; omega
      refine wi_a1 hc rfl rfl ?_
      refine wi_i1 hc rfl rfl ?_
      refine wi_ic hc rfl ?_
      refine wi_add hc rfl ?_
      refine wi_ic hc rfl ?_
      refine wi_ic hc rfl ?_
      obtain ⟨f1, y1, hy1⟩ : ∃ f y, rcFig k nm 0 5 z = (f, y) := ⟨_, _, rfl⟩
      have hr1 : rpF (f1, y1) := hy1 ▸ rpF_Fig
      have hr1a : 0 ≤ f1 := hr1.1
      have hr1b : f1 ≤ 5 := hr1.2
      obtain ⟨sf, lf, hEf, hMf, hFf, hNf⟩ := fg_188 (d := 0) (L := L) (t := t) hG h b0 (ix := a9 + 1) ⟨by omega, by omega⟩ (lo := 0) ⟨by decide, by decide⟩ (hi := 5) ⟨by decide, by decide⟩ hy1
      refine wp_cv (b := 598) (As := [.int (iI (a9 + 1)), .int (iI 0), .int (iI 5)]) (r := []) hc rfl (by rw [cm_188]; rfl) rfl (Nat.le_of_ble_eq_true rfl) (show 598 < 621 by decide) (by rw [cm_188]; rfl) (ev_mono hEf (by omega)) ?_
      have hMf : MSt f n k pl nm tn b sf lf y1 P 0 w := hMf
      show mm_wp _ _ (39, [some (.ref 598), some (.int (iI a9)), none], [.int (iI f1)], MX L t sf lf) _
      refine wi_is1 (L' := [some (.ref 598), some (.int (iI a9)), some (.int (iI f1))]) hc rfl (Nat.le_of_ble_eq_true rfl) rfl ?_
      refine wi_i1 hc rfl rfl ?_
      refine wi_zeq hc rfl ⟨by omega, by omega⟩ (fun h4_ => ?_) (fun h4_ => ?_)
      · have e9 : f1 = 0 := h4_
        subst e9
        obtain ⟨g1, g2, g3⟩ := rcFig_K hk43 hy1
        have hk42 : k z.1 = 42 := by
          unfold rcFig at hy1
          by_cases q : k z.1 = 42
          · exact q
          · rw [if_neg q] at hy1; cases hy1
        have hns := hnh hk42 g3.2
        have hyc : y1.2.2 = z.2.2 := by rw [g2]; rfl
        have hyp : y1.1 = z.1 + 1 := by rw [g2]; rfl
        refine wi_a1 hc rfl rfl ?_
        refine wi_gr (w := 601) hc rfl rfl (by decide) (Nat.le_of_ble_eq_true rfl) rfl ?_
        refine wi_i1 hc rfl rfl ?_
        refine wi_ic hc rfl ?_
        refine wi_add hc rfl ?_
        refine wi_a1 hc rfl rfl ?_
        refine wi_gfv (kz := 14) rfl hc rfl rfl (by decide) (Nat.le_of_ble_eq_true rfl) rfl (v := y1.2.2) (MSt.rc hMf) ?_
        refine wi_ist (N := 2820) hc rfl rfl (by decide) (by decide) (by omega) (by omega) ?_
        obtain ⟨s3_, es3_⟩ : ∃ q, q = up sf 601 (a9 + 2) y1.2.2 := ⟨_, rfl⟩
        rw [← es3_]
        refine wi_a1 hc rfl rfl ?_
        have hMw : MSt f n k pl nm tn b s3_ lf y1 P 0 w := by rw [es3_]; exact hMf.nw (by omega)
        have hFw : FN (a9 + 2) sf s3_ lf lf := by rw [es3_]; exact FN.wr (Int.le_refl _)
        obtain ⟨f2, y2, hy2⟩ : ∃ f y, rpEi k nm 15 301 false false y1 = (f, y) := ⟨_, _, rfl⟩
        obtain ⟨sx, lx, hEx, hRx⟩ := sp_186 (d := 0) (L := L) (t := t) (c := y1.2.2) hG hMw b0 (so := 0) (by rw [es3_, up_cc (by decide), hFf.2.1 20 (by decide) (by decide) (by decide)]; exact hs9) ⟨by decide, by decide⟩ ⟨by omega, by omega⟩ (Int.le_refl _) hy2
        refine wp_cv (b := 598) (As := []) (r := []) hc rfl (by rw [cm_186]; rfl) rfl (Nat.le_of_ble_eq_true rfl) (show 598 < 621 by decide) (by rw [cm_186]; rfl) (ev_mono hEx (by omega)) ?_
        obtain ⟨yx, Qx, ox, wx, hx1, hx2, hx3, hx4⟩ := id hRx
        show mm_wp _ _ (62, [some (.ref 598), some (.int (iI a9)), some (.int (iI 0))], [.int (iI f2)], MX L t sx lx) _
        refine wi_is1 (L' := [some (.ref 598), some (.int (iI a9)), some (.int (iI f2))]) hc rfl (Nat.le_of_ble_eq_true rfl) rfl ?_
        refine wi_a1 hc rfl rfl ?_
        refine wi_gr (w := 601) hc rfl rfl (by decide) (Nat.le_of_ble_eq_true rfl) rfl ?_
        refine wi_i1 hc rfl rfl ?_
        refine wi_ic hc rfl ?_
        refine wi_add hc rfl ?_
        refine wi_a1 hc rfl rfl ?_
        refine wi_gfv (kz := 14) rfl hc rfl rfl (by decide) (Nat.le_of_ble_eq_true rfl) rfl (v := yx.2.2) (MSt.rc hx2) ?_
        refine wi_ist (N := 2820) hc rfl rfl (by decide) (by decide) (by omega) (by omega) ?_
        obtain ⟨s4_, es4_⟩ : ∃ q, q = up sx 601 (a9 + 3) yx.2.2 := ⟨_, rfl⟩
        rw [← es4_]
        refine wi_i1 hc rfl rfl ?_
        refine wi_ri hc rfl (by rw [cm_191]; rfl) ?_
        have hr9 : r = (f2, y2) := by
          rw [← hr, rcBody, if_pos rfl, hy1, rpB_z, if_neg hns]
          exact hy2
        subst hr9
        refine ⟨s4_, lx, rfl, ((hRx.wr (by omega) (lo := a9 + 2) (by omega) (by omega) es4_).tr0 (hFw.lo9 (by omega : a9 + 1 ≤ a9 + 2)) (by omega)).tr0 hFf (Int.le_refl _), fun e9 => ⟨?_, ?_, ?_⟩⟩
        · rw [es4_, up_k (by omega), hx4.2.2.1 _ (by omega), es3_, up_k (by omega)]; exact hNf rfl
        · rw [es4_, up_k (by omega), hx4.2.2.1 _ (by omega), es3_, up_at]; exact hyc
        · rw [es4_, up_at, (hx3 e9).1]
      · skip
        refine wi_i1 hc rfl rfl ?_
        refine wi_ri hc rfl (by rw [cm_191]; rfl) ?_
        have hr9 : r = (f1, y1) := by
          rw [← hr, rcBody, if_pos rfl, hy1, rpB_n (r := (f1, y1)) h4_]
        subst hr9
        exact ⟨sf, lf, rfl, ⟨y1, P, 0, w, rfl, hMf, fun e => absurd e h4_, hFf⟩, fun e => absurd e h4_⟩
    · refine wi_a1 hc rfl rfl ?_
      refine wi_a1 hc rfl rfl ?_
      refine wi_gfv (kz := 10) rfl hc rfl rfl (by decide) (Nat.le_of_ble_eq_true rfl) rfl (v := u9) (hu9) ?_
      refine wp_cv (b := 598) (As := [.int (iI u9)]) (r := []) hc rfl (by rw [cm_190]; rfl) rfl (Nat.le_of_ble_eq_true rfl) (show 598 < 621 by decide) (by rw [cm_190]; rfl) (ev_mono (hl_190 (d := 0) (v := u9) (MSt.rb h) b0 hGm hGb ⟨by omega, by omega⟩) (by omega)) ?_
      show mm_wp _ _ (25, [some (.ref 598), some (.int (iI a9)), none], [.int (iI (bI (0 ≤ rcHas G 0 u9)))], MX L t s l) _
      refine wi_beq hc rfl (fun h5_ => ?_) (fun h5_ => ?_)
      · skip
        have hnh : k z.1 = 42 → nm z.1 ≤ 5 → ¬ 0 ≤ rcHas G 0 (nm z.1) := fun e e2 => by have hnn := tkR_n hk9 e; have hmu := minI_spec u9 10000; rw [show nm z.1 = u9 by omega]; exact h5_
        refine wi_a1 hc rfl rfl ?_
        refine wi_i1 hc rfl rfl ?_
        refine wi_ic hc rfl ?_
        refine wi_add hc rfl ?_
        refine wi_ic hc rfl ?_
        refine wi_ic hc rfl ?_
        obtain ⟨f1, y1, hy1⟩ : ∃ f y, rcFig k nm 0 5 z = (f, y) := ⟨_, _, rfl⟩
        have hr1 : rpF (f1, y1) := hy1 ▸ rpF_Fig
        have hr1a : 0 ≤ f1 := hr1.1
        have hr1b : f1 ≤ 5 := hr1.2
        obtain ⟨sf, lf, hEf, hMf, hFf, hNf⟩ := fg_188 (d := 0) (L := L) (t := t) hG h b0 (ix := a9 + 1) ⟨by omega, by omega⟩ (lo := 0) ⟨by decide, by decide⟩ (hi := 5) ⟨by decide, by decide⟩ hy1
        refine wp_cv (b := 598) (As := [.int (iI (a9 + 1)), .int (iI 0), .int (iI 5)]) (r := []) hc rfl (by rw [cm_188]; rfl) rfl (Nat.le_of_ble_eq_true rfl) (show 598 < 621 by decide) (by rw [cm_188]; rfl) (ev_mono hEf (by omega)) ?_
        have hMf : MSt f n k pl nm tn b sf lf y1 P 0 w := hMf
        show mm_wp _ _ (39, [some (.ref 598), some (.int (iI a9)), none], [.int (iI f1)], MX L t sf lf) _
        refine wi_is1 (L' := [some (.ref 598), some (.int (iI a9)), some (.int (iI f1))]) hc rfl (Nat.le_of_ble_eq_true rfl) rfl ?_
        refine wi_i1 hc rfl rfl ?_
        refine wi_zeq hc rfl ⟨by omega, by omega⟩ (fun h6_ => ?_) (fun h6_ => ?_)
        · have e9 : f1 = 0 := h6_
          subst e9
          obtain ⟨g1, g2, g3⟩ := rcFig_K hk43 hy1
          have hk42 : k z.1 = 42 := by
            unfold rcFig at hy1
            by_cases q : k z.1 = 42
            · exact q
            · rw [if_neg q] at hy1; cases hy1
          have hns := hnh hk42 g3.2
          have hyc : y1.2.2 = z.2.2 := by rw [g2]; rfl
          have hyp : y1.1 = z.1 + 1 := by rw [g2]; rfl
          refine wi_a1 hc rfl rfl ?_
          refine wi_gr (w := 601) hc rfl rfl (by decide) (Nat.le_of_ble_eq_true rfl) rfl ?_
          refine wi_i1 hc rfl rfl ?_
          refine wi_ic hc rfl ?_
          refine wi_add hc rfl ?_
          refine wi_a1 hc rfl rfl ?_
          refine wi_gfv (kz := 14) rfl hc rfl rfl (by decide) (Nat.le_of_ble_eq_true rfl) rfl (v := y1.2.2) (MSt.rc hMf) ?_
          refine wi_ist (N := 2820) hc rfl rfl (by decide) (by decide) (by omega) (by omega) ?_
          obtain ⟨s5_, es5_⟩ : ∃ q, q = up sf 601 (a9 + 2) y1.2.2 := ⟨_, rfl⟩
          rw [← es5_]
          refine wi_a1 hc rfl rfl ?_
          have hMw : MSt f n k pl nm tn b s5_ lf y1 P 0 w := by rw [es5_]; exact hMf.nw (by omega)
          have hFw : FN (a9 + 2) sf s5_ lf lf := by rw [es5_]; exact FN.wr (Int.le_refl _)
          obtain ⟨f2, y2, hy2⟩ : ∃ f y, rpEi k nm 15 301 false false y1 = (f, y) := ⟨_, _, rfl⟩
          obtain ⟨sx, lx, hEx, hRx⟩ := sp_186 (d := 0) (L := L) (t := t) (c := y1.2.2) hG hMw b0 (so := 0) (by rw [es5_, up_cc (by decide), hFf.2.1 20 (by decide) (by decide) (by decide)]; exact hs9) ⟨by decide, by decide⟩ ⟨by omega, by omega⟩ (Int.le_refl _) hy2
          refine wp_cv (b := 598) (As := []) (r := []) hc rfl (by rw [cm_186]; rfl) rfl (Nat.le_of_ble_eq_true rfl) (show 598 < 621 by decide) (by rw [cm_186]; rfl) (ev_mono hEx (by omega)) ?_
          obtain ⟨yx, Qx, ox, wx, hx1, hx2, hx3, hx4⟩ := id hRx
          show mm_wp _ _ (62, [some (.ref 598), some (.int (iI a9)), some (.int (iI 0))], [.int (iI f2)], MX L t sx lx) _
          refine wi_is1 (L' := [some (.ref 598), some (.int (iI a9)), some (.int (iI f2))]) hc rfl (Nat.le_of_ble_eq_true rfl) rfl ?_
          refine wi_a1 hc rfl rfl ?_
          refine wi_gr (w := 601) hc rfl rfl (by decide) (Nat.le_of_ble_eq_true rfl) rfl ?_
          refine wi_i1 hc rfl rfl ?_
          refine wi_ic hc rfl ?_
          refine wi_add hc rfl ?_
          refine wi_a1 hc rfl rfl ?_
          refine wi_gfv (kz := 14) rfl hc rfl rfl (by decide) (Nat.le_of_ble_eq_true rfl) rfl (v := yx.2.2) (MSt.rc hx2) ?_
          refine wi_ist (N := 2820) hc rfl rfl (by decide) (by decide) (by omega) (by omega) ?_
          obtain ⟨s6_, es6_⟩ : ∃ q, q = up sx 601 (a9 + 3) yx.2.2 := ⟨_, rfl⟩
          rw [← es6_]
          refine wi_i1 hc rfl rfl ?_
          refine wi_ri hc rfl (by rw [cm_191]; rfl) ?_
          have hr9 : r = (f2, y2) := by
            rw [← hr, rcBody, if_pos rfl, hy1, rpB_z, if_neg hns]
            exact hy2
          subst hr9
          refine ⟨s6_, lx, rfl, ((hRx.wr (by omega) (lo := a9 + 2) (by omega) (by omega) es6_).tr0 (hFw.lo9 (by omega : a9 + 1 ≤ a9 + 2)) (by omega)).tr0 hFf (Int.le_refl _), fun e9 => ⟨?_, ?_, ?_⟩⟩
          · rw [es6_, up_k (by omega), hx4.2.2.1 _ (by omega), es5_, up_k (by omega)]; exact hNf rfl
          · rw [es6_, up_k (by omega), hx4.2.2.1 _ (by omega), es5_, up_at]; exact hyc
          · rw [es6_, up_at, (hx3 e9).1]
        · skip
          refine wi_i1 hc rfl rfl ?_
          refine wi_ri hc rfl (by rw [cm_191]; rfl) ?_
          have hr9 : r = (f1, y1) := by
            rw [← hr, rcBody, if_pos rfl, hy1, rpB_n (r := (f1, y1)) h6_]
          subst hr9
          exact ⟨sf, lf, rfl, ⟨y1, P, 0, w, rfl, hMf, fun e => absurd e h6_, hFf⟩, fun e => absurd e h6_⟩
      · skip
        refine wi_ic hc rfl ?_
        refine wi_ri hc rfl (by rw [cm_191]; rfl) ?_
        have hnn := tkR_n hk9 (by omega)
        have hmu := minI_spec u9 10000
        have hr9 : r = (4, z) := by
          rw [← hr, rcBody, if_pos rfl, rcFig, if_pos (by omega), if_pos (by omega), rpB_z]
          exact if_pos (by rw [show nm z.1 = u9 by omega]; exact h5_)
        subst hr9
        exact ⟨s, l, rfl, ⟨z, P, 0, w, rfl, h, fun e => absurd (show (4 : Int) = 0 from e) (by decide), FN.rf⟩, fun e => absurd (show (4 : Int) = 0 from e) (by decide)⟩
/-- what a body wrote into the row -/
def NB (nm : Int → Int) (a9 so : Int) (z y : rpS) (T : Int → Int) : Prop := ((so = 0 ∨ (3 ≤ so ∧ so ≤ 7)) → T (a9 + 1) = nm z.1) ∧ ((so ≤ 2 ∨ so = 5 ∨ so = 7) → T (a9 + 2) = if so ≤ 2 then z.2.2 else nm (z.1 + 2)) ∧ ((so ≤ 2 ∨ so = 7) → T (a9 + 3) = if so ≤ 2 then y.2.2 else nm (z.1 + 4))
theorem bd_194_0 {d L t : Nat} {s l : Nat → Int → Int} {f : Int → Int} {n : Int} {kd k pl nm : Int → Int} {tn b : Int} {z : rpS} {P : List Int} {w : Int} (hG : GTX f n kd k pl nm tn) (h : MSt f n k pl nm tn b s l z P 0 w) (b0 : 0 ≤ b ∧ b ≤ 2115) (hI : 0 ≤ z.2.2 ∧ z.2.2 ≤ z.1) {a9 : Int} (ha9 : b + 1 ≤ a9 ∧ a9 + 3 < b + 97) {G : Int → Int} (hGm : MG b (s 601) G) (hGb : ∀ q, 0 ≤ q → q < G 0 → 0 ≤ G (1 + 4 * q) ∧ G (1 + 4 * q) ≤ 9 ∧ (G (1 + 4 * q) = 0 → 0 ≤ G (2 + 4 * q) ∧ G (2 + 4 * q) ≤ 5)) (hs9 : s 598 20 = 0) {r : rpR} (hr : rcBody k nm G 0 z = r) : ∃ s1 l1, mm_Ev mm_ct mm_CM (d + 12) 194 [.ref 598, .int (iI 0), .int (iI a9)] (MX L t s l) (some (.int (iI r.1)), MX L t s1 l1) ∧ MRn f n k pl nm tn b (a9 + 1) s s1 l l1 r 0 ∧ (r.1 = 0 → NB nm a9 0 z r.2 (s1 601)) := by
  have hc : (mm_CM 194).2.2.2.2.2.2.2 = mm_cf cd_194 := by rw [cm_194]; rfl
  refine ev_xsl ?_
  refine ev_to (mx := 4) (by rw [cm_194]; decide) (by rw [cm_194]; rfl) (by show 3 ≤ _; decide) ?_
  show mm_wp _ _ (0, [some (.ref 598), some (.int (iI 0)), some (.int (iI a9)), none], [], MX L t s l) (fun res => ∃ s1 l1, res = (some (.int (iI r.1)), MX L t s1 l1) ∧ MRn f n k pl nm tn b (a9 + 1) s s1 l l1 r 0 ∧ (r.1 = 0 → NB nm a9 0 z r.2 (s1 601)))
  have htn := hG.2.2.2.1
  have hz1 := h.2.1.1
  have hk43 := GTX_43 hG
  refine wi_i1 hc rfl rfl ?_
  refine wi_sw hc rfl ⟨by decide, by decide⟩ ?_
  show mm_wp _ _ (48, [some (.ref 598), some (.int (iI 0)), some (.int (iI a9)), none], [], MX L t s l) _
  refine wi_a1 hc rfl rfl ?_
  refine wi_i1 hc rfl rfl ?_
  obtain ⟨sq, lq, hEq, hRq, hNq⟩ := lc_191 (d := 0) (L := L) (t := t) hG h b0 hI ha9 hGm hGb hs9 hr
  refine wp_cv (b := 598) (As := [.int (iI a9)]) (r := []) hc rfl (by rw [cm_191]; rfl) rfl (Nat.le_of_ble_eq_true rfl) (show 598 < 621 by decide) (by rw [cm_191]; rfl) (ev_mono hEq (by omega)) ?_
  show mm_wp _ _ (53, [some (.ref 598), some (.int (iI 0)), some (.int (iI a9)), none], [.int (iI r.1)], MX L t sq lq) _
  refine wi_ri hc rfl (by rw [cm_194]; rfl) ?_
  exact ⟨sq, lq, rfl, hRq, fun e => ⟨fun _ => (hNq e).1, fun _ => by rw [if_pos (by decide)]; exact (hNq e).2.1, fun _ => by rw [if_pos (by decide)]; exact (hNq e).2.2⟩⟩
theorem bd_194_1 {d L t : Nat} {s l : Nat → Int → Int} {f : Int → Int} {n : Int} {kd k pl nm : Int → Int} {tn b : Int} {z : rpS} {P : List Int} {w : Int} (hG : GTX f n kd k pl nm tn) (h : MSt f n k pl nm tn b s l z P 0 w) (b0 : 0 ≤ b ∧ b ≤ 2115) (hI : 0 ≤ z.2.2 ∧ z.2.2 ≤ z.1) {a9 : Int} (ha9 : b + 1 ≤ a9 ∧ a9 + 3 < b + 97) {G : Int → Int} (hGm : MG b (s 601) G) (hGb : ∀ q, 0 ≤ q → q < G 0 → 0 ≤ G (1 + 4 * q) ∧ G (1 + 4 * q) ≤ 9 ∧ (G (1 + 4 * q) = 0 → 0 ≤ G (2 + 4 * q) ∧ G (2 + 4 * q) ≤ 5)) (hs9 : s 598 20 = 1) {r : rpR} (hr : rcBody k nm G 1 z = r) : ∃ s1 l1, mm_Ev mm_ct mm_CM (d + 12) 194 [.ref 598, .int (iI 1), .int (iI a9)] (MX L t s l) (some (.int (iI r.1)), MX L t s1 l1) ∧ MRn f n k pl nm tn b (a9 + 1) s s1 l l1 r 0 ∧ (r.1 = 0 → NB nm a9 1 z r.2 (s1 601)) := by
  have hc : (mm_CM 194).2.2.2.2.2.2.2 = mm_cf cd_194 := by rw [cm_194]; rfl
  refine ev_xsl ?_
  refine ev_to (mx := 4) (by rw [cm_194]; decide) (by rw [cm_194]; rfl) (by show 3 ≤ _; decide) ?_
  show mm_wp _ _ (0, [some (.ref 598), some (.int (iI 1)), some (.int (iI a9)), none], [], MX L t s l) (fun res => ∃ s1 l1, res = (some (.int (iI r.1)), MX L t s1 l1) ∧ MRn f n k pl nm tn b (a9 + 1) s s1 l l1 r 0 ∧ (r.1 = 0 → NB nm a9 1 z r.2 (s1 601)))
  have htn := hG.2.2.2.1
  have hz1 := h.2.1.1
  have hk43 := GTX_43 hG
  refine wi_i1 hc rfl rfl ?_
  refine wi_sw hc rfl ⟨by decide, by decide⟩ ?_
  show mm_wp _ _ (54, [some (.ref 598), some (.int (iI 1)), some (.int (iI a9)), none], [], MX L t s l) _
  refine wi_a1 hc rfl rfl ?_
  refine wi_i1 hc rfl rfl ?_
  refine wi_i1 hc rfl rfl ?_
  have hr0 : rpEi k nm 16 301 false false z = r := by rw [← hr, rcBody, if_neg (by decide), if_pos (by decide)]
  obtain ⟨sq, lq, hEq, hRq, hNq⟩ := sc_192_1 (d := 0) (L := L) (t := t) hG h b0 hI ha9 hs9 hr0
  refine wp_cv (b := 598) (As := [.int (iI 1), .int (iI a9)]) (r := []) hc rfl (by rw [cm_192]; rfl) rfl (Nat.le_of_ble_eq_true rfl) (show 598 < 621 by decide) (by rw [cm_192]; rfl) (ev_mono hEq (by omega)) ?_
  show mm_wp _ _ (60, [some (.ref 598), some (.int (iI 1)), some (.int (iI a9)), none], [.int (iI r.1)], MX L t sq lq) _
  refine wi_ri hc rfl (by rw [cm_194]; rfl) ?_
  exact ⟨sq, lq, rfl, hRq, fun e => ⟨(fun e => absurd e (by decide)), fun _ => by rw [if_pos (by decide)]; exact (hNq e).1, fun _ => by rw [if_pos (by decide)]; exact (hNq e).2⟩⟩
theorem bd_194_2 {d L t : Nat} {s l : Nat → Int → Int} {f : Int → Int} {n : Int} {kd k pl nm : Int → Int} {tn b : Int} {z : rpS} {P : List Int} {w : Int} (hG : GTX f n kd k pl nm tn) (h : MSt f n k pl nm tn b s l z P 0 w) (b0 : 0 ≤ b ∧ b ≤ 2115) (hI : 0 ≤ z.2.2 ∧ z.2.2 ≤ z.1) {a9 : Int} (ha9 : b + 1 ≤ a9 ∧ a9 + 3 < b + 97) {G : Int → Int} (hGm : MG b (s 601) G) (hGb : ∀ q, 0 ≤ q → q < G 0 → 0 ≤ G (1 + 4 * q) ∧ G (1 + 4 * q) ≤ 9 ∧ (G (1 + 4 * q) = 0 → 0 ≤ G (2 + 4 * q) ∧ G (2 + 4 * q) ≤ 5)) (hs9 : s 598 20 = 2) {r : rpR} (hr : rcBody k nm G 2 z = r) : ∃ s1 l1, mm_Ev mm_ct mm_CM (d + 12) 194 [.ref 598, .int (iI 2), .int (iI a9)] (MX L t s l) (some (.int (iI r.1)), MX L t s1 l1) ∧ MRn f n k pl nm tn b (a9 + 1) s s1 l l1 r 0 ∧ (r.1 = 0 → NB nm a9 2 z r.2 (s1 601)) := by
  have hc : (mm_CM 194).2.2.2.2.2.2.2 = mm_cf cd_194 := by rw [cm_194]; rfl
  refine ev_xsl ?_
  refine ev_to (mx := 4) (by rw [cm_194]; decide) (by rw [cm_194]; rfl) (by show 3 ≤ _; decide) ?_
  show mm_wp _ _ (0, [some (.ref 598), some (.int (iI 2)), some (.int (iI a9)), none], [], MX L t s l) (fun res => ∃ s1 l1, res = (some (.int (iI r.1)), MX L t s1 l1) ∧ MRn f n k pl nm tn b (a9 + 1) s s1 l l1 r 0 ∧ (r.1 = 0 → NB nm a9 2 z r.2 (s1 601)))
  have htn := hG.2.2.2.1
  have hz1 := h.2.1.1
  have hk43 := GTX_43 hG
  refine wi_i1 hc rfl rfl ?_
  refine wi_sw hc rfl ⟨by decide, by decide⟩ ?_
  show mm_wp _ _ (61, [some (.ref 598), some (.int (iI 2)), some (.int (iI a9)), none], [], MX L t s l) _
  refine wi_a1 hc rfl rfl ?_
  refine wi_i1 hc rfl rfl ?_
  refine wi_i1 hc rfl rfl ?_
  have hr0 : rpSum k (rpOne k nm 17 8) z = r := by rw [← hr, rcBody, if_neg (by decide), if_neg (by decide), if_pos (by decide)]
  obtain ⟨sq, lq, hEq, hRq, hNq⟩ := sc_192_2 (d := 0) (L := L) (t := t) hG h b0 hI ha9 hs9 hr0
  refine wp_cv (b := 598) (As := [.int (iI 2), .int (iI a9)]) (r := []) hc rfl (by rw [cm_192]; rfl) rfl (Nat.le_of_ble_eq_true rfl) (show 598 < 621 by decide) (by rw [cm_192]; rfl) (ev_mono hEq (by omega)) ?_
  show mm_wp _ _ (67, [some (.ref 598), some (.int (iI 2)), some (.int (iI a9)), none], [.int (iI r.1)], MX L t sq lq) _
  refine wi_ri hc rfl (by rw [cm_194]; rfl) ?_
  exact ⟨sq, lq, rfl, hRq, fun e => ⟨(fun e => absurd e (by decide)), fun _ => by rw [if_pos (by decide)]; exact (hNq e).1, fun _ => by rw [if_pos (by decide)]; exact (hNq e).2⟩⟩
theorem bd_194_3 {d L t : Nat} {s l : Nat → Int → Int} {f : Int → Int} {n : Int} {kd k pl nm : Int → Int} {tn b : Int} {z : rpS} {P : List Int} {w : Int} (hG : GTX f n kd k pl nm tn) (h : MSt f n k pl nm tn b s l z P 0 w) (b0 : 0 ≤ b ∧ b ≤ 2115) (hI : 0 ≤ z.2.2 ∧ z.2.2 ≤ z.1) {a9 : Int} (ha9 : b + 1 ≤ a9 ∧ a9 + 3 < b + 97) {G : Int → Int} (hGm : MG b (s 601) G) (hGb : ∀ q, 0 ≤ q → q < G 0 → 0 ≤ G (1 + 4 * q) ∧ G (1 + 4 * q) ≤ 9 ∧ (G (1 + 4 * q) = 0 → 0 ≤ G (2 + 4 * q) ∧ G (2 + 4 * q) ≤ 5)) {r : rpR} (hr : rcBody k nm G 3 z = r) : ∃ s1 l1, mm_Ev mm_ct mm_CM (d + 12) 194 [.ref 598, .int (iI 3), .int (iI a9)] (MX L t s l) (some (.int (iI r.1)), MX L t s1 l1) ∧ MRn f n k pl nm tn b (a9 + 1) s s1 l l1 r 0 ∧ (r.1 = 0 → NB nm a9 3 z r.2 (s1 601)) := by
  have hc : (mm_CM 194).2.2.2.2.2.2.2 = mm_cf cd_194 := by rw [cm_194]; rfl
  refine ev_xsl ?_
  refine ev_to (mx := 4) (by rw [cm_194]; decide) (by rw [cm_194]; rfl) (by show 3 ≤ _; decide) ?_
  show mm_wp _ _ (0, [some (.ref 598), some (.int (iI 3)), some (.int (iI a9)), none], [], MX L t s l) (fun res => ∃ s1 l1, res = (some (.int (iI r.1)), MX L t s1 l1) ∧ MRn f n k pl nm tn b (a9 + 1) s s1 l l1 r 0 ∧ (r.1 = 0 → NB nm a9 3 z r.2 (s1 601)))
  have htn := hG.2.2.2.1
  have hz1 := h.2.1.1
  have hk43 := GTX_43 hG
  refine wi_i1 hc rfl rfl ?_
  refine wi_sw hc rfl ⟨by decide, by decide⟩ ?_
  show mm_wp _ _ (68, [some (.ref 598), some (.int (iI 3)), some (.int (iI a9)), none], [], MX L t s l) _
  refine wi_a1 hc rfl rfl ?_
  refine wi_i1 hc rfl rfl ?_
  refine wi_ic hc rfl ?_
  refine wi_add hc rfl ?_
  refine wi_ic hc rfl ?_
  refine wi_ic hc rfl ?_
  obtain ⟨f1_, y1_, hy1_⟩ : ∃ f y, rcFig k nm 1 2 z = (f, y) := ⟨_, _, rfl⟩
  have hr1_ : rpF (f1_, y1_) := hy1_ ▸ rpF_Fig
  have hr11_ : 0 ≤ f1_ := hr1_.1
  have hr21_ : f1_ ≤ 5 := hr1_.2
  obtain ⟨s1_, l1_, hE1_, hM1_, hF1_, hN1_⟩ := fg_188 (d := 0) (L := L) (t := t) hG h b0 (ix := a9 + 1) ⟨by omega, by omega⟩ (lo := 1) ⟨by decide, by decide⟩ (hi := 2) ⟨by decide, by decide⟩ hy1_
  refine wp_cv (b := 598) (As := [.int (iI (a9 + 1)), .int (iI 1), .int (iI 2)]) (r := []) hc rfl (by rw [cm_188]; rfl) rfl (Nat.le_of_ble_eq_true rfl) (show 598 < 621 by decide) (by rw [cm_188]; rfl) (ev_mono hE1_ (by omega)) ?_
  have hM1_ : MSt f n k pl nm tn b s1_ l1_ y1_ P 0 w := hM1_
  have hFF1_ : FN (a9 + 1) s s1_ l l1_ := FN.rf.tr hF1_ (by omega)
  show mm_wp _ _ (77, [some (.ref 598), some (.int (iI 3)), some (.int (iI a9)), none], [.int (iI f1_)], MX L t s1_ l1_) _
  refine wi_ri hc rfl (by rw [cm_194]; rfl) ?_
  have hr9 : r = (f1_, y1_) := by
    rw [← hr, rcBody, if_neg (by decide), if_neg (by decide), if_neg (by decide), if_pos (by decide)]
    exact hy1_
  subst hr9
  exact ⟨s1_, l1_, rfl, ⟨y1_, P, 0, w, rfl, hM1_, fun _ => ⟨rfl, rfl⟩, hFF1_⟩, fun e => ⟨fun _ => hN1_ e, (fun e => absurd e (by decide)), (fun e => absurd e (by decide))⟩⟩
theorem bd_194_4 {d L t : Nat} {s l : Nat → Int → Int} {f : Int → Int} {n : Int} {kd k pl nm : Int → Int} {tn b : Int} {z : rpS} {P : List Int} {w : Int} (hG : GTX f n kd k pl nm tn) (h : MSt f n k pl nm tn b s l z P 0 w) (b0 : 0 ≤ b ∧ b ≤ 2115) (hI : 0 ≤ z.2.2 ∧ z.2.2 ≤ z.1) {a9 : Int} (ha9 : b + 1 ≤ a9 ∧ a9 + 3 < b + 97) {G : Int → Int} (hGm : MG b (s 601) G) (hGb : ∀ q, 0 ≤ q → q < G 0 → 0 ≤ G (1 + 4 * q) ∧ G (1 + 4 * q) ≤ 9 ∧ (G (1 + 4 * q) = 0 → 0 ≤ G (2 + 4 * q) ∧ G (2 + 4 * q) ≤ 5)) {r : rpR} (hr : rcBody k nm G 4 z = r) : ∃ s1 l1, mm_Ev mm_ct mm_CM (d + 12) 194 [.ref 598, .int (iI 4), .int (iI a9)] (MX L t s l) (some (.int (iI r.1)), MX L t s1 l1) ∧ MRn f n k pl nm tn b (a9 + 1) s s1 l l1 r 0 ∧ (r.1 = 0 → NB nm a9 4 z r.2 (s1 601)) := by
  have hc : (mm_CM 194).2.2.2.2.2.2.2 = mm_cf cd_194 := by rw [cm_194]; rfl
  refine ev_xsl ?_
  refine ev_to (mx := 4) (by rw [cm_194]; decide) (by rw [cm_194]; rfl) (by show 3 ≤ _; decide) ?_
  show mm_wp _ _ (0, [some (.ref 598), some (.int (iI 4)), some (.int (iI a9)), none], [], MX L t s l) (fun res => ∃ s1 l1, res = (some (.int (iI r.1)), MX L t s1 l1) ∧ MRn f n k pl nm tn b (a9 + 1) s s1 l l1 r 0 ∧ (r.1 = 0 → NB nm a9 4 z r.2 (s1 601)))
  have htn := hG.2.2.2.1
  have hz1 := h.2.1.1
  have hk43 := GTX_43 hG
  refine wi_i1 hc rfl rfl ?_
  refine wi_sw hc rfl ⟨by decide, by decide⟩ ?_
  show mm_wp _ _ (78, [some (.ref 598), some (.int (iI 4)), some (.int (iI a9)), none], [], MX L t s l) _
  refine wi_a1 hc rfl rfl ?_
  refine wi_i1 hc rfl rfl ?_
  refine wi_ic hc rfl ?_
  refine wi_add hc rfl ?_
  refine wi_ic hc rfl ?_
  refine wi_bi hc rfl rfl ?_
  obtain ⟨f1_, y1_, hy1_⟩ : ∃ f y, rcFig k nm 1 99 z = (f, y) := ⟨_, _, rfl⟩
  have hr1_ : rpF (f1_, y1_) := hy1_ ▸ rpF_Fig
  have hr11_ : 0 ≤ f1_ := hr1_.1
  have hr21_ : f1_ ≤ 5 := hr1_.2
  obtain ⟨s1_, l1_, hE1_, hM1_, hF1_, hN1_⟩ := fg_188 (d := 0) (L := L) (t := t) hG h b0 (ix := a9 + 1) ⟨by omega, by omega⟩ (lo := 1) ⟨by decide, by decide⟩ (hi := 99) ⟨by decide, by decide⟩ hy1_
  refine wp_cv (b := 598) (As := [.int (iI (a9 + 1)), .int (iI 1), .int (iI 99)]) (r := []) hc rfl (by rw [cm_188]; rfl) rfl (Nat.le_of_ble_eq_true rfl) (show 598 < 621 by decide) (by rw [cm_188]; rfl) (ev_mono hE1_ (by omega)) ?_
  have hM1_ : MSt f n k pl nm tn b s1_ l1_ y1_ P 0 w := hM1_
  have hFF1_ : FN (a9 + 1) s s1_ l l1_ := FN.rf.tr hF1_ (by omega)
  show mm_wp _ _ (88, [some (.ref 598), some (.int (iI 4)), some (.int (iI a9)), none], [.int (iI f1_)], MX L t s1_ l1_) _
  refine wi_ri hc rfl (by rw [cm_194]; rfl) ?_
  have hr9 : r = (f1_, y1_) := by
    rw [← hr, rcBody, if_neg (by decide), if_neg (by decide), if_neg (by decide), if_neg (by decide), if_pos (by decide)]
    exact hy1_
  subst hr9
  exact ⟨s1_, l1_, rfl, ⟨y1_, P, 0, w, rfl, hM1_, fun _ => ⟨rfl, rfl⟩, hFF1_⟩, fun e => ⟨fun _ => hN1_ e, (fun e => absurd e (by decide)), (fun e => absurd e (by decide))⟩⟩
theorem bd_194_5 {d L t : Nat} {s l : Nat → Int → Int} {f : Int → Int} {n : Int} {kd k pl nm : Int → Int} {tn b : Int} {z : rpS} {P : List Int} {w : Int} (hG : GTX f n kd k pl nm tn) (h : MSt f n k pl nm tn b s l z P 0 w) (b0 : 0 ≤ b ∧ b ≤ 2115) (hI : 0 ≤ z.2.2 ∧ z.2.2 ≤ z.1) {a9 : Int} (ha9 : b + 1 ≤ a9 ∧ a9 + 3 < b + 97) {G : Int → Int} (hGm : MG b (s 601) G) (hGb : ∀ q, 0 ≤ q → q < G 0 → 0 ≤ G (1 + 4 * q) ∧ G (1 + 4 * q) ≤ 9 ∧ (G (1 + 4 * q) = 0 → 0 ≤ G (2 + 4 * q) ∧ G (2 + 4 * q) ≤ 5)) {r : rpR} (hr : rcBody k nm G 5 z = r) : ∃ s1 l1, mm_Ev mm_ct mm_CM (d + 12) 194 [.ref 598, .int (iI 5), .int (iI a9)] (MX L t s l) (some (.int (iI r.1)), MX L t s1 l1) ∧ MRn f n k pl nm tn b (a9 + 1) s s1 l l1 r 0 ∧ (r.1 = 0 → NB nm a9 5 z r.2 (s1 601)) := by
  have hc : (mm_CM 194).2.2.2.2.2.2.2 = mm_cf cd_194 := by rw [cm_194]; rfl
  refine ev_xsl ?_
  refine ev_to (mx := 4) (by rw [cm_194]; decide) (by rw [cm_194]; rfl) (by show 3 ≤ _; decide) ?_
  show mm_wp _ _ (0, [some (.ref 598), some (.int (iI 5)), some (.int (iI a9)), none], [], MX L t s l) (fun res => ∃ s1 l1, res = (some (.int (iI r.1)), MX L t s1 l1) ∧ MRn f n k pl nm tn b (a9 + 1) s s1 l l1 r 0 ∧ (r.1 = 0 → NB nm a9 5 z r.2 (s1 601)))
  have htn := hG.2.2.2.1
  have hz1 := h.2.1.1
  have hk43 := GTX_43 hG
  refine wi_i1 hc rfl rfl ?_
  refine wi_sw hc rfl ⟨by decide, by decide⟩ ?_
  show mm_wp _ _ (89, [some (.ref 598), some (.int (iI 5)), some (.int (iI a9)), none], [], MX L t s l) _
  refine wi_a1 hc rfl rfl ?_
  refine wi_i1 hc rfl rfl ?_
  refine wi_ic hc rfl ?_
  refine wi_add hc rfl ?_
  refine wi_ic hc rfl ?_
  refine wi_ic hc rfl ?_
  obtain ⟨f1_, y1_, hy1_⟩ : ∃ f y, rcFig k nm 0 2 z = (f, y) := ⟨_, _, rfl⟩
  have hr1_ : rpF (f1_, y1_) := hy1_ ▸ rpF_Fig
  have hr11_ : 0 ≤ f1_ := hr1_.1
  have hr21_ : f1_ ≤ 5 := hr1_.2
  obtain ⟨s1_, l1_, hE1_, hM1_, hF1_, hN1_⟩ := fg_188 (d := 0) (L := L) (t := t) hG h b0 (ix := a9 + 1) ⟨by omega, by omega⟩ (lo := 0) ⟨by decide, by decide⟩ (hi := 2) ⟨by decide, by decide⟩ hy1_
  refine wp_cv (b := 598) (As := [.int (iI (a9 + 1)), .int (iI 0), .int (iI 2)]) (r := []) hc rfl (by rw [cm_188]; rfl) rfl (Nat.le_of_ble_eq_true rfl) (show 598 < 621 by decide) (by rw [cm_188]; rfl) (ev_mono hE1_ (by omega)) ?_
  have hM1_ : MSt f n k pl nm tn b s1_ l1_ y1_ P 0 w := hM1_
  have hFF1_ : FN (a9 + 1) s s1_ l l1_ := FN.rf.tr hF1_ (by omega)
  show mm_wp _ _ (98, [some (.ref 598), some (.int (iI 5)), some (.int (iI a9)), none], [.int (iI f1_)], MX L t s1_ l1_) _
  refine wi_is1 (L' := [some (.ref 598), some (.int (iI 5)), some (.int (iI a9)), some (.int (iI f1_))]) hc rfl (Nat.le_of_ble_eq_true rfl) rfl ?_
  refine wi_i1 hc rfl rfl ?_
  refine wi_zeq hc rfl ⟨by omega, by omega⟩ (fun h1_ => ?_) (fun h1_ => ?_)
  · have e9 : f1_ = 0 := h1_
    subst e9
    refine wi_a1 hc rfl rfl ?_
    refine wi_bi hc rfl rfl ?_
    refine wi_bi hc rfl rfl ?_
    refine wi_i1 hc rfl rfl ?_
    refine wi_ic hc rfl ?_
    refine wi_add hc rfl ?_
    refine wi_bi hc rfl rfl ?_
    obtain ⟨f2_, y2_, hy2_⟩ : ∃ f y, rpB (rcWd k 24 y1_) (rcFig k nm 0 9) = (f, y) := ⟨_, _, rfl⟩
    have hr2_ : rpF (f2_, y2_) := hy2_ ▸ (rpF_B rpF_Wd (fun _ => rpF_Fig))
    have hr12_ : 0 ≤ f2_ := hr2_.1
    have hr22_ : f2_ ≤ 5 := hr2_.2
    obtain ⟨s2_, l2_, hE2_, hM2_, hF2_, hN2_⟩ := wd_189_24 (d := 0) (L := L) (t := t) hG hM1_ b0 (ix := a9 + 2) ⟨by omega, by omega⟩ (hi := 9) ⟨by decide, by decide⟩ hy2_
    refine wp_cv (b := 598) (As := [.int (iI 97), .int (iI 116), .int (iI (a9 + 2)), .int (iI 9)]) (r := []) hc rfl (by rw [cm_189]; rfl) rfl (Nat.le_of_ble_eq_true rfl) (show 598 < 621 by decide) (by rw [cm_189]; rfl) (ev_mono hE2_ (by omega)) ?_
    have hM2_ : MSt f n k pl nm tn b s2_ l2_ y2_ P 0 w := hM2_
    have hFF2_ : FN (a9 + 1) s s2_ l l2_ := hFF1_.tr hF2_ (by omega)
    show mm_wp _ _ (120, [some (.ref 598), some (.int (iI 5)), some (.int (iI a9)), some (.int (iI 0))], [.int (iI f2_)], MX L t s2_ l2_) _
    refine wi_ri hc rfl (by rw [cm_194]; rfl) ?_
    have hr9 : r = (f2_, y2_) := by
      rw [← hr, rcBody, if_neg (by decide), if_neg (by decide), if_neg (by decide), if_neg (by decide), if_neg (by decide), if_pos (by decide)]
      rw [hy1_, rpB_z]
      exact hy2_
    subst hr9
    have p1 : y1_ = rpNx z := (rcFig_K hk43 hy1_).2.1
    exact ⟨s2_, l2_, rfl, ⟨y2_, P, 0, w, rfl, hM2_, fun _ => ⟨rfl, rfl⟩, hFF2_⟩, fun e => ⟨fun _ => ((hF2_.2.2.1 _ (by omega)).trans ((hN1_ rfl))), fun _ => by rw [if_neg (by decide), show z.1 + 2 = y1_.1 + 1 by rw [p1]; show z.1 + 2 = z.1 + 1 + 1; omega]; exact hN2_ e, (fun e => absurd e (by decide))⟩⟩
  · skip
    refine wi_i1 hc rfl rfl ?_
    refine wi_go hc rfl ?_
    refine wi_ri hc rfl (by rw [cm_194]; rfl) ?_
    have hr9 : r = (f1_, y1_) := by
      rw [← hr, rcBody, if_neg (by decide), if_neg (by decide), if_neg (by decide), if_neg (by decide), if_neg (by decide), if_pos (by decide)]
      rw [hy1_, rpB_n (r := (f1_, y1_)) h1_]
    subst hr9
    exact ⟨s1_, l1_, rfl, ⟨y1_, P, 0, w, rfl, hM1_, fun _ => ⟨rfl, rfl⟩, hFF1_⟩, fun e => absurd e h1_⟩
theorem bd_194_6 {d L t : Nat} {s l : Nat → Int → Int} {f : Int → Int} {n : Int} {kd k pl nm : Int → Int} {tn b : Int} {z : rpS} {P : List Int} {w : Int} (hG : GTX f n kd k pl nm tn) (h : MSt f n k pl nm tn b s l z P 0 w) (b0 : 0 ≤ b ∧ b ≤ 2115) (hI : 0 ≤ z.2.2 ∧ z.2.2 ≤ z.1) {a9 : Int} (ha9 : b + 1 ≤ a9 ∧ a9 + 3 < b + 97) {G : Int → Int} (hGm : MG b (s 601) G) (hGb : ∀ q, 0 ≤ q → q < G 0 → 0 ≤ G (1 + 4 * q) ∧ G (1 + 4 * q) ≤ 9 ∧ (G (1 + 4 * q) = 0 → 0 ≤ G (2 + 4 * q) ∧ G (2 + 4 * q) ≤ 5)) {r : rpR} (hr : rcBody k nm G 6 z = r) : ∃ s1 l1, mm_Ev mm_ct mm_CM (d + 12) 194 [.ref 598, .int (iI 6), .int (iI a9)] (MX L t s l) (some (.int (iI r.1)), MX L t s1 l1) ∧ MRn f n k pl nm tn b (a9 + 1) s s1 l l1 r 0 ∧ (r.1 = 0 → NB nm a9 6 z r.2 (s1 601)) := by
  have hc : (mm_CM 194).2.2.2.2.2.2.2 = mm_cf cd_194 := by rw [cm_194]; rfl
  refine ev_xsl ?_
  refine ev_to (mx := 4) (by rw [cm_194]; decide) (by rw [cm_194]; rfl) (by show 3 ≤ _; decide) ?_
  show mm_wp _ _ (0, [some (.ref 598), some (.int (iI 6)), some (.int (iI a9)), none], [], MX L t s l) (fun res => ∃ s1 l1, res = (some (.int (iI r.1)), MX L t s1 l1) ∧ MRn f n k pl nm tn b (a9 + 1) s s1 l l1 r 0 ∧ (r.1 = 0 → NB nm a9 6 z r.2 (s1 601)))
  have htn := hG.2.2.2.1
  have hz1 := h.2.1.1
  have hk43 := GTX_43 hG
  refine wi_i1 hc rfl rfl ?_
  refine wi_sw hc rfl ⟨by decide, by decide⟩ ?_
  show mm_wp _ _ (121, [some (.ref 598), some (.int (iI 6)), some (.int (iI a9)), none], [], MX L t s l) _
  refine wi_a1 hc rfl rfl ?_
  refine wi_i1 hc rfl rfl ?_
  refine wi_ic hc rfl ?_
  refine wi_add hc rfl ?_
  refine wi_ic hc rfl ?_
  refine wi_bi hc rfl rfl ?_
  obtain ⟨f1_, y1_, hy1_⟩ : ∃ f y, rcFig k nm 0 9 z = (f, y) := ⟨_, _, rfl⟩
  have hr1_ : rpF (f1_, y1_) := hy1_ ▸ rpF_Fig
  have hr11_ : 0 ≤ f1_ := hr1_.1
  have hr21_ : f1_ ≤ 5 := hr1_.2
  obtain ⟨s1_, l1_, hE1_, hM1_, hF1_, hN1_⟩ := fg_188 (d := 0) (L := L) (t := t) hG h b0 (ix := a9 + 1) ⟨by omega, by omega⟩ (lo := 0) ⟨by decide, by decide⟩ (hi := 9) ⟨by decide, by decide⟩ hy1_
  refine wp_cv (b := 598) (As := [.int (iI (a9 + 1)), .int (iI 0), .int (iI 9)]) (r := []) hc rfl (by rw [cm_188]; rfl) rfl (Nat.le_of_ble_eq_true rfl) (show 598 < 621 by decide) (by rw [cm_188]; rfl) (ev_mono hE1_ (by omega)) ?_
  have hM1_ : MSt f n k pl nm tn b s1_ l1_ y1_ P 0 w := hM1_
  have hFF1_ : FN (a9 + 1) s s1_ l l1_ := FN.rf.tr hF1_ (by omega)
  show mm_wp _ _ (131, [some (.ref 598), some (.int (iI 6)), some (.int (iI a9)), none], [.int (iI f1_)], MX L t s1_ l1_) _
  refine wi_ri hc rfl (by rw [cm_194]; rfl) ?_
  have hr9 : r = (f1_, y1_) := by
    rw [← hr, rcBody, if_neg (by decide), if_neg (by decide), if_neg (by decide), if_neg (by decide), if_neg (by decide), if_neg (by decide), if_pos (by decide)]
    exact hy1_
  subst hr9
  exact ⟨s1_, l1_, rfl, ⟨y1_, P, 0, w, rfl, hM1_, fun _ => ⟨rfl, rfl⟩, hFF1_⟩, fun e => ⟨fun _ => hN1_ e, (fun e => absurd e (by decide)), (fun e => absurd e (by decide))⟩⟩
theorem bd_194_7 {d L t : Nat} {s l : Nat → Int → Int} {f : Int → Int} {n : Int} {kd k pl nm : Int → Int} {tn b : Int} {z : rpS} {P : List Int} {w : Int} (hG : GTX f n kd k pl nm tn) (h : MSt f n k pl nm tn b s l z P 0 w) (b0 : 0 ≤ b ∧ b ≤ 2115) (hI : 0 ≤ z.2.2 ∧ z.2.2 ≤ z.1) {a9 : Int} (ha9 : b + 1 ≤ a9 ∧ a9 + 3 < b + 97) {G : Int → Int} (hGm : MG b (s 601) G) (hGb : ∀ q, 0 ≤ q → q < G 0 → 0 ≤ G (1 + 4 * q) ∧ G (1 + 4 * q) ≤ 9 ∧ (G (1 + 4 * q) = 0 → 0 ≤ G (2 + 4 * q) ∧ G (2 + 4 * q) ≤ 5)) {r : rpR} (hr : rcBody k nm G 7 z = r) : ∃ s1 l1, mm_Ev mm_ct mm_CM (d + 12) 194 [.ref 598, .int (iI 7), .int (iI a9)] (MX L t s l) (some (.int (iI r.1)), MX L t s1 l1) ∧ MRn f n k pl nm tn b (a9 + 1) s s1 l l1 r 0 ∧ (r.1 = 0 → NB nm a9 7 z r.2 (s1 601)) := by
  have hc : (mm_CM 194).2.2.2.2.2.2.2 = mm_cf cd_194 := by rw [cm_194]; rfl
  refine ev_xsl ?_
  refine ev_to (mx := 4) (by rw [cm_194]; decide) (by rw [cm_194]; rfl) (by show 3 ≤ _; decide) ?_
  show mm_wp _ _ (0, [some (.ref 598), some (.int (iI 7)), some (.int (iI a9)), none], [], MX L t s l) (fun res => ∃ s1 l1, res = (some (.int (iI r.1)), MX L t s1 l1) ∧ MRn f n k pl nm tn b (a9 + 1) s s1 l l1 r 0 ∧ (r.1 = 0 → NB nm a9 7 z r.2 (s1 601)))
  have htn := hG.2.2.2.1
  have hz1 := h.2.1.1
  have hk43 := GTX_43 hG
  refine wi_i1 hc rfl rfl ?_
  refine wi_sw hc rfl ⟨by decide, by decide⟩ ?_
  show mm_wp _ _ (132, [some (.ref 598), some (.int (iI 7)), some (.int (iI a9)), none], [], MX L t s l) _
  refine wi_a1 hc rfl rfl ?_
  refine wi_i1 hc rfl rfl ?_
  have hr0 : rpB (rcFig k nm 0 9 z) (fun y => rpB (rcWd k 25 y) (fun x => rpB (rcFig k nm 0 2 x) (fun u => rpB (rcWd k 24 u) (rcFig k nm 0 9)))) = r := by rw [← hr, rcBody, if_neg (by decide), if_neg (by decide), if_neg (by decide), if_neg (by decide), if_neg (by decide), if_neg (by decide), if_neg (by decide), if_pos (by decide)]
  obtain ⟨sq, lq, hEq, hMq, hFq, hNq⟩ := pc_193 (d := 0) (L := L) (t := t) hG h b0 ha9 hr0
  refine wp_cv (b := 598) (As := [.int (iI a9)]) (r := []) hc rfl (by rw [cm_193]; rfl) rfl (Nat.le_of_ble_eq_true rfl) (show 598 < 621 by decide) (by rw [cm_193]; rfl) (ev_mono hEq (by omega)) ?_
  show mm_wp _ _ (137, [some (.ref 598), some (.int (iI 7)), some (.int (iI a9)), none], [.int (iI r.1)], MX L t sq lq) _
  refine wi_ri hc rfl (by rw [cm_194]; rfl) ?_
  exact ⟨sq, lq, rfl, ⟨r.2, P, 0, w, rfl, hMq, fun _ => ⟨rfl, rfl⟩, hFq⟩, fun e => ⟨fun _ => (hNq e).1, fun _ => by rw [if_neg (by decide)]; exact (hNq e).2.1, fun _ => by rw [if_neg (by decide)]; exact (hNq e).2.2⟩⟩
theorem bd_194_8 {d L t : Nat} {s l : Nat → Int → Int} {f : Int → Int} {n : Int} {kd k pl nm : Int → Int} {tn b : Int} {z : rpS} {P : List Int} {w : Int} (hG : GTX f n kd k pl nm tn) (h : MSt f n k pl nm tn b s l z P 0 w) (b0 : 0 ≤ b ∧ b ≤ 2115) (hI : 0 ≤ z.2.2 ∧ z.2.2 ≤ z.1) {a9 : Int} (ha9 : b + 1 ≤ a9 ∧ a9 + 3 < b + 97) {G : Int → Int} (hGm : MG b (s 601) G) (hGb : ∀ q, 0 ≤ q → q < G 0 → 0 ≤ G (1 + 4 * q) ∧ G (1 + 4 * q) ≤ 9 ∧ (G (1 + 4 * q) = 0 → 0 ≤ G (2 + 4 * q) ∧ G (2 + 4 * q) ≤ 5)) {r : rpR} (hr : rcBody k nm G 8 z = r) : ∃ s1 l1, mm_Ev mm_ct mm_CM (d + 12) 194 [.ref 598, .int (iI 8), .int (iI a9)] (MX L t s l) (some (.int (iI r.1)), MX L t s1 l1) ∧ MRn f n k pl nm tn b (a9 + 1) s s1 l l1 r 0 ∧ (r.1 = 0 → NB nm a9 8 z r.2 (s1 601)) := by
  have hc : (mm_CM 194).2.2.2.2.2.2.2 = mm_cf cd_194 := by rw [cm_194]; rfl
  refine ev_xsl ?_
  refine ev_to (mx := 4) (by rw [cm_194]; decide) (by rw [cm_194]; rfl) (by show 3 ≤ _; decide) ?_
  show mm_wp _ _ (0, [some (.ref 598), some (.int (iI 8)), some (.int (iI a9)), none], [], MX L t s l) (fun res => ∃ s1 l1, res = (some (.int (iI r.1)), MX L t s1 l1) ∧ MRn f n k pl nm tn b (a9 + 1) s s1 l l1 r 0 ∧ (r.1 = 0 → NB nm a9 8 z r.2 (s1 601)))
  have htn := hG.2.2.2.1
  have hz1 := h.2.1.1
  have hk43 := GTX_43 hG
  refine wi_i1 hc rfl rfl ?_
  refine wi_sw hc rfl ⟨by decide, by decide⟩ ?_
  show mm_wp _ _ (138, [some (.ref 598), some (.int (iI 8)), some (.int (iI a9)), none], [], MX L t s l) _
  refine wi_ic hc rfl ?_
  refine wi_ri hc rfl (by rw [cm_194]; rfl) ?_
  have hr9 : r = (0, z) := by rw [← hr, rcBody, if_neg (by decide), if_neg (by decide), if_neg (by decide), if_neg (by decide), if_neg (by decide), if_neg (by decide), if_neg (by decide), if_neg (by decide)]
  subst hr9
  exact ⟨s, l, rfl, ⟨z, P, 0, w, rfl, h, fun _ => ⟨rfl, rfl⟩, FN.rf⟩, fun e => ⟨(fun e => absurd e (by decide)), (fun e => absurd e (by decide)), (fun e => absurd e (by decide))⟩⟩
theorem bd_194_9 {d L t : Nat} {s l : Nat → Int → Int} {f : Int → Int} {n : Int} {kd k pl nm : Int → Int} {tn b : Int} {z : rpS} {P : List Int} {w : Int} (hG : GTX f n kd k pl nm tn) (h : MSt f n k pl nm tn b s l z P 0 w) (b0 : 0 ≤ b ∧ b ≤ 2115) (hI : 0 ≤ z.2.2 ∧ z.2.2 ≤ z.1) {a9 : Int} (ha9 : b + 1 ≤ a9 ∧ a9 + 3 < b + 97) {G : Int → Int} (hGm : MG b (s 601) G) (hGb : ∀ q, 0 ≤ q → q < G 0 → 0 ≤ G (1 + 4 * q) ∧ G (1 + 4 * q) ≤ 9 ∧ (G (1 + 4 * q) = 0 → 0 ≤ G (2 + 4 * q) ∧ G (2 + 4 * q) ≤ 5)) {r : rpR} (hr : rcBody k nm G 9 z = r) : ∃ s1 l1, mm_Ev mm_ct mm_CM (d + 12) 194 [.ref 598, .int (iI 9), .int (iI a9)] (MX L t s l) (some (.int (iI r.1)), MX L t s1 l1) ∧ MRn f n k pl nm tn b (a9 + 1) s s1 l l1 r 0 ∧ (r.1 = 0 → NB nm a9 9 z r.2 (s1 601)) := by
  have hc : (mm_CM 194).2.2.2.2.2.2.2 = mm_cf cd_194 := by rw [cm_194]; rfl
  refine ev_xsl ?_
  refine ev_to (mx := 4) (by rw [cm_194]; decide) (by rw [cm_194]; rfl) (by show 3 ≤ _; decide) ?_
  show mm_wp _ _ (0, [some (.ref 598), some (.int (iI 9)), some (.int (iI a9)), none], [], MX L t s l) (fun res => ∃ s1 l1, res = (some (.int (iI r.1)), MX L t s1 l1) ∧ MRn f n k pl nm tn b (a9 + 1) s s1 l l1 r 0 ∧ (r.1 = 0 → NB nm a9 9 z r.2 (s1 601)))
  have htn := hG.2.2.2.1
  have hz1 := h.2.1.1
  have hk43 := GTX_43 hG
  refine wi_i1 hc rfl rfl ?_
  refine wi_sw hc rfl ⟨by decide, by decide⟩ ?_
  show mm_wp _ _ (138, [some (.ref 598), some (.int (iI 9)), some (.int (iI a9)), none], [], MX L t s l) _
  refine wi_ic hc rfl ?_
  refine wi_ri hc rfl (by rw [cm_194]; rfl) ?_
  have hr9 : r = (0, z) := by rw [← hr, rcBody, if_neg (by decide), if_neg (by decide), if_neg (by decide), if_neg (by decide), if_neg (by decide), if_neg (by decide), if_neg (by decide), if_neg (by decide)]
  subst hr9
  exact ⟨s, l, rfl, ⟨z, P, 0, w, rfl, h, fun _ => ⟨rfl, rfl⟩, FN.rf⟩, fun e => ⟨(fun e => absurd e (by decide)), (fun e => absurd e (by decide)), (fun e => absurd e (by decide))⟩⟩
