/-! The bodies of the model's clauses. -/
def MRn (f : Int → Int) (n : Int) (k pl nm : Int → Int) (tn b lo : Int) (s s1 l l1 : Nat → Int → Int) (r : rpR) (o : Int) : Prop := ∃ (y : rpS) (Q : List Int) (o' w' : Int), y.1 = r.2.1 ∧ MSt f n k pl nm tn b s1 l1 y Q o' w' ∧ (r.1 = 0 → y = r.2 ∧ o' = o) ∧ FN lo s s1 l l1
theorem rpB_as {r : rpR} {g h : rpS → rpR} : rpB (rpB r g) h = rpB r (fun y => rpB (g y) h) := by
  by_cases q : r.1 = 0
  · rw [show rpB r g = g r.2 from if_pos q, show rpB r (fun y => rpB (g y) h) = rpB (g r.2) h from if_pos q]
  · rw [rpB_n (r := r) q, rpB_n (r := r) q, rpB_n (r := r) q]
theorem rpF_Fig {k nm : Int → Int} {lo hi : Int} {z : rpS} : rpF (rcFig k nm lo hi z) := by
  unfold rcFig
  (repeat' split) <;> exact rpF_c (by decide)
theorem rpF_Wd {k : Int → Int} {q : Int} {z : rpS} : rpF (rcWd k q z) := by
  unfold rcWd
  split <;> exact rpF_c (by decide)
theorem pc_193 {d L t : Nat} {s l : Nat → Int → Int} {f : Int → Int} {n : Int} {kd k pl nm : Int → Int} {tn b : Int} {z : rpS} {P : List Int} {o w : Int} (hG : GTX f n kd k pl nm tn) (h : MSt f n k pl nm tn b s l z P o w) (b0 : 0 ≤ b ∧ b ≤ 2115) {a9 : Int} (ha9 : b + 1 ≤ a9 ∧ a9 + 3 < b + 97) {r : rpR} (hr : rpB (rcFig k nm 0 9 z) (fun y => rpB (rcWd k 25 y) (fun x => rpB (rcFig k nm 0 2 x) (fun u => rpB (rcWd k 24 u) (rcFig k nm 0 9)))) = r) : ∃ s1 l1, mm_Ev mm_ct mm_CM (d + 6) 193 [.ref 598, .int (iI a9)] (MX L t s l) (some (.int (iI r.1)), MX L t s1 l1) ∧ MSt f n k pl nm tn b s1 l1 r.2 P o w ∧ FN (a9 + 1) s s1 l l1 ∧ (r.1 = 0 → s1 601 (a9 + 1) = nm z.1 ∧ s1 601 (a9 + 2) = nm (z.1 + 2) ∧ s1 601 (a9 + 3) = nm (z.1 + 4)) := by
  have hc : (mm_CM 193).2.2.2.2.2.2.2 = mm_cf cd_193 := by rw [cm_193]; rfl
  refine ev_xsl ?_
  refine ev_to (mx := 3) (by rw [cm_193]; decide) (by rw [cm_193]; rfl) (by show 2 ≤ _; decide) ?_
  show mm_wp _ _ (0, [some (.ref 598), some (.int (iI a9)), none], [], MX L t s l) (fun res => ∃ s1 l1, res = (some (.int (iI r.1)), MX L t s1 l1) ∧ MSt f n k pl nm tn b s1 l1 r.2 P o w ∧ FN (a9 + 1) s s1 l l1 ∧ (r.1 = 0 → s1 601 (a9 + 1) = nm z.1 ∧ s1 601 (a9 + 2) = nm (z.1 + 2) ∧ s1 601 (a9 + 3) = nm (z.1 + 4)))
  have htn := hG.2.2.2.1
  have hz1 := h.2.1.1
  have hk43 := GTX_43 hG
  refine wi_a1 hc rfl rfl ?_
  refine wi_i1 hc rfl rfl ?_
  refine wi_ic hc rfl ?_
  refine wi_add hc rfl ?_
  refine wi_ic hc rfl ?_
  refine wi_bi hc rfl rfl ?_
  obtain ⟨f1_, y1_, hy1_⟩ : ∃ f y, rcFig k nm 0 9 z = (f, y) := ⟨_, _, rfl⟩
  have hr1_ : rpF (f1_, y1_) := hy1_ ▸ rpF_Fig
  have hr11_ : 0 ≤ f1_ := hr1_.1
  have hr21_ : f1_ ≤ 5 := hr1_.2
  obtain ⟨s1_, l1_, hE1_, hM1_, hF1_, hN1_⟩ := fg_188 (d := 0) (L := L) (t := t) hG h b0 (ix := a9 + 1) ⟨by omega, by omega⟩ (lo := 0) ⟨by decide, by decide⟩ (hi := 9) ⟨by decide, by decide⟩ hy1_
  refine wp_cv (b := 598) (As := [.int (iI (a9 + 1)), .int (iI 0), .int (iI 9)]) (r := []) hc rfl (by rw [cm_188]; rfl) rfl (Nat.le_of_ble_eq_true rfl) (show 598 < 621 by decide) (by rw [cm_188]; rfl) (ev_mono hE1_ (by omega)) ?_
  have hM1_ : MSt f n k pl nm tn b s1_ l1_ y1_ P o w := hM1_
  have hFF1_ : FN (a9 + 1) s s1_ l l1_ := FN.rf.tr hF1_ (by omega)
  show mm_wp _ _ (10, [some (.ref 598), some (.int (iI a9)), none], [.int (iI f1_)], MX L t s1_ l1_) _
  refine wi_is1 (L' := [some (.ref 598), some (.int (iI a9)), some (.int (iI f1_))]) hc rfl (Nat.le_of_ble_eq_true rfl) rfl ?_
  refine wi_i1 hc rfl rfl ?_
  refine wi_zne hc rfl ⟨by omega, by omega⟩ (fun h1_ => ?_) (fun h1_ => ?_)
  · skip
    refine wi_i1 hc rfl rfl ?_
    refine wi_zeq hc rfl ⟨by omega, by omega⟩ (fun h2_ => (by exfalso; omega)) (fun h2_ => ?_)
    refine wi_i1 hc rfl rfl ?_
    refine wi_go hc rfl ?_
    refine wi_ri hc rfl (by rw [cm_193]; rfl) ?_
    have hrr : rpB (rcFig k nm 0 9 z) (fun y => rpB (rpB (rcWd k 25 y) (rcFig k nm 0 2)) (fun u => rpB (rcWd k 24 u) (rcFig k nm 0 9))) = r := by rw [← hr]; exact congrArg (rpB _) (funext fun y => rpB_as)
    have hr9 : r = (f1_, y1_) := by
      rw [← hrr]
      rw [hy1_, rpB_n (r := (f1_, y1_)) h1_]
    subst hr9
    exact ⟨s1_, l1_, rfl, hM1_, hFF1_, fun e => absurd e h1_⟩
  · have e9 : f1_ = 0 := h1_
    subst e9
    refine wi_a1 hc rfl rfl ?_
    refine wi_bi hc rfl rfl ?_
    refine wi_bi hc rfl rfl ?_
    refine wi_i1 hc rfl rfl ?_
    refine wi_ic hc rfl ?_
    refine wi_add hc rfl ?_
    refine wi_ic hc rfl ?_
    obtain ⟨f2_, y2_, hy2_⟩ : ∃ f y, rpB (rcWd k 25 y1_) (rcFig k nm 0 2) = (f, y) := ⟨_, _, rfl⟩
    have hr2_ : rpF (f2_, y2_) := hy2_ ▸ (rpF_B rpF_Wd (fun _ => rpF_Fig))
    have hr12_ : 0 ≤ f2_ := hr2_.1
    have hr22_ : f2_ ≤ 5 := hr2_.2
    obtain ⟨s2_, l2_, hE2_, hM2_, hF2_, hN2_⟩ := wd_189_25 (d := 0) (L := L) (t := t) hG hM1_ b0 (ix := a9 + 2) ⟨by omega, by omega⟩ (hi := 2) ⟨by decide, by decide⟩ hy2_
    refine wp_cv (b := 598) (As := [.int (iI 111), .int (iI 110), .int (iI (a9 + 2)), .int (iI 2)]) (r := []) hc rfl (by rw [cm_189]; rfl) rfl (Nat.le_of_ble_eq_true rfl) (show 598 < 621 by decide) (by rw [cm_189]; rfl) (ev_mono hE2_ (by omega)) ?_
    have hM2_ : MSt f n k pl nm tn b s2_ l2_ y2_ P o w := hM2_
    have hFF2_ : FN (a9 + 1) s s2_ l l2_ := hFF1_.tr hF2_ (by omega)
    show mm_wp _ _ (27, [some (.ref 598), some (.int (iI a9)), some (.int (iI 0))], [.int (iI f2_)], MX L t s2_ l2_) _
    refine wi_is1 (L' := [some (.ref 598), some (.int (iI a9)), some (.int (iI f2_))]) hc rfl (Nat.le_of_ble_eq_true rfl) rfl ?_
    refine wi_i1 hc rfl rfl ?_
    refine wi_zeq hc rfl ⟨by omega, by omega⟩ (fun h3_ => ?_) (fun h3_ => ?_)
    · have e9 : f2_ = 0 := h3_
      subst e9
      refine wi_a1 hc rfl rfl ?_
      refine wi_bi hc rfl rfl ?_
      refine wi_bi hc rfl rfl ?_
      refine wi_i1 hc rfl rfl ?_
      refine wi_ic hc rfl ?_
      refine wi_add hc rfl ?_
      refine wi_bi hc rfl rfl ?_
      obtain ⟨f3_, y3_, hy3_⟩ : ∃ f y, rpB (rcWd k 24 y2_) (rcFig k nm 0 9) = (f, y) := ⟨_, _, rfl⟩
      have hr3_ : rpF (f3_, y3_) := hy3_ ▸ (rpF_B rpF_Wd (fun _ => rpF_Fig))
      have hr13_ : 0 ≤ f3_ := hr3_.1
      have hr23_ : f3_ ≤ 5 := hr3_.2
      obtain ⟨s3_, l3_, hE3_, hM3_, hF3_, hN3_⟩ := wd_189_24 (d := 0) (L := L) (t := t) hG hM2_ b0 (ix := a9 + 3) ⟨by omega, by omega⟩ (hi := 9) ⟨by decide, by decide⟩ hy3_
      refine wp_cv (b := 598) (As := [.int (iI 97), .int (iI 116), .int (iI (a9 + 3)), .int (iI 9)]) (r := []) hc rfl (by rw [cm_189]; rfl) rfl (Nat.le_of_ble_eq_true rfl) (show 598 < 621 by decide) (by rw [cm_189]; rfl) (ev_mono hE3_ (by omega)) ?_
      have hM3_ : MSt f n k pl nm tn b s3_ l3_ y3_ P o w := hM3_
      have hFF3_ : FN (a9 + 1) s s3_ l l3_ := hFF2_.tr hF3_ (by omega)
      show mm_wp _ _ (49, [some (.ref 598), some (.int (iI a9)), some (.int (iI 0))], [.int (iI f3_)], MX L t s3_ l3_) _
      refine wi_ri hc rfl (by rw [cm_193]; rfl) ?_
      have hrr : rpB (rcFig k nm 0 9 z) (fun y => rpB (rpB (rcWd k 25 y) (rcFig k nm 0 2)) (fun u => rpB (rcWd k 24 u) (rcFig k nm 0 9))) = r := by rw [← hr]; exact congrArg (rpB _) (funext fun y => rpB_as)
      have hr9 : r = (f3_, y3_) := by
        rw [← hrr]
        rw [hy1_, rpB_z]
        rw [hy2_, rpB_z]
        exact hy3_
      subst hr9
      have p1 : y1_ = rpNx z := (rcFig_K hk43 hy1_).2.1
      have p2 : y2_.1 = z.1 + 3 := by
        obtain ⟨u, h1, h2⟩ := rpB_0 hy2_
        rw [(rcFig_K hk43 h2).2.1, (rcWd_K hk43 (by decide) h1).2, p1]
        show z.1 + 1 + 1 + 1 = z.1 + 3; omega
      refine ⟨s3_, l3_, rfl, hM3_, hFF3_, fun e => ⟨((hF3_.2.2.1 _ (by omega)).trans (((hF2_.2.2.1 _ (by omega)).trans ((hN1_ rfl))))), ?_, ?_⟩⟩
      · rw [show z.1 + 2 = y1_.1 + 1 by rw [p1]; show z.1 + 2 = z.1 + 1 + 1; omega]; exact ((hF3_.2.2.1 _ (by omega)).trans ((hN2_ rfl)))
      · rw [show z.1 + 4 = y2_.1 + 1 by omega]; exact hN3_ e
    · skip
      refine wi_i1 hc rfl rfl ?_
      refine wi_go hc rfl ?_
      refine wi_ri hc rfl (by rw [cm_193]; rfl) ?_
      have hrr : rpB (rcFig k nm 0 9 z) (fun y => rpB (rpB (rcWd k 25 y) (rcFig k nm 0 2)) (fun u => rpB (rcWd k 24 u) (rcFig k nm 0 9))) = r := by rw [← hr]; exact congrArg (rpB _) (funext fun y => rpB_as)
      have hr9 : r = (f2_, y2_) := by
        rw [← hrr]
        rw [hy1_, rpB_z]
        rw [hy2_, rpB_n (r := (f2_, y2_)) h3_]
      subst hr9
      exact ⟨s2_, l2_, rfl, hM2_, hFF2_, fun e => absurd e h3_⟩
