/-! The class's CALM, BASIN, NEVER. -/
theorem FcH.of {s s1 : Nat → Int → Int} (h : FcH s) (e : s1 1000000 = s 1000000) : FcH s1 := by
  unfold FcH
  rw [e]
  exact h
section WK2
variable {c : Int → Int → Int} {S : Int} {m : Nat}
theorem gF_r (hm : m < 7) : ∀ (f : Nat) (x : Int), 0 ≤ x → x < 2 * fct m → -1 ≤ gF c S m f x ∧ gF c S m f x < fct m
  | 0, _, _, _ => ⟨Int.le_refl _, by show (-1 : Int) < _; omega⟩
  | f + 1, x, a, b => by
    unfold gF
    split
    · omega
    · have := nxS_r (c := c) (S := S) hm a b
      exact gF_r hm f _ this.1 this.2
theorem Gs_r (hm : m < 7) {x : Int} (x0 : 0 ≤ x) (x1 : x < 2 * fct m) : -1 ≤ Gs c S m x ∧ Gs c S m x < fct m := gF_r hm _ x x0 x1
theorem Wk_r (hm : m < 7) {go pa : Int → Int} {x y : Int} {w : Nat} (x0 : 0 ≤ x) (x1 : x < 2 * fct m) (h : WkA c S m go pa x w y ∨ WkB c S m go pa x w y) : (0 ≤ y ∧ y < 2 * fct m) ∧ (-3 ≤ go y ∧ go y < 1000) := by
  have r := itS_r (c := c) (S := S) hm x0 x1
  have hf := fct_r m
  rcases h with h | ⟨v, rfl, h2, h3, h4, h5, h6, h7⟩
  · obtain ⟨h1, h2, h3, h4⟩ := h
    have ry := r w
    rw [← h2] at ry
    refine ⟨ry, ?_⟩
    rcases Classical.em (∃ j : Nat, j < w ∧ y = itS c S m x j) with q | q
    · obtain ⟨j, hj, e⟩ := q
      have := (h1 j hj).2.2
      rw [← e] at this
      omega
    · have g := h4 y ry.1 ry.2 (fun j hj e => q ⟨j, hj, e⟩)
      have := Gs_r (c := c) (S := S) hm ry.1 ry.2
      omega
  · have ry := r v
    rw [← h2] at ry
    exact ⟨ry, by omega⟩
theorem Wk_go {go pa : Int → Int} {x y : Int} {w : Nat} (hm : m < 7) (x0 : 0 ≤ x) (x1 : x < 2 * fct m) (h : WkA c S m go pa x w y ∨ WkB c S m go pa x w y) (hy : go y = -2) : WkA c S m go pa x w y ∧ w < 2 * fct m := by
  rcases h with h | ⟨v, rfl, h2, h3, h4, h5, h6, h7⟩
  · exact ⟨h, h.lt hm x0 x1 hy⟩
  · exfalso
    have := (itS_r (c := c) (S := S) hm x0 x1 v).1
    rw [← h2] at this
    omega
theorem WkA.next {go pa go' pa' : Int → Int} {x y : Int} {w : Nat} (h : WkA c S m go pa x w y) (hy : go y = -2) (hc : cmO c S m (y / 2) = 0) (e1 : ∀ z, go' z = if z = y then -3 else go z) (e2 : ∀ j, pa' j = if j = (w : Int) then y else pa j) : WkA c S m go' pa' x (w + 1) (nxS c S m y) := by
  obtain ⟨h1, h2, h3, h4⟩ := h
  refine ⟨fun j hj => ?_, by rw [h2]; rfl, fun i j hij hj e => ?_, fun z z0 z1 hz => ?_⟩
  · rcases (by omega : j < w ∨ j = w) with q | q
    · have g := h1 j q
      refine ⟨by rw [e2, if_neg (by omega)]; exact g.1, g.2.1, ?_⟩
      rw [e1]
      split
      · rfl
      · exact g.2.2
    · subst q
      refine ⟨by rw [e2, if_pos rfl]; exact h2, by rw [← h2]; exact hc, by rw [e1, if_pos h2.symm]⟩
  · rcases (by omega : j < w ∨ j = w) with q | q
    · exact h3 i j hij q e
    · subst q
      have := (h1 i hij).2.2
      rw [e, ← h2, hy] at this
      exact absurd this (by decide)
  · have := hz w (by omega)
    rw [← h2] at this
    rw [e1, if_neg this]
    exact h4 z z0 z1 (fun j hj => hz j (by omega))
theorem WkA.calm {go pa go' pa' : Int → Int} {x y : Int} {w : Nat} (h : WkA c S m go pa x w y) (hc : cmO c S m (y / 2) = 1) (e1 : ∀ z, go' z = if z = y then y / 2 else go z) (e2 : ∀ j, pa' j = if j = (w : Int) then y else pa j) : WkB c S m go' pa' x (w + 1) y := by
  obtain ⟨h1, h2, h3, h4⟩ := h
  refine ⟨w, rfl, h2, hc, by rw [e1, if_pos rfl], fun j hj => ?_, fun j hj => (h1 j hj).2.1, fun z z0 z1 hz => ?_⟩
  · rcases (by omega : j < w ∨ j = w) with q | q
    · rw [e2, if_neg (by omega)]; exact (h1 j q).1
    · subst q; rw [e2, if_pos rfl]; exact h2
  · have := hz w (by omega)
    rw [← h2] at this
    rw [e1, if_neg this]
    exact h4 z z0 z1 (fun j hj => hz j (by omega))
end WK2
/-- how many of the first k orders lead to a goal -/
def cgO (c : Int → Int → Int) (S : Int) (m : Nat) (g : Int) : Nat → Int
  | 0 => 0
  | k + 1 => cgO c S m g k + (if Gs c S m (2 * k) = g then 1 else 0)
theorem cgO_r (c : Int → Int → Int) (S : Int) (m : Nat) (g : Int) : ∀ k : Nat, 0 ≤ cgO c S m g k ∧ cgO c S m g k ≤ k
  | 0 => ⟨Int.le_refl 0, Int.le_refl 0⟩
  | k + 1 => by
    have := cgO_r c S m g k
    unfold cgO
    split <;> omega
theorem cgO_s {c : Int → Int → Int} {S : Int} {m : Nat} {g k : Int} (k0 : 0 ≤ k) : cgO c S m g (k + 1).toNat = cgO c S m g k.toNat + (if Gs c S m (2 * k) = g then 1 else 0) := by
  rw [show (k + 1).toNat = k.toNat + 1 by omega, cgO, show ((k.toNat : Nat) : Int) = k by omega]
theorem sp_20o {d L t : Nat} {s l : Nat → Int → Int} {c : Int → Int → Int} {S : Int} {m : Nat} (S0 : 0 ≤ S) (hm : (blN S.toNat 10).length = m) (m7 : m < 7) (hC : CHc s c S) (h01 : ∀ x y, c x y = 0 ∨ c x y = 1) {k : Int} (k0 : 0 ≤ k) (k1 : k < fct m) : mm_Ev mm_ct mm_CM (d + 4) 20 [.ref 590, .long (lI (rwE (fun p => elF S (dgI m k p)) m)), .int (iI (m : Int))] (MX L t s l) (some (.int (iI (cmO c S m k))), MX L t s l) := by
  have h := sp_20 (d := d) (L := L) (t := t) (s := s) (l := l) hC h01 (inS_el S0 hm (dg_ok m7 k0 k1).1) (by omega) (by omega)
  rw [clN_el, show ((m : Int) - 1).toNat = m - 1 by omega] at h
  exact h
theorem sp_21o {d L t : Nat} {s l : Nat → Int → Int} {c : Int → Int → Int} {S : Int} {m : Nat} (S0 : 0 ≤ S) (hm : (blN S.toNat 10).length = m) (m7 : m < 7) (hC : CHc s c S) (h01 : ∀ x y, c x y = 0 ∨ c x y = 1) {k e : Int} (k0 : 0 ≤ k) (k1 : k < fct m) (e0 : 0 ≤ e) (e1 : e < 2) : mm_Ev mm_ct mm_CM (d + 4) 21 [.ref 590, .long (lI (rwE (fun p => elF S (dgI m k p)) m)), .int (iI (m : Int)), .int (iI e)] (MX L t s l) (some (.long (lI (rwE (fun p => elF S (nF (cE c S) m e (dgI m k) p)) m))), MX L t s l) := by
  have h := sp_21 (d := d) (L := L) (t := t) (s := s) (l := l) hC h01 (inS_el S0 hm (dg_ok m7 k0 k1).1) (by omega) (by omega) (k := e)
  rw [show e % 2 = e by omega, rwE_congr (fun p _ _ => nF_el c S m e (dgI m k) p)] at h
  exact h
theorem sp_37 {d L t : Nat} {s l : Nat → Int → Int} {S : Int} {m : Nat} (S0 : 0 ≤ S) (S1 : S < 1024) (hm : (blN S.toNat 10).length = m) (m7 : m < 7) (hFc : FcH s) (hS : s 594 2 = S) (hM : s 594 3 = (m : Int)) (hN : s 594 4 = ((fct m : Nat) : Int)) {c : Int → Int → Int} (hC : CHc s c S) (h01 : ∀ x y, c x y = 0 ∨ c x y = 1) : mm_Ev mm_ct mm_CM (d + 5) 37 [.ref 594, .ref 590] (MX L t s l) (some (.int (iI (cntO c S m (fct m)))), MX L t s l) := by
  have hc : (mm_CM 37).2.2.2.2.2.2.2 = mm_cf cd_37 := by rw [cm_37]; rfl
  refine ev_of (mx := 4) (by rw [cm_37]; decide) (by rw [cm_37]; rfl) (by show 2 ≤ _; decide) ?_
  show mm_wp _ _ (0, [some (.ref 594), some (.ref 590), none, none], [], MX L t s l) (fun r => r = (some (.int (iI (cntO c S m (fct m)))), MX L t s l))
  have hfm := fct_r m
  refine wi_ic hc rfl ?_
  refine wi_is1 (L' := [some (.ref 594), some (.ref 590), some (.int (iI 0)), none]) hc rfl (Nat.le_of_ble_eq_true rfl) rfl ?_
  refine wi_ic hc rfl ?_
  refine wi_is1 (L' := [some (.ref 594), some (.ref 590), some (.int (iI 0)), some (.int (iI 0))]) hc rfl (Nat.le_of_ble_eq_true rfl) rfl ?_
  have loop4_ : ∀ k : Int, k ≤ ((fct m : Nat) : Int) → 0 ≤ k → mm_wp (mm_Ev mm_ct mm_CM (d + 4)) 37 (4, [some (.ref 594), some (.ref 590), some (.int (iI (cntO c S m k.toNat))), some (.int (iI k))], [], MX L t s l) (fun r => r = (some (.int (iI (cntO c S m (fct m)))), MX L t s l)) := by
    refine up_ind ?_
    intro k hk9 ih k0
    have hct := cntO_r c S m k.toNat
    refine wi_i1 hc rfl rfl ?_
    refine wi_a1 hc rfl rfl ?_
    refine wi_gfv (kz := 4) rfl hc rfl rfl (by decide) (Nat.le_of_ble_eq_true rfl) rfl (v := ((fct m : Nat) : Int)) (hN) ?_
    refine wi_cge hc rfl ⟨by omega, by omega⟩ ⟨by omega, by omega⟩ (fun h1_ => ?_) (fun h1_ => ?_)
    · refine wi_i1 hc rfl rfl ?_
      refine wi_ri hc rfl (by rw [cm_37]; rfl) ?_
      rw [show fct m = k.toNat by omega]
    · refine wi_a1 hc rfl rfl ?_
      refine wi_a1 hc rfl rfl ?_
      refine wi_i1 hc rfl rfl ?_
      refine wp_cv (b := 594) (As := [.int (iI k)]) (r := [.ref 590]) hc rfl (by rw [cm_35]; rfl) rfl (Nat.le_of_ble_eq_true rfl) (show 594 < 621 by decide) (by rw [cm_35]; rfl) (ev_mono (sp_35 (d := 0) S0 S1 hm m7 hFc hS hM (n := k) (by omega) (by omega)) (by omega)) ?_
      show mm_wp _ _ (18, [some (.ref 594), some (.ref 590), some (.int (iI (cntO c S m k.toNat))), some (.int (iI k))], [.long (lI (rwE (fun p => elF S (dgI m k p)) (m : Int))), .ref 590], MX L t s l) _
      refine wi_a1 hc rfl rfl ?_
      refine wi_gfv (kz := 3) rfl hc rfl rfl (by decide) (Nat.le_of_ble_eq_true rfl) rfl (v := (m : Int)) (hM) ?_
      refine wp_cv (b := 590) (As := [.long (lI (rwE (fun p => elF S (dgI m k p)) (m : Int))), .int (iI (m : Int))]) (r := []) hc rfl (by rw [cm_20]; rfl) rfl (Nat.le_of_ble_eq_true rfl) (show 590 < 621 by decide) (by rw [cm_20]; rfl) (ev_mono (sp_20o (d := 0) S0 hm m7 hC h01 (k := k) (by omega) (by omega)) (by omega)) ?_
      have h9_ := cmO_01 c S m k
      show mm_wp _ _ (25, [some (.ref 594), some (.ref 590), some (.int (iI (cntO c S m k.toNat))), some (.int (iI k))], [.int (iI (cmO c S m k))], MX L t s l) _
      refine wi_zeq hc rfl ⟨by omega, by omega⟩ (fun h2_ => ?_) (fun h2_ => ?_)
      · refine wi_inc (L' := [some (.ref 594), some (.ref 590), some (.int (iI (cntO c S m k.toNat))), some (.int (iI (k + 1)))]) hc rfl rfl rfl ?_
        refine wi_go hc rfl ?_
        have e9 : cntO c S m k.toNat = cntO c S m (k + 1).toNat := by rw [cntO_s k0, if_neg (by omega)]; omega
        rw [e9]
        exact ih (by omega) (by omega)
      · refine wi_inc (L' := [some (.ref 594), some (.ref 590), some (.int (iI (cntO c S m k.toNat + 1))), some (.int (iI k))]) hc rfl rfl rfl ?_
        refine wi_inc (L' := [some (.ref 594), some (.ref 590), some (.int (iI (cntO c S m k.toNat + 1))), some (.int (iI (k + 1)))]) hc rfl rfl rfl ?_
        refine wi_go hc rfl ?_
        have e9 : cntO c S m k.toNat + 1 = cntO c S m (k + 1).toNat := by rw [cntO_s k0, if_pos (by omega)]
        rw [e9]
        exact ih (by omega) (by omega)
  exact loop4_ 0 (by omega) (by omega)
theorem sp_38 {d L t : Nat} {s l : Nat → Int → Int} {S : Int} {m : Nat} (S0 : 0 ≤ S) (S1 : S < 1024) (hm : (blN S.toNat 10).length = m) (m7 : m < 7) (hFc : FcH s) (hS : s 594 2 = S) (hM : s 594 3 = (m : Int)) (hN : s 594 4 = ((fct m : Nat) : Int)) {c : Int → Int → Int} (hC : CHc s c S) (h01 : ∀ x y, c x y = 0 ∨ c x y = 1) {i : Int} (hi : rI i) : mm_Ev mm_ct mm_CM (d + 5) 38 [.ref 594, .ref 590, .int (iI i)] (MX L t s l) (some (.int (iI (fdO c S m i))), MX L t s l) := by
  have hc : (mm_CM 38).2.2.2.2.2.2.2 = mm_cf cd_38 := by rw [cm_38]; rfl
  refine ev_of (mx := 5) (by rw [cm_38]; decide) (by rw [cm_38]; rfl) (by show 3 ≤ _; decide) ?_
  show mm_wp _ _ (0, [some (.ref 594), some (.ref 590), some (.int (iI i)), none, none], [], MX L t s l) (fun r => r = (some (.int (iI (fdO c S m i))), MX L t s l))
  have hfm := fct_r m
  refine wi_ic hc rfl ?_
  refine wi_is1 (L' := [some (.ref 594), some (.ref 590), some (.int (iI i)), some (.int (iI 0)), none]) hc rfl (Nat.le_of_ble_eq_true rfl) rfl ?_
  refine wi_ic hc rfl ?_
  refine wi_is2 (L' := [some (.ref 594), some (.ref 590), some (.int (iI i)), some (.int (iI 0)), some (.int (iI 0))]) hc rfl (Nat.le_of_ble_eq_true rfl) rfl ?_
  have loop5_ : ∀ k : Int, k ≤ ((fct m : Nat) : Int) → 0 ≤ k → ∀ e : Int, 0 ≤ e → e ≤ k → fdO c S m i = fndO c S m i (((fct m : Nat) : Int) - k).toNat k e → mm_wp (mm_Ev mm_ct mm_CM (d + 4)) 38 (5, [some (.ref 594), some (.ref 590), some (.int (iI i)), some (.int (iI e)), some (.int (iI k))], [], MX L t s l) (fun r => r = (some (.int (iI (fdO c S m i))), MX L t s l)) := by
    refine up_ind ?_
    intro k hk9 ih k0 e e0 e1 hfd
    refine wi_i2 hc rfl rfl ?_
    refine wi_a1 hc rfl rfl ?_
    refine wi_gfv (kz := 4) rfl hc rfl rfl (by decide) (Nat.le_of_ble_eq_true rfl) rfl (v := ((fct m : Nat) : Int)) (hN) ?_
    refine wi_cge hc rfl ⟨by omega, by omega⟩ ⟨by omega, by omega⟩ (fun h1_ => ?_) (fun h1_ => ?_)
    · refine wi_ic hc rfl ?_
      refine wi_ri hc rfl (by rw [cm_38]; rfl) ?_
      rw [hfd, show (((fct m : Nat) : Int) - k).toNat = 0 by omega]
      rfl
    · refine wi_a1 hc rfl rfl ?_
      refine wi_a1 hc rfl rfl ?_
      refine wi_i2 hc rfl rfl ?_
      refine wp_cv (b := 594) (As := [.int (iI k)]) (r := [.ref 590]) hc rfl (by rw [cm_35]; rfl) rfl (Nat.le_of_ble_eq_true rfl) (show 594 < 621 by decide) (by rw [cm_35]; rfl) (ev_mono (sp_35 (d := 0) S0 S1 hm m7 hFc hS hM (n := k) (by omega) (by omega)) (by omega)) ?_
      show mm_wp _ _ (21, [some (.ref 594), some (.ref 590), some (.int (iI i)), some (.int (iI e)), some (.int (iI k))], [.long (lI (rwE (fun p => elF S (dgI m k p)) (m : Int))), .ref 590], MX L t s l) _
      refine wi_a1 hc rfl rfl ?_
      refine wi_gfv (kz := 3) rfl hc rfl rfl (by decide) (Nat.le_of_ble_eq_true rfl) rfl (v := (m : Int)) (hM) ?_
      refine wp_cv (b := 590) (As := [.long (lI (rwE (fun p => elF S (dgI m k p)) (m : Int))), .int (iI (m : Int))]) (r := []) hc rfl (by rw [cm_20]; rfl) rfl (Nat.le_of_ble_eq_true rfl) (show 590 < 621 by decide) (by rw [cm_20]; rfl) (ev_mono (sp_20o (d := 0) S0 hm m7 hC h01 (k := k) (by omega) (by omega)) (by omega)) ?_
      have h9_ := cmO_01 c S m k
      show mm_wp _ _ (28, [some (.ref 594), some (.ref 590), some (.int (iI i)), some (.int (iI e)), some (.int (iI k))], [.int (iI (cmO c S m k))], MX L t s l) _
      refine wi_zeq hc rfl ⟨by omega, by omega⟩ (fun h2_ => ?_) (fun h2_ => ?_)
      · refine wi_inc (L' := [some (.ref 594), some (.ref 590), some (.int (iI i)), some (.int (iI e)), some (.int (iI (k + 1)))]) hc rfl rfl rfl ?_
        refine wi_go hc rfl ?_
        exact ih (by omega) (by omega) e (by omega) (by omega) (by rw [hfd, fndO_s (by omega), if_neg (by omega)])
      · refine wi_i1 hc rfl rfl ?_
        refine wi_i1 hc rfl rfl ?_
        refine wi_cne hc rfl ⟨by omega, by omega⟩ hi (fun h3_ => ?_) (fun h3_ => ?_)
        · refine wi_inc (L' := [some (.ref 594), some (.ref 590), some (.int (iI i)), some (.int (iI (e + 1))), some (.int (iI k))]) hc rfl rfl rfl ?_
          refine wi_inc (L' := [some (.ref 594), some (.ref 590), some (.int (iI i)), some (.int (iI (e + 1))), some (.int (iI (k + 1)))]) hc rfl rfl rfl ?_
          refine wi_go hc rfl ?_
          exact ih (by omega) (by omega) (e + 1) (by omega) (by omega) (by rw [hfd, fndO_s (by omega), if_pos (by omega), if_neg (by omega)])
        · refine wi_i2 hc rfl rfl ?_
          refine wi_ri hc rfl (by rw [cm_38]; rfl) ?_
          rw [hfd, fndO_s (by omega), if_pos (by omega), if_pos (by omega)]
  exact loop5_ 0 (by omega) (by omega) 0 (by omega) (by omega) (by unfold fdO; rw [show (((fct m : Nat) : Int) - 0).toNat = fct m by omega])
theorem nat_dn {N : Nat} {P : Nat → Prop} (h : ∀ w, w ≤ N → (∀ v, w < v → v ≤ N → P v) → P w) : ∀ w, w ≤ N → P w := by
  have key : ∀ (u w : Nat), w ≤ N → N - w ≤ u → P w := by
    intro u
    induction u with
    | zero => exact fun w hw hu => h w hw (fun v a b => absurd a (by omega))
    | succ u ih => exact fun w hw hu => h w hw (fun v a b => ih v b (by omega))
  exact fun w hw => key (N - w) w hw (Nat.le_refl _)
theorem sp_40 {d L t : Nat} {s l : Nat → Int → Int} {S : Int} {m : Nat} (S0 : 0 ≤ S) (S1 : S < 1024) (hm : (blN S.toNat 10).length = m) (m7 : m < 7) (hFc : FcH s) (hS : s 594 2 = S) (hM : s 594 3 = (m : Int)) (hN : s 594 4 = ((fct m : Nat) : Int)) {c : Int → Int → Int} (hC : CHc s c S) (h01 : ∀ x y, c x y = 0 ∨ c x y = 1) (hGI : GI c S m (s 595)) {x : Int} (x0 : 0 ≤ x) (x1 : x < 2 * fct m) : ∃ s1, mm_Ev mm_ct mm_CM (d + 5) 40 [.ref 594, .ref 590, .int (iI x)] (MX L t s l) (some (.int (iI (Gs c S m x))), MX L t s1 l) ∧ (∀ c, c ≠ 595 ∧ c ≠ 596 → s1 c = s c) ∧ GI c S m (s1 595) := by
  have hc : (mm_CM 40).2.2.2.2.2.2.2 = mm_cf cd_40 := by rw [cm_40]; rfl
  refine ev_xs ?_
  refine ev_to (mx := 8) (by rw [cm_40]; decide) (by rw [cm_40]; rfl) (by show 3 ≤ _; decide) ?_
  show mm_wp _ _ (0, [some (.ref 594), some (.ref 590), some (.int (iI x)), none, none, none, none, none], [], MX L t s l) (fun res => ∃ s1, res = (some (.int (iI (Gs c S m x))), MX L t s1 l) ∧ (∀ c, c ≠ 595 ∧ c ≠ 596 → s1 c = s c) ∧ GI c S m (s1 595))
  have hfm := fct_r m
  refine wi_i1 hc rfl rfl ?_
  refine wi_is1 (L' := [some (.ref 594), some (.ref 590), some (.int (iI x)), some (.int (iI x)), none, none, none, none]) hc rfl (Nat.le_of_ble_eq_true rfl) rfl ?_
  refine wi_ic hc rfl ?_
  refine wi_is2 (L' := [some (.ref 594), some (.ref 590), some (.int (iI x)), some (.int (iI x)), some (.int (iI 0)), none, none, none]) hc rfl (Nat.le_of_ble_eq_true rfl) rfl ?_
  have loop5_ : ∀ w : Nat, w ≤ 2 * fct m → ∀ (y : Int) (o5 o7 : Option Value) (s2 : Nat → Int → Int), (∀ c, c ≠ 595 ∧ c ≠ 596 → s2 c = s c) → (WkA c S m (s2 595) (s2 596) x w y ∨ WkB c S m (s2 595) (s2 596) x w y) → mm_wp (mm_Ev mm_ct mm_CM (d + 4)) 40 (5, [some (.ref 594), some (.ref 590), some (.int (iI x)), some (.int (iI y)), some (.int (iI (w : Int))), o5, none, o7], [], MX L t s2 l) (fun res => ∃ s1, res = (some (.int (iI (Gs c S m x))), MX L t s1 l) ∧ (∀ c, c ≠ 595 ∧ c ≠ 596 → s1 c = s c) ∧ GI c S m (s1 595)) := by
    refine nat_dn ?_
    intro w hw9 ih9 y o5 o7 s2 hF2 hW
    have hFc2 : FcH s2 := hFc.of (hF2 1000000 (by decide))
    have hS2 : s2 594 2 = S := (congrFun (hF2 594 (by decide)) _).trans hS
    have hM2 : s2 594 3 = (m : Int) := (congrFun (hF2 594 (by decide)) _).trans hM
    have hN2 : s2 594 4 = ((fct m : Nat) : Int) := (congrFun (hF2 594 (by decide)) _).trans hN
    have hC2 : CHc s2 c S := hC.of (hF2 592 (by decide))
    have hwr := Wk_r m7 x0 x1 hW
    refine wi_i2 hc rfl rfl ?_
    have join112_ : (s2 595 y ≠ -2) → mm_wp (mm_Ev mm_ct mm_CM (d + 4)) 40 (112, [some (.ref 594), some (.ref 590), some (.int (iI x)), some (.int (iI y)), some (.int (iI (w : Int))), o5, none, o7], [], MX L t s2 l) (fun res => ∃ s1, res = (some (.int (iI (Gs c S m x))), MX L t s1 l) ∧ (∀ c, c ≠ 595 ∧ c ≠ 596 → s1 c = s c) ∧ GI c S m (s1 595)) := by
      intro hy9
      obtain ⟨⟨hg1, hg2⟩, hgp, hgz⟩ := Wk_end m7 x0 x1 hW hy9
      have hGr := Gs_r (c := c) (S := S) m7 x0 x1
      have hwr := Wk_r m7 x0 x1 hW
      refine wi_a1 hc rfl rfl ?_
      have join133_ :  mm_wp (mm_Ev mm_ct mm_CM (d + 4)) 40 (133, [some (.ref 594), some (.ref 590), some (.int (iI x)), some (.int (iI y)), some (.int (iI (w : Int))), o5, none, o7], [.int (iI (Gs c S m x))], MX L t s2 l) (fun res => ∃ s1, res = (some (.int (iI (Gs c S m x))), MX L t s1 l) ∧ (∀ c, c ≠ 595 ∧ c ≠ 596 → s1 c = s c) ∧ GI c S m (s1 595)) := by
        skip
        refine wi_is2 (L' := [some (.ref 594), some (.ref 590), some (.int (iI x)), some (.int (iI y)), some (.int (iI (w : Int))), some (.int (iI (Gs c S m x))), none, o7]) hc rfl (Nat.le_of_ble_eq_true rfl) rfl ?_
        refine wi_ic hc rfl ?_
        refine wi_is2 (L' := [some (.ref 594), some (.ref 590), some (.int (iI x)), some (.int (iI y)), some (.int (iI (w : Int))), some (.int (iI (Gs c S m x))), some (.int (iI 0)), o7]) hc rfl (Nat.le_of_ble_eq_true rfl) rfl ?_
        have loop138_ : ∀ i : Int, i ≤ (w : Int) → 0 ≤ i → ∀ s3 : Nat → Int → Int, (∀ c, c ≠ 595 → s3 c = s2 c) → (∀ j : Nat, (j : Int) < i → s3 595 (itS c S m x j) = Gs c S m x) → (∀ z, (∀ j : Nat, (j : Int) < i → z ≠ itS c S m x j) → s3 595 z = s2 595 z) → mm_wp (mm_Ev mm_ct mm_CM (d + 4)) 40 (138, [some (.ref 594), some (.ref 590), some (.int (iI x)), some (.int (iI y)), some (.int (iI (w : Int))), some (.int (iI (Gs c S m x))), some (.int (iI i)), o7], [], MX L t s3 l) (fun res => ∃ s1, res = (some (.int (iI (Gs c S m x))), MX L t s1 l) ∧ (∀ c, c ≠ 595 ∧ c ≠ 596 → s1 c = s c) ∧ GI c S m (s1 595)) := by
          refine up_ind ?_
          intro i hi9 ih3 i0 s3 hF3 hp3 hq3
          refine wi_i2 hc rfl rfl ?_
          refine wi_i2 hc rfl rfl ?_
          refine wi_cge hc rfl ⟨by omega, by omega⟩ ⟨by omega, by omega⟩ (fun h1_ => ?_) (fun h1_ => ?_)
          · refine wi_i2 hc rfl rfl ?_
            refine wi_ri hc rfl (by rw [cm_40]; rfl) ?_
            have ei : i = (w : Int) := by omega
            exact ⟨s3, rfl, fun c9 hc9 => (hF3 c9 (by omega)).trans (hF2 c9 hc9), fun z z0 z1 => by
              rcases Classical.em (∃ j : Nat, (j : Int) < i ∧ z = itS c S m x j) with q | q
              · obtain ⟨j, hj, e⟩ := q
                right
                rw [e, hp3 j hj, (hgp j (by omega)).2]
              · rw [hq3 z (fun j hj e => q ⟨j, hj, e⟩)]
                exact hgz z z0 z1 (fun j hj e => q ⟨j, by omega, e⟩)⟩
          · have hpi0 := hgp i.toNat (by omega)
            have hpi : s3 596 i = itS c S m x i.toNat := (congrFun (hF3 596 (by decide)) _).trans (by have := hpi0.1; rwa [show ((i.toNat : Nat) : Int) = i by omega] at this)
            have hir := itS_r (c := c) (S := S) m7 x0 x1 i.toNat
            refine wi_a1 hc rfl rfl ?_
            refine wi_gr (w := 595) hc rfl rfl (by decide) (Nat.le_of_ble_eq_true rfl) rfl ?_
            refine wi_a1 hc rfl rfl ?_
            refine wi_gr (w := 596) hc rfl rfl (by decide) (Nat.le_of_ble_eq_true rfl) rfl ?_
            refine wi_i2 hc rfl rfl ?_
            refine wi_ildv (N := 1440) hc rfl rfl (by decide) (by decide) (by omega) (by omega) (v := itS c S m x i.toNat) (hpi) ?_
            refine wi_i2 hc rfl rfl ?_
            refine wi_ist (N := 1440) hc rfl rfl (by decide) (by decide) (by omega) (by omega) ?_
            obtain ⟨s1_, es1_⟩ : ∃ q, q = up s3 595 (itS c S m x i.toNat) (Gs c S m x) := ⟨_, rfl⟩
            rw [← es1_]
            refine wi_inc (L' := [some (.ref 594), some (.ref 590), some (.int (iI x)), some (.int (iI y)), some (.int (iI (w : Int))), some (.int (iI (Gs c S m x))), some (.int (iI (i + 1))), o7]) hc rfl rfl rfl ?_
            refine wi_go hc rfl ?_
            refine ih3 (by omega) (by omega) s1_ (fun c9 hc9 => ((congrFun es1_ c9).trans (up_cc (by omega))).trans (hF3 c9 hc9)) (fun j hj => ?_) (fun z9 hz => ?_)
            · rw [es1_, up_ite]
              split
              · rfl
              · rename_i q
                refine hp3 j ?_
                rcases (by omega : (j : Int) < i ∨ (j : Int) = i) with z8 | z8
                · exact z8
                · exact absurd (by rw [show i.toNat = j by omega]) q
            · rw [es1_, up_ite, if_neg (by have := hz i.toNat (by omega); exact this)]
              exact hq3 z9 (fun j hj => hz j (by omega))
        exact loop138_ 0 (by omega) (by omega) s2 (fun c _ => rfl) (fun j hj => absurd hj (by omega)) (fun z _ => rfl)
      refine wi_gr (w := 595) hc rfl rfl (by decide) (Nat.le_of_ble_eq_true rfl) rfl ?_
      refine wi_i1 hc rfl rfl ?_
      refine wi_ild (N := 1440) hc rfl rfl (by decide) (by decide) (by omega) (by omega) ?_
      refine wi_bi hc rfl rfl ?_
      refine wi_cne hc rfl ⟨by omega, by omega⟩ ⟨by decide, by decide⟩ (fun h2_ => ?_) (fun h2_ => ?_)
      · refine wi_a1 hc rfl rfl ?_
        refine wi_gr (w := 595) hc rfl rfl (by decide) (Nat.le_of_ble_eq_true rfl) rfl ?_
        refine wi_i1 hc rfl rfl ?_
        refine wi_ild (N := 1440) hc rfl rfl (by decide) (by decide) (by omega) (by omega) ?_
        have e9 : s2 595 y = Gs c S m x := by omega
        rw [e9]
        exact join133_
      · refine wi_ic hc rfl ?_
        refine wi_go hc rfl ?_
        have e9 : (-1) = Gs c S m x := by omega
        rw [e9]
        exact join133_
    refine wi_ic hc rfl ?_
    refine wi_a1 hc rfl rfl ?_
    refine wi_gfv (kz := 4) rfl hc rfl rfl (by decide) (Nat.le_of_ble_eq_true rfl) rfl (v := ((fct m : Nat) : Int)) (hN2) ?_
    refine wi_mul hc rfl ?_
    refine wi_cge hc rfl ⟨by omega, by omega⟩ ⟨by omega, by omega⟩ (fun h3_ => ?_) (fun h3_ => ?_)
    · exact join112_ (by intro q9; have := (Wk_go m7 x0 x1 hW q9).2; omega)
    · refine wi_a1 hc rfl rfl ?_
      refine wi_gr (w := 595) hc rfl rfl (by decide) (Nat.le_of_ble_eq_true rfl) rfl ?_
      refine wi_i1 hc rfl rfl ?_
      refine wi_ild (N := 1440) hc rfl rfl (by decide) (by decide) (by omega) (by omega) ?_
      refine wi_bi hc rfl rfl ?_
      refine wi_cne hc rfl ⟨by omega, by omega⟩ ⟨by decide, by decide⟩ (fun h4_ => ?_) (fun h4_ => ?_)
      · exact join112_ (by intro q9; have := (Wk_go m7 x0 x1 hW q9).2; omega)
      · have hgy : s2 595 y = -2 := by omega
        have hwg := Wk_go m7 x0 x1 hW hgy
        refine wi_a1 hc rfl rfl ?_
        refine wi_gr (w := 595) hc rfl rfl (by decide) (Nat.le_of_ble_eq_true rfl) rfl ?_
        refine wi_i1 hc rfl rfl ?_
        refine wi_bi hc rfl rfl ?_
        refine wi_ist (N := 1440) hc rfl rfl (by decide) (by decide) (by omega) (by omega) ?_
        obtain ⟨s2_, es2_⟩ : ∃ q, q = up s2 595 y (-3) := ⟨_, rfl⟩
        rw [← es2_]
        refine wi_a1 hc rfl rfl ?_
        refine wi_gr (w := 596) hc rfl rfl (by decide) (Nat.le_of_ble_eq_true rfl) rfl ?_
        refine wi_i2 hc rfl rfl ?_
        refine wi_i1 hc rfl rfl ?_
        refine wi_ist (N := 1440) hc rfl rfl (by decide) (by decide) (by omega) (by omega) ?_
        obtain ⟨s3_, es3_⟩ : ∃ q, q = up s2_ 596 (w : Int) y := ⟨_, rfl⟩
        rw [← es3_]
        refine wi_inc (L' := [some (.ref 594), some (.ref 590), some (.int (iI x)), some (.int (iI y)), some (.int (iI ((w : Int) + 1))), o5, none, o7]) hc rfl rfl rfl ?_
        have hFc3 : FcH s3_ := hFc2.of (((congrFun es3_ 1000000).trans (up_cc (by decide))).trans ((congrFun es2_ 1000000).trans (up_cc (by decide))))
        have hS3 : s3_ 594 2 = S := (congrFun (((congrFun es3_ 594).trans (up_cc (by decide))).trans ((congrFun es2_ 594).trans (up_cc (by decide)))) _).trans hS2
        have hM3 : s3_ 594 3 = (m : Int) := (congrFun (((congrFun es3_ 594).trans (up_cc (by decide))).trans ((congrFun es2_ 594).trans (up_cc (by decide)))) _).trans hM2
        have hN3 : s3_ 594 4 = ((fct m : Nat) : Int) := (congrFun (((congrFun es3_ 594).trans (up_cc (by decide))).trans ((congrFun es2_ 594).trans (up_cc (by decide)))) _).trans hN2
        have hC3 : CHc s3_ c S := hC2.of (((congrFun es3_ 592).trans (up_cc (by decide))).trans ((congrFun es2_ 592).trans (up_cc (by decide))))
        refine wi_a1 hc rfl rfl ?_
        refine wi_i1 hc rfl rfl ?_
        refine wi_ic hc rfl ?_
        refine wi_shr 2 rfl hc rfl ⟨by omega, by omega⟩ (by omega) (by omega) ?_
        refine wp_cv (b := 594) (As := [.int (iI (y / 2))]) (r := []) hc rfl (by rw [cm_35]; rfl) rfl (Nat.le_of_ble_eq_true rfl) (show 594 < 621 by decide) (by rw [cm_35]; rfl) (ev_mono (sp_35 (d := 0) S0 S1 hm m7 hFc3 hS3 hM3 (n := y / 2) (by omega) (by omega)) (by omega)) ?_
        show mm_wp _ _ (53, [some (.ref 594), some (.ref 590), some (.int (iI x)), some (.int (iI y)), some (.int (iI ((w : Int) + 1))), o5, none, o7], [.long (lI (rwE (fun p => elF S (dgI m (y / 2) p)) (m : Int)))], MX L t s3_ l) _
        refine wi_ls2 (L' := [some (.ref 594), some (.ref 590), some (.int (iI x)), some (.int (iI y)), some (.int (iI ((w : Int) + 1))), some (.long (lI (rwE (fun p => elF S (dgI m (y / 2) p)) (m : Int)))), none, o7]) hc rfl (Nat.le_of_ble_eq_true rfl) rfl ?_
        refine wi_a1 hc rfl rfl ?_
        refine wi_l2 hc rfl rfl ?_
        refine wi_a1 hc rfl rfl ?_
        refine wi_gfv (kz := 3) rfl hc rfl rfl (by decide) (Nat.le_of_ble_eq_true rfl) rfl (v := (m : Int)) (hM3) ?_
        refine wp_cv (b := 590) (As := [.long (lI (rwE (fun p => elF S (dgI m (y / 2) p)) (m : Int))), .int (iI (m : Int))]) (r := []) hc rfl (by rw [cm_20]; rfl) rfl (Nat.le_of_ble_eq_true rfl) (show 590 < 621 by decide) (by rw [cm_20]; rfl) (ev_mono (sp_20o (d := 0) S0 hm m7 hC3 h01 (k := y / 2) (by omega) (by omega)) (by omega)) ?_
        have h9_ := cmO_01 c S m (y / 2)
        show mm_wp _ _ (65, [some (.ref 594), some (.ref 590), some (.int (iI x)), some (.int (iI y)), some (.int (iI ((w : Int) + 1))), some (.long (lI (rwE (fun p => elF S (dgI m (y / 2) p)) (m : Int)))), none, o7], [.int (iI (cmO c S m (y / 2)))], MX L t s3_ l) _
        refine wi_zeq hc rfl ⟨by omega, by omega⟩ (fun h5_ => ?_) (fun h5_ => ?_)
        · refine wi_i1 hc rfl rfl ?_
          refine wi_ic hc rfl ?_
          refine wi_msk 1 2 rfl (by decide) (by decide) hc rfl ?_
          refine wi_is2 (L' := [some (.ref 594), some (.ref 590), some (.int (iI x)), some (.int (iI y)), some (.int (iI ((w : Int) + 1))), some (.long (lI (rwE (fun p => elF S (dgI m (y / 2) p)) (m : Int)))), none, some (.int (iI (y % 2)))]) hc rfl (Nat.le_of_ble_eq_true rfl) rfl ?_
          refine wi_ic hc rfl ?_
          refine wi_a1 hc rfl rfl ?_
          refine wi_a1 hc rfl rfl ?_
          refine wi_l2 hc rfl rfl ?_
          refine wi_a1 hc rfl rfl ?_
          refine wi_gfv (kz := 3) rfl hc rfl rfl (by decide) (Nat.le_of_ble_eq_true rfl) rfl (v := (m : Int)) (hM3) ?_
          refine wi_i2 hc rfl rfl ?_
          refine wp_cv (b := 590) (As := [.long (lI (rwE (fun p => elF S (dgI m (y / 2) p)) (m : Int))), .int (iI (m : Int)), .int (iI (y % 2))]) (r := [.ref 594, .int (iI 2)]) hc rfl (by rw [cm_21]; rfl) rfl (Nat.le_of_ble_eq_true rfl) (show 590 < 621 by decide) (by rw [cm_21]; rfl) (ev_mono (sp_21o (d := 0) S0 hm m7 hC3 h01 (k := y / 2) (e := y % 2) (by omega) (by omega) (by omega) (by omega)) (by omega)) ?_
          show mm_wp _ _ (99, [some (.ref 594), some (.ref 590), some (.int (iI x)), some (.int (iI y)), some (.int (iI ((w : Int) + 1))), some (.long (lI (rwE (fun p => elF S (dgI m (y / 2) p)) (m : Int)))), none, some (.int (iI (y % 2)))], [.long (lI (rwE (fun p => elF S (nF (cE c S) m (y % 2) (dgI m (y / 2)) p)) (m : Int))), .ref 594, .int (iI 2)], MX L t s3_ l) _
          have hdgy := dg_ok m7 (n := y / 2) (by omega) (by omega)
          refine wp_cv (b := 594) (As := [.long (lI (rwE (fun p => elF S (nF (cE c S) m (y % 2) (dgI m (y / 2)) p)) (m : Int)))]) (r := [.int (iI 2)]) hc rfl (by rw [cm_36]; rfl) rfl (Nat.le_of_ble_eq_true rfl) (show 594 < 621 by decide) (by rw [cm_36]; rfl) (ev_mono (sp_36 (d := 0) S0 S1 hm m7 hFc3 hS3 hM3 (f := nF (cE c S) m (y % 2) (dgI m (y / 2))) (nF_all (P := fun v => 0 ≤ v ∧ v < (m : Int)) hdgy.1 (by omega)) (hdgy.2.1.nF (by omega))) (by omega)) ?_
          have hrk := (rk_ok m7 (nF_all (P := fun v => 0 ≤ v ∧ v < (m : Int)) hdgy.1 (by omega : 0 ≤ y % 2)) (hdgy.2.1.nF (c := cE c S) (by omega : 0 ≤ y % 2))).1
          show mm_wp _ _ (102, [some (.ref 594), some (.ref 590), some (.int (iI x)), some (.int (iI y)), some (.int (iI ((w : Int) + 1))), some (.long (lI (rwE (fun p => elF S (dgI m (y / 2) p)) (m : Int)))), none, some (.int (iI (y % 2)))], [.int (iI (rkI m (nF (cE c S) m (y % 2) (dgI m (y / 2))))), .int (iI 2)], MX L t s3_ l) _
          refine wi_mul hc rfl ?_
          refine wi_ic hc rfl ?_
          refine wi_add hc rfl ?_
          refine wi_i2 hc rfl rfl ?_
          refine wi_sub hc rfl ?_
          refine wi_is1 (L' := [some (.ref 594), some (.ref 590), some (.int (iI x)), some (.int (iI (((2 * (rkI m (nF (cE c S) m (y % 2) (dgI m (y / 2))))) + 1) - (y % 2)))), some (.int (iI ((w : Int) + 1))), some (.long (lI (rwE (fun p => elF S (dgI m (y / 2) p)) (m : Int)))), none, some (.int (iI (y % 2)))]) hc rfl (Nat.le_of_ble_eq_true rfl) rfl ?_
          refine wi_go hc rfl ?_
          have hW9 := hwg.1.next (go' := s3_ 595) (pa' := s3_ 596) hgy (by omega) (fun z => by rw [es3_, up_c (by decide), es2_, up_ite]) (fun j => by rw [es3_, up_ite, es2_, up_c (by decide)])
          have e9 : ((2 * (rkI m (nF (cE c S) m (y % 2) (dgI m (y / 2))))) + 1) - (y % 2) = nxS c S m y := by unfold nxS; omega
          rw [e9]
          exact ih9 (w + 1) (by omega) (by omega) _ _ _ _ (fun c hc9_ => ((congrFun es3_ c).trans (up_cc (by omega))).trans (((congrFun es2_ c).trans (up_cc (by omega))).trans (hF2 c (by omega)))) (Or.inl hW9)
        · refine wi_a1 hc rfl rfl ?_
          refine wi_gr (w := 595) hc rfl rfl (by decide) (Nat.le_of_ble_eq_true rfl) rfl ?_
          refine wi_i1 hc rfl rfl ?_
          refine wi_i1 hc rfl rfl ?_
          refine wi_ic hc rfl ?_
          refine wi_shr 2 rfl hc rfl ⟨by omega, by omega⟩ (by omega) (by omega) ?_
          refine wi_ist (N := 1440) hc rfl rfl (by decide) (by decide) (by omega) (by omega) ?_
          obtain ⟨s4_, es4_⟩ : ∃ q, q = up s3_ 595 y (y / 2) := ⟨_, rfl⟩
          rw [← es4_]
          refine wi_go hc rfl ?_
          refine wi_go hc rfl ?_
          have hW9 := hwg.1.calm (go' := s4_ 595) (pa' := s4_ 596) (by omega) (fun z => by rw [es4_, up_ite, es3_, up_c (by decide), es2_, up_ite]; split <;> rfl) (fun j => by rw [es4_, up_c (by decide), es3_, up_ite, es2_, up_c (by decide)])
          exact ih9 (w + 1) (by omega) (by omega) _ _ _ _ (fun c hc9_ => ((congrFun es4_ c).trans (up_cc (by omega))).trans (((congrFun es3_ c).trans (up_cc (by omega))).trans (((congrFun es2_ c).trans (up_cc (by omega))).trans (hF2 c (by omega))))) (Or.inr hW9)
  exact loop5_ 0 (by omega) x none none s (fun c _ => rfl) (Or.inl ⟨fun j hj => absurd hj (by omega), rfl, fun i j _ hj => absurd hj (by omega), fun z z0 z1 _ => hGI z z0 z1⟩)
