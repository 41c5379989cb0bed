/-! The class's ask and either. -/
theorem rpCmp_1 {k : Int → Int} {one : rpS → rpR} {z y : rpS} (h : rpSum k one z = (0, y)) (h2 : rpIs (k y.1) = true) : rpCmp k one z = rpB (rpSum k one (rpNx y)) (fun x => (0, rpPut (10000 + k y.1) x)) := by rw [rpCmp, h]; exact if_pos h2
theorem rpCmp_0 {k : Int → Int} {one : rpS → rpR} {z y : rpS} (h : rpSum k one z = (0, y)) (h2 : ¬ rpIs (k y.1) = true) : rpCmp k one z = (1, y) := by rw [rpCmp, h]; exact if_neg h2
theorem rpCmp_n {k : Int → Int} {one : rpS → rpR} {z : rpS} {r : rpR} (h : rpSum k one z = r) (h2 : r.1 ≠ 0) : rpCmp k one z = r := by rw [rpCmp, h]; exact rpB_n h2
theorem rpIs_iff {q : Int} : rpIs q = true ↔ ((29 ≤ q ∧ q ≤ 32) ∨ q = 40 ∨ q = 41) := decide_eq_true_iff
theorem rpCmp_K {k nm : Int → Int} {w tn : Int} {m : Nat} (hk : ∀ a, tn ≤ a → k a = 43) {z y : rpS} (h : rpCmp k (rpOne k nm w m) z = (0, y)) : rpK tn z y := by
  obtain ⟨u, h1, h2⟩ := rpB_0 h
  have g1 := (rpSum_K (rpOne_K (nm := nm) (w := w) hk m) h1).1
  split at h2
  · obtain ⟨x, h3, h4⟩ := rpB_0 h2
    have g2 := (rpSum_K (rpOne_K (nm := nm) (w := w) hk m) h3).1
    cases h4
    exact rpK_tr g1 g2
  · cases h2
theorem rpAsk_K {k nm : Int → Int} {w tn : Int} (hk : ∀ a, tn ≤ a → k a = 43) : ∀ m : Nat, rpO k tn (rpAsk k nm w m)
  | 0, z, y, h => by
    unfold rpAsk at h
    split at h
    · cases h
    · exact rpCmp_K hk h
  | m + 1, z, y, h => by
    unfold rpAsk at h
    split at h
    · obtain ⟨u, h1, h2⟩ := rpB_0 h
      obtain ⟨g1, g2, g3, g4, g5⟩ := rpAsk_K (nm := nm) (w := w) hk m _ _ h1
      cases h2
      have g1 : z.1 + 1 + 1 ≤ u.1 := g1
      have g2 : z.2.2 + 1 ≤ u.2.2 := g2
      have g3 : u.2.2 - z.2.2 ≤ u.1 - (z.1 + 1) := g3
      exact rpK_put ⟨by omega, g2, by omega, g4, g5⟩ (by omega)
    · exact rpCmp_K hk h
/-- what follows one ask -/
def rpEf (k nm : Int → Int) (w : Int) (n : Nat) (oo : Bool) (x : rpS) : rpR := if k x.1 = 27 then rpEi k nm w n true oo (rpNx x) else if k x.1 = 26 then rpEi k nm w n false true (rpNx (if oo = true then rpPut 10026 x else x)) else (0, if oo = true then rpPut 10026 x else x)
theorem rpEi_s {k nm : Int → Int} {w : Int} {n : Nat} {an oo : Bool} {z : rpS} : rpEi k nm w (n + 1) an oo z = rpB (rpAsk k nm w 8 z) (fun y0 => rpEf k nm w n oo (if an = true then rpPut 10027 y0 else y0)) := by
  rw [rpEi]
  cases an <;> rfl
theorem rpEf_K {k nm : Int → Int} {w tn : Int} {n : Nat} {oo : Bool} {x y : rpS} (ih : ∀ an oo z y, rpEi k nm w n an oo z = (0, y) → z.1 + 1 ≤ y.1 ∧ z.2.2 + 1 ≤ y.2.2 ∧ y.2.2 - z.2.2 ≤ y.1 - z.1 + bI (an = true) + bI (oo = true) ∧ y.1 ≤ tn ∧ ∀ j, j < z.2.2 → y.2.1 j = z.2.1 j) (hx : x.1 ≤ tn) (h : rpEf k nm w n oo x = (0, y)) : x.1 ≤ y.1 ∧ x.2.2 ≤ y.2.2 ∧ y.2.2 - x.2.2 ≤ y.1 - x.1 + bI (oo = true) ∧ y.1 ≤ tn ∧ (∀ j, j < x.2.2 → y.2.1 j = x.2.1 j) := by
  have e1 : bI (true = true) = 1 := bI_t rfl
  have e0 : bI (false = true) = 0 := bI_f (by decide)
  unfold rpEf at h
  split at h
  · obtain ⟨a1, a2, a3, a4, a5⟩ := ih _ _ _ _ h
    have a1 : x.1 + 1 + 1 ≤ y.1 := a1
    have a2 : x.2.2 + 1 ≤ y.2.2 := a2
    have a3 : y.2.2 - x.2.2 ≤ y.1 - (x.1 + 1) + bI (true = true) + bI (oo = true) := a3
    exact ⟨by omega, by omega, by omega, a4, a5⟩
  · split at h
    · obtain ⟨a1, a2, a3, a4, a5⟩ := ih _ _ _ _ h
      cases oo with
      | true =>
        have a1 : x.1 + 1 + 1 ≤ y.1 := a1
        have a2 : x.2.2 + 1 + 1 ≤ y.2.2 := a2
        have a3 : y.2.2 - (x.2.2 + 1) ≤ y.1 - (x.1 + 1) + bI (false = true) + bI (true = true) := a3
        refine ⟨by omega, by omega, by omega, a4, fun j hj => ?_⟩
        rw [a5 j (by show j < x.2.2 + 1; omega)]
        show (if j = x.2.2 then _ else x.2.1 j) = _
        rw [if_neg (by omega)]
      | false =>
        have a1 : x.1 + 1 + 1 ≤ y.1 := a1
        have a2 : x.2.2 + 1 ≤ y.2.2 := a2
        have a3 : y.2.2 - x.2.2 ≤ y.1 - (x.1 + 1) + bI (false = true) + bI (true = true) := a3
        exact ⟨by omega, by omega, by omega, a4, a5⟩
    · cases oo with
      | true =>
        cases h
        refine ⟨Int.le_refl _, by show x.2.2 ≤ x.2.2 + 1; omega, by show x.2.2 + 1 - x.2.2 ≤ x.1 - x.1 + bI (true = true); omega, hx, fun j hj => ?_⟩
        show (if j = x.2.2 then _ else x.2.1 j) = _
        rw [if_neg (by omega)]
      | false =>
        cases h
        exact ⟨Int.le_refl _, Int.le_refl _, by show x.2.2 - x.2.2 ≤ x.1 - x.1 + bI (false = true); omega, hx, fun j hj => rfl⟩
theorem rpEi_K {k nm : Int → Int} {w tn : Int} (hk : ∀ a, tn ≤ a → k a = 43) : ∀ (n : Nat) (an oo : Bool) (z y : rpS), rpEi k nm w n an oo z = (0, y) → z.1 + 1 ≤ y.1 ∧ z.2.2 + 1 ≤ y.2.2 ∧ y.2.2 - z.2.2 ≤ y.1 - z.1 + bI (an = true) + bI (oo = true) ∧ y.1 ≤ tn ∧ ∀ j, j < z.2.2 → y.2.1 j = z.2.1 j
  | 0, an, oo, z, y, h => by cases h
  | n + 1, an, oo, z, y, h => by
    rw [rpEi_s] at h
    obtain ⟨u, h1, h2⟩ := rpB_0 h
    obtain ⟨g1, g2, g3, g4, g5⟩ := rpAsk_K (nm := nm) (w := w) hk 8 _ _ h1
    have e1 : bI (true = true) = 1 := bI_t rfl
    have e0 : bI (false = true) = 0 := bI_f (by decide)
    cases an with
    | true =>
      have h2 : rpEf k nm w n oo (rpPut 10027 u) = (0, y) := h2
      obtain ⟨a1, a2, a3, a4, a5⟩ := rpEf_K (fun an oo z y => rpEi_K hk n an oo z y) (show (rpPut 10027 u).1 ≤ tn from g4) h2
      have a1 : u.1 ≤ y.1 := a1
      have a2 : u.2.2 + 1 ≤ y.2.2 := a2
      have a3 : y.2.2 - (u.2.2 + 1) ≤ y.1 - u.1 + bI (oo = true) := a3
      refine ⟨by omega, by omega, by omega, a4, fun j hj => ?_⟩
      rw [a5 j (by show j < u.2.2 + 1; omega)]
      show (if j = u.2.2 then _ else u.2.1 j) = _
      rw [if_neg (by omega)]
      exact g5 j hj
    | false =>
      have h2 : rpEf k nm w n oo u = (0, y) := h2
      obtain ⟨a1, a2, a3, a4, a5⟩ := rpEf_K (fun an oo z y => rpEi_K hk n an oo z y) g4 h2
      exact ⟨by omega, by omega, by omega, a4, fun j hj => (a5 j (by omega)).trans (g5 j hj)⟩
def cAsk (L t : Nat) (kd k pl nm : Int → Int) (tn W : Int) (m : Nat) : Prop := ∀ (s l : Nat → Int → Int) (z : rpS), CSt kd pl nm tn t W s z (8 - m) → ∀ r : rpR, rpAsk k nm W m z = r → rpG tn z → ∀ c, c ≤ z.2.2 → ∃ s1, mm_Ev mm_ct mm_CM (2 * m + 7) 62 [.ref 580] (MX L t s l) (some (.int (iI (bI (r.1 = 0)))), MX L t s1 l) ∧ CRs kd pl nm tn t W s s1 r (8 - m) c
theorem as_62z {D L t : Nat} {s l : Nat → Int → Int} (hD : 6 ≤ D) (hkt : KT L t t) {kd k pl nm : Int → Int} {tn W : Int} (hGC : GTC kd k pl nm tn) (hW0 : 0 ≤ W ∧ W ≤ 44) (ihs : cSum L t kd k pl nm tn W 0) {z : rpS} (h : CSt kd pl nm tn t W s z 8) {r : rpR} (hr : rpAsk k nm W 0 z = r) (hg : rpG tn z) {c : Int} (hcc : c ≤ z.2.2) : ∃ s1, mm_Ev mm_ct mm_CM (D + 1) 62 [.ref 580] (MX L t s l) (some (.int (iI (bI (r.1 = 0)))), MX L t s1 l) ∧ CRs kd pl nm tn t W s s1 r 8 c := by
  have hc : (mm_CM 62).2.2.2.2.2.2.2 = mm_cf cd_62 := by rw [cm_62]; rfl
  refine ev_xs ?_
  refine ev_to (mx := 2) (by rw [cm_62]; decide) (by rw [cm_62]; rfl) (by show 1 ≤ _; decide) ?_
  show mm_wp _ _ (0, [some (.ref 580), none], [], MX L t s l) (fun res => ∃ s1, res = (some (.int (iI (bI (r.1 = 0)))), MX L t s1 l) ∧ CRs kd pl nm tn t W s s1 r 8 c)
  obtain ⟨hk, hk43, hkr, htn⟩ := id hGC
  have hg9 := hg
  obtain ⟨hg0, hg1, hg2, hg3⟩ := hg9
  have ht6 := hkt.1
  refine wi_a1 hc rfl rfl ?_
  have hk1_ : mm_Ev mm_ct mm_CM (0 + 1) 53 [.ref 580] (MX L t s l) (some (.int (iI (k z.1))), MX L t s l) := by rw [hk]; exact sp_53 (d := 0) (CSt.rR h) (by have q := CSt.ra h; exact q : s 580 4 = z.1) ⟨by omega, by omega⟩
  have hkr1_ := hkr z.1
  refine wp_cv (b := 580) (As := []) (r := []) hc rfl (by rw [cm_53]; rfl) rfl (Nat.le_of_ble_eq_true rfl) (show 580 < 621 by decide) (by rw [cm_53]; rfl) (ev_mono hk1_ (by omega)) ?_
  show mm_wp _ _ (4, [some (.ref 580), none], [.int (iI (k z.1))], MX L t s l) _
  refine wi_bi hc rfl rfl ?_
  refine wi_cne hc rfl ⟨by omega, by omega⟩ ⟨by decide, by decide⟩ (fun h1_ => ?_) (fun h1_ => ?_)
  · refine wi_a1 hc rfl rfl ?_
    obtain ⟨f2_, y2_, hy2_⟩ : ∃ f y, rpSum k (rpOne k nm W 0) z = (f, y) := ⟨_, _, rfl⟩
    obtain ⟨s2_, hE2_, hC2_⟩ := ihs s l z h _ hy2_ (show rpG tn z from ⟨by show 0 ≤ z.1; omega, by show z.1 + 1 ≤ tn; omega, by show 0 ≤ z.2.2; omega, by show z.2.2 ≤ z.1; omega⟩) c (by show c ≤ z.2.2; omega)
    refine wp_cv (b := 580) (As := []) (r := []) hc rfl (by rw [cm_63]; rfl) rfl (Nat.le_of_ble_eq_true rfl) (show 580 < 621 by decide) (by rw [cm_63]; rfl) (ev_mono hE2_ (by omega)) ?_
    have hF2q : CFR t c s s2_ := CFR.rf.tr hC2_.2.2 (Int.le_refl c)
    show mm_wp _ _ (79, [some (.ref 580), none], [.int (iI (bI (f2_ = 0)))], MX L t s2_ l) _
    refine wi_bne hc rfl (fun h2_ => ?_) (fun h2_ => ?_)
    · subst h2_
      have hM2_ := hC2_.1 rfl
      have hK2_ := (rpSum_K (rpOne_K hk43 0) hy2_).1
      obtain ⟨hk1_2, hk2_2, hk3_2, hk4_2, hk5_2⟩ := hK2_
      have hk1_2 : z.1 + 1 ≤ y2_.1 := hk1_2
      have hk2_2 : z.2.2 + 1 ≤ y2_.2.2 := hk2_2
      have hk3_2 : y2_.2.2 - z.2.2 ≤ y2_.1 - (z.1) := hk3_2
      refine wi_a1 hc rfl rfl ?_
      have hk3_ : mm_Ev mm_ct mm_CM (0 + 1) 53 [.ref 580] (MX L t s2_ l) (some (.int (iI (k y2_.1))), MX L t s2_ l) := by rw [hk]; exact sp_53 (d := 0) (CSt.rR hM2_) (by have q := CSt.ra hM2_; exact q : s2_ 580 4 = y2_.1) ⟨by omega, by omega⟩
      have hkr3_ := hkr y2_.1
      refine wp_cv (b := 580) (As := []) (r := []) hc rfl (by rw [cm_53]; rfl) rfl (Nat.le_of_ble_eq_true rfl) (show 580 < 621 by decide) (by rw [cm_53]; rfl) (ev_mono hk3_ (by omega)) ?_
      show mm_wp _ _ (88, [some (.ref 580), none], [.int (iI (k y2_.1))], MX L t s2_ l) _
      refine wi_is1 (L' := [some (.ref 580), some (.int (iI (k y2_.1)))]) hc rfl (Nat.le_of_ble_eq_true rfl) rfl ?_
      refine wi_i1 hc rfl rfl ?_
      refine wi_bi hc rfl rfl ?_
      refine wi_clt hc rfl ⟨by omega, by omega⟩ ⟨by decide, by decide⟩ (fun h3_ => ?_) (fun h3_ => ?_)
      · refine wi_i1 hc rfl rfl ?_
        refine wi_bi hc rfl rfl ?_
        refine wi_ceq hc rfl ⟨by omega, by omega⟩ ⟨by decide, by decide⟩ (fun h4_ => ?_) (fun h4_ => ?_)
        · have hnx9 : y2_.1 + 1 < tn := by
            rcases (by omega : y2_.1 + 1 < tn ∨ tn - 1 ≤ y2_.1) with g | g
            · exact g
            · exfalso; have := hk43 _ g; omega
          refine wi_a1 hc rfl rfl ?_
          refine wi_dupr hc rfl ?_
          refine wi_gfv (kz := 4) rfl hc rfl rfl (by decide) (Nat.le_of_ble_eq_true rfl) rfl (v := y2_.1) ((by have q := CSt.ra hM2_; exact q : s2_ 580 4 = y2_.1)) ?_
          refine wi_ic hc rfl ?_
          refine wi_add hc rfl ?_
          refine wi_pf (kz := 4) rfl hc rfl rfl (by decide) (Nat.le_of_ble_eq_true rfl) rfl (Nat.le_of_ble_eq_true rfl) ⟨rfl, rfl⟩ rfl ?_
          obtain ⟨s4_, es4_⟩ : ∃ q, q = up s2_ 580 4 (y2_.1 + 1) := ⟨_, rfl⟩
          rw [← es4_]
          have hMs4_ : CSt kd pl nm tn t W s4_ (rpNx y2_) 8 := by rw [es4_]; exact CSt.nx0 hkt hM2_ rfl
          have hFs4_ : CFR t c s s4_ := hF2q.tr (by rw [es4_]; exact CFR.u hkt (by decide)) (Int.le_refl c)
          refine wi_a1 hc rfl rfl ?_
          obtain ⟨f5_, y5_, hy5_⟩ : ∃ f y, rpSum k (rpOne k nm W 0) (rpNx y2_) = (f, y) := ⟨_, _, rfl⟩
          obtain ⟨s5_, hE5_, hC5_⟩ := ihs s4_ l (rpNx y2_) hMs4_ _ hy5_ (show rpG tn (rpNx y2_) from ⟨by show 0 ≤ y2_.1 + 1; omega, by show y2_.1 + 1 + 1 ≤ tn; omega, by show 0 ≤ y2_.2.2; omega, by show y2_.2.2 ≤ y2_.1 + 1; omega⟩) c (by show c ≤ y2_.2.2; omega)
          refine wp_cv (b := 580) (As := []) (r := []) hc rfl (by rw [cm_63]; rfl) rfl (Nat.le_of_ble_eq_true rfl) (show 580 < 621 by decide) (by rw [cm_63]; rfl) (ev_mono hE5_ (by omega)) ?_
          have hF5q : CFR t c s s5_ := hFs4_.tr hC5_.2.2 (Int.le_refl c)
          show mm_wp _ _ (133, [some (.ref 580), some (.int (iI (k y2_.1)))], [.int (iI (bI (f5_ = 0)))], MX L t s5_ l) _
          refine wi_bne hc rfl (fun h5_ => ?_) (fun h5_ => ?_)
          · subst h5_
            have hM5_ := hC5_.1 rfl
            have hK5_ := (rpSum_K (rpOne_K hk43 0) hy5_).1
            obtain ⟨hk1_5, hk2_5, hk3_5, hk4_5, hk5_5⟩ := hK5_
            have hk1_5 : y2_.1 + 1 + 1 ≤ y5_.1 := hk1_5
            have hk2_5 : y2_.2.2 + 1 ≤ y5_.2.2 := hk2_5
            have hk3_5 : y5_.2.2 - y2_.2.2 ≤ y5_.1 - (y2_.1 + 1) := hk3_5
            refine wi_a1 hc rfl rfl ?_
            refine wi_gr (w := t) hc rfl rfl (by decide) (Nat.le_of_ble_eq_true rfl) rfl ?_
            refine wi_si hc rfl rfl ?_
            refine wi_i1 hc rfl rfl ?_
            refine wi_add hc rfl ?_
            obtain ⟨s6_, hE6_, hM6_, hF6_⟩ := ad_83 (d := 0) (L := L) (l := l) (c := c) hkt hM5_ (show 0 ≤ y5_.2.2 ∧ y5_.2.2 < 300 by omega) (show c ≤ y5_.2.2 by omega) (10000 + (k y2_.1))
            refine wp_cv (b := t) (As := [.int (iI (10000 + (k y2_.1)))]) (r := []) hc rfl (by rw [cm_83]; rfl) rfl (Nat.le_of_ble_eq_true rfl) (show t < 621 by omega) (by rw [cm_83]; exact congrArg Prod.fst hkt.2.1) (ev_mono hE6_ (by omega)) ?_
            have hF6q : CFR t c s s6_ := hF5q.tr hF6_ (Int.le_refl c)
            show mm_wp _ _ (150, [some (.ref 580), some (.int (iI (k y2_.1)))], [], MX L t s6_ l) _
            refine wi_ic hc rfl ?_
            refine wi_r1 hc rfl (by rw [cm_62]; rfl) ?_
            have hr9 : r = (0, (rpPut (10000 + (k y2_.1)) y5_)) := by
              rw [← hr, rpAsk, if_neg (by omega), rpCmp_1 hy2_ (rpIs_iff.mpr (by omega)), hy5_]
              rfl
            subst hr9
            exact ⟨s6_, by rw [bI_t (p := ((0, (rpPut (10000 + (k y2_.1)) y5_)) : rpR).1 = 0) rfl], CRs.ok hM6_ hF6q⟩
          · skip
            refine wi_ic hc rfl ?_
            refine wi_r0 hc rfl (by rw [cm_62]; rfl) ?_
            have hr9 : r = (f5_, y5_) := by
              rw [← hr, rpAsk, if_neg (by omega), rpCmp_1 hy2_ (rpIs_iff.mpr (by omega)), hy5_, rpB_n (r := (f5_, y5_)) h5_]
            subst hr9
            exact ⟨s5_, by rw [bI_f (p := ((f5_, y5_) : rpR).1 = 0) h5_], CRs.no h5_ (hC5_.2.1 h5_).1 (hC5_.2.1 h5_).2 hF5q⟩
        · refine wi_i1 hc rfl rfl ?_
          refine wi_bi hc rfl rfl ?_
          refine wi_ceq hc rfl ⟨by omega, by omega⟩ ⟨by decide, by decide⟩ (fun h6_ => ?_) (fun h6_ => ?_)
          · have hnx9 : y2_.1 + 1 < tn := by
              rcases (by omega : y2_.1 + 1 < tn ∨ tn - 1 ≤ y2_.1) with g | g
              · exact g
              · exfalso; have := hk43 _ g; omega
            refine wi_a1 hc rfl rfl ?_
            refine wi_dupr hc rfl ?_
            refine wi_gfv (kz := 4) rfl hc rfl rfl (by decide) (Nat.le_of_ble_eq_true rfl) rfl (v := y2_.1) ((by have q := CSt.ra hM2_; exact q : s2_ 580 4 = y2_.1)) ?_
            refine wi_ic hc rfl ?_
            refine wi_add hc rfl ?_
            refine wi_pf (kz := 4) rfl hc rfl rfl (by decide) (Nat.le_of_ble_eq_true rfl) rfl (Nat.le_of_ble_eq_true rfl) ⟨rfl, rfl⟩ rfl ?_
            obtain ⟨s7_, es7_⟩ : ∃ q, q = up s2_ 580 4 (y2_.1 + 1) := ⟨_, rfl⟩
            rw [← es7_]
            have hMs7_ : CSt kd pl nm tn t W s7_ (rpNx y2_) 8 := by rw [es7_]; exact CSt.nx0 hkt hM2_ rfl
            have hFs7_ : CFR t c s s7_ := hF2q.tr (by rw [es7_]; exact CFR.u hkt (by decide)) (Int.le_refl c)
            refine wi_a1 hc rfl rfl ?_
            obtain ⟨f8_, y8_, hy8_⟩ : ∃ f y, rpSum k (rpOne k nm W 0) (rpNx y2_) = (f, y) := ⟨_, _, rfl⟩
            obtain ⟨s8_, hE8_, hC8_⟩ := ihs s7_ l (rpNx y2_) hMs7_ _ hy8_ (show rpG tn (rpNx y2_) from ⟨by show 0 ≤ y2_.1 + 1; omega, by show y2_.1 + 1 + 1 ≤ tn; omega, by show 0 ≤ y2_.2.2; omega, by show y2_.2.2 ≤ y2_.1 + 1; omega⟩) c (by show c ≤ y2_.2.2; omega)
            refine wp_cv (b := 580) (As := []) (r := []) hc rfl (by rw [cm_63]; rfl) rfl (Nat.le_of_ble_eq_true rfl) (show 580 < 621 by decide) (by rw [cm_63]; rfl) (ev_mono hE8_ (by omega)) ?_
            have hF8q : CFR t c s s8_ := hFs7_.tr hC8_.2.2 (Int.le_refl c)
            show mm_wp _ _ (133, [some (.ref 580), some (.int (iI (k y2_.1)))], [.int (iI (bI (f8_ = 0)))], MX L t s8_ l) _
            refine wi_bne hc rfl (fun h7_ => ?_) (fun h7_ => ?_)
            · subst h7_
              have hM8_ := hC8_.1 rfl
              have hK8_ := (rpSum_K (rpOne_K hk43 0) hy8_).1
              obtain ⟨hk1_8, hk2_8, hk3_8, hk4_8, hk5_8⟩ := hK8_
              have hk1_8 : y2_.1 + 1 + 1 ≤ y8_.1 := hk1_8
              have hk2_8 : y2_.2.2 + 1 ≤ y8_.2.2 := hk2_8
              have hk3_8 : y8_.2.2 - y2_.2.2 ≤ y8_.1 - (y2_.1 + 1) := hk3_8
              refine wi_a1 hc rfl rfl ?_
              refine wi_gr (w := t) hc rfl rfl (by decide) (Nat.le_of_ble_eq_true rfl) rfl ?_
              refine wi_si hc rfl rfl ?_
              refine wi_i1 hc rfl rfl ?_
              refine wi_add hc rfl ?_
              obtain ⟨s9_, hE9_, hM9_, hF9_⟩ := ad_83 (d := 0) (L := L) (l := l) (c := c) hkt hM8_ (show 0 ≤ y8_.2.2 ∧ y8_.2.2 < 300 by omega) (show c ≤ y8_.2.2 by omega) (10000 + (k y2_.1))
              refine wp_cv (b := t) (As := [.int (iI (10000 + (k y2_.1)))]) (r := []) hc rfl (by rw [cm_83]; rfl) rfl (Nat.le_of_ble_eq_true rfl) (show t < 621 by omega) (by rw [cm_83]; exact congrArg Prod.fst hkt.2.1) (ev_mono hE9_ (by omega)) ?_
              have hF9q : CFR t c s s9_ := hF8q.tr hF9_ (Int.le_refl c)
              show mm_wp _ _ (150, [some (.ref 580), some (.int (iI (k y2_.1)))], [], MX L t s9_ l) _
              refine wi_ic hc rfl ?_
              refine wi_r1 hc rfl (by rw [cm_62]; rfl) ?_
              have hr9 : r = (0, (rpPut (10000 + (k y2_.1)) y8_)) := by
                rw [← hr, rpAsk, if_neg (by omega), rpCmp_1 hy2_ (rpIs_iff.mpr (by omega)), hy8_]
                rfl
              subst hr9
              exact ⟨s9_, by rw [bI_t (p := ((0, (rpPut (10000 + (k y2_.1)) y8_)) : rpR).1 = 0) rfl], CRs.ok hM9_ hF9q⟩
            · skip
              refine wi_ic hc rfl ?_
              refine wi_r0 hc rfl (by rw [cm_62]; rfl) ?_
              have hr9 : r = (f8_, y8_) := by
                rw [← hr, rpAsk, if_neg (by omega), rpCmp_1 hy2_ (rpIs_iff.mpr (by omega)), hy8_, rpB_n (r := (f8_, y8_)) h7_]
              subst hr9
              exact ⟨s8_, by rw [bI_f (p := ((f8_, y8_) : rpR).1 = 0) h7_], CRs.no h7_ (hC8_.2.1 h7_).1 (hC8_.2.1 h7_).2 hF8q⟩
          · refine wi_a1 hc rfl rfl ?_
            refine wi_ic hc rfl ?_
            obtain ⟨s10_, hE10_, hX10_, hY10_⟩ := sp_54 (d := 0) (L := L) (t := t) (l := l) (CSt.rR hM2_) (by have q := CSt.ra hM2_; exact q : s2_ 580 4 = y2_.1) ⟨by omega, by omega⟩ (n := 1) ⟨by decide, by decide⟩
            refine wp_cv (b := 580) (As := [.int (iI 1)]) (r := []) hc rfl (by rw [cm_54]; rfl) rfl (Nat.le_of_ble_eq_true rfl) (show 580 < 621 by decide) (by rw [cm_54]; rfl) (ev_mono hE10_ (by omega)) ?_
            have hF10q : CFR t c s s10_ := hF2q.tr (CFR.fl hkt hX10_ hY10_) (Int.le_refl c)
            show mm_wp _ _ (118, [some (.ref 580), some (.int (iI (k y2_.1)))], [.int (iI 0)], MX L t s10_ l) _
            refine wi_r0 hc rfl (by rw [cm_62]; rfl) ?_
            have hr9 : r = (1, y2_) := by
              rw [← hr, rpAsk, if_neg (by omega), rpCmp_0 hy2_ (fun e => by have e := rpIs_iff.mp e; omega)]
            subst hr9
            exact ⟨s10_, by rw [bI_f (p := ((1, y2_) : rpR).1 = 0) (by show ¬ (1 : Int) = 0; decide)], CRs.no (by decide) ((hY10_ 8).trans (by rw [if_neg (by decide), if_pos rfl])) ((hY10_ 9).trans (if_pos rfl)) hF10q⟩
      · refine wi_i1 hc rfl rfl ?_
        refine wi_bi hc rfl rfl ?_
        refine wi_cle hc rfl ⟨by omega, by omega⟩ ⟨by decide, by decide⟩ (fun h8_ => ?_) (fun h8_ => ?_)
        · have hnx9 : y2_.1 + 1 < tn := by
            rcases (by omega : y2_.1 + 1 < tn ∨ tn - 1 ≤ y2_.1) with g | g
            · exact g
            · exfalso; have := hk43 _ g; omega
          refine wi_a1 hc rfl rfl ?_
          refine wi_dupr hc rfl ?_
          refine wi_gfv (kz := 4) rfl hc rfl rfl (by decide) (Nat.le_of_ble_eq_true rfl) rfl (v := y2_.1) ((by have q := CSt.ra hM2_; exact q : s2_ 580 4 = y2_.1)) ?_
          refine wi_ic hc rfl ?_
          refine wi_add hc rfl ?_
          refine wi_pf (kz := 4) rfl hc rfl rfl (by decide) (Nat.le_of_ble_eq_true rfl) rfl (Nat.le_of_ble_eq_true rfl) ⟨rfl, rfl⟩ rfl ?_
          obtain ⟨s11_, es11_⟩ : ∃ q, q = up s2_ 580 4 (y2_.1 + 1) := ⟨_, rfl⟩
          rw [← es11_]
          have hMs11_ : CSt kd pl nm tn t W s11_ (rpNx y2_) 8 := by rw [es11_]; exact CSt.nx0 hkt hM2_ rfl
          have hFs11_ : CFR t c s s11_ := hF2q.tr (by rw [es11_]; exact CFR.u hkt (by decide)) (Int.le_refl c)
          refine wi_a1 hc rfl rfl ?_
          obtain ⟨f12_, y12_, hy12_⟩ : ∃ f y, rpSum k (rpOne k nm W 0) (rpNx y2_) = (f, y) := ⟨_, _, rfl⟩
          obtain ⟨s12_, hE12_, hC12_⟩ := ihs s11_ l (rpNx y2_) hMs11_ _ hy12_ (show rpG tn (rpNx y2_) from ⟨by show 0 ≤ y2_.1 + 1; omega, by show y2_.1 + 1 + 1 ≤ tn; omega, by show 0 ≤ y2_.2.2; omega, by show y2_.2.2 ≤ y2_.1 + 1; omega⟩) c (by show c ≤ y2_.2.2; omega)
          refine wp_cv (b := 580) (As := []) (r := []) hc rfl (by rw [cm_63]; rfl) rfl (Nat.le_of_ble_eq_true rfl) (show 580 < 621 by decide) (by rw [cm_63]; rfl) (ev_mono hE12_ (by omega)) ?_
          have hF12q : CFR t c s s12_ := hFs11_.tr hC12_.2.2 (Int.le_refl c)
          show mm_wp _ _ (133, [some (.ref 580), some (.int (iI (k y2_.1)))], [.int (iI (bI (f12_ = 0)))], MX L t s12_ l) _
          refine wi_bne hc rfl (fun h9_ => ?_) (fun h9_ => ?_)
          · subst h9_
            have hM12_ := hC12_.1 rfl
            have hK12_ := (rpSum_K (rpOne_K hk43 0) hy12_).1
            obtain ⟨hk1_12, hk2_12, hk3_12, hk4_12, hk5_12⟩ := hK12_
            have hk1_12 : y2_.1 + 1 + 1 ≤ y12_.1 := hk1_12
            have hk2_12 : y2_.2.2 + 1 ≤ y12_.2.2 := hk2_12
            have hk3_12 : y12_.2.2 - y2_.2.2 ≤ y12_.1 - (y2_.1 + 1) := hk3_12
            refine wi_a1 hc rfl rfl ?_
            refine wi_gr (w := t) hc rfl rfl (by decide) (Nat.le_of_ble_eq_true rfl) rfl ?_
            refine wi_si hc rfl rfl ?_
            refine wi_i1 hc rfl rfl ?_
            refine wi_add hc rfl ?_
            obtain ⟨s13_, hE13_, hM13_, hF13_⟩ := ad_83 (d := 0) (L := L) (l := l) (c := c) hkt hM12_ (show 0 ≤ y12_.2.2 ∧ y12_.2.2 < 300 by omega) (show c ≤ y12_.2.2 by omega) (10000 + (k y2_.1))
            refine wp_cv (b := t) (As := [.int (iI (10000 + (k y2_.1)))]) (r := []) hc rfl (by rw [cm_83]; rfl) rfl (Nat.le_of_ble_eq_true rfl) (show t < 621 by omega) (by rw [cm_83]; exact congrArg Prod.fst hkt.2.1) (ev_mono hE13_ (by omega)) ?_
            have hF13q : CFR t c s s13_ := hF12q.tr hF13_ (Int.le_refl c)
            show mm_wp _ _ (150, [some (.ref 580), some (.int (iI (k y2_.1)))], [], MX L t s13_ l) _
            refine wi_ic hc rfl ?_
            refine wi_r1 hc rfl (by rw [cm_62]; rfl) ?_
            have hr9 : r = (0, (rpPut (10000 + (k y2_.1)) y12_)) := by
              rw [← hr, rpAsk, if_neg (by omega), rpCmp_1 hy2_ (rpIs_iff.mpr (by omega)), hy12_]
              rfl
            subst hr9
            exact ⟨s13_, by rw [bI_t (p := ((0, (rpPut (10000 + (k y2_.1)) y12_)) : rpR).1 = 0) rfl], CRs.ok hM13_ hF13q⟩
          · skip
            refine wi_ic hc rfl ?_
            refine wi_r0 hc rfl (by rw [cm_62]; rfl) ?_
            have hr9 : r = (f12_, y12_) := by
              rw [← hr, rpAsk, if_neg (by omega), rpCmp_1 hy2_ (rpIs_iff.mpr (by omega)), hy12_, rpB_n (r := (f12_, y12_)) h9_]
            subst hr9
            exact ⟨s12_, by rw [bI_f (p := ((f12_, y12_) : rpR).1 = 0) h9_], CRs.no h9_ (hC12_.2.1 h9_).1 (hC12_.2.1 h9_).2 hF12q⟩
        · refine wi_i1 hc rfl rfl ?_
          refine wi_bi hc rfl rfl ?_
          refine wi_ceq hc rfl ⟨by omega, by omega⟩ ⟨by decide, by decide⟩ (fun h10_ => ?_) (fun h10_ => ?_)
          · have hnx9 : y2_.1 + 1 < tn := by
              rcases (by omega : y2_.1 + 1 < tn ∨ tn - 1 ≤ y2_.1) with g | g
              · exact g
              · exfalso; have := hk43 _ g; omega
            refine wi_a1 hc rfl rfl ?_
            refine wi_dupr hc rfl ?_
            refine wi_gfv (kz := 4) rfl hc rfl rfl (by decide) (Nat.le_of_ble_eq_true rfl) rfl (v := y2_.1) ((by have q := CSt.ra hM2_; exact q : s2_ 580 4 = y2_.1)) ?_
            refine wi_ic hc rfl ?_
            refine wi_add hc rfl ?_
            refine wi_pf (kz := 4) rfl hc rfl rfl (by decide) (Nat.le_of_ble_eq_true rfl) rfl (Nat.le_of_ble_eq_true rfl) ⟨rfl, rfl⟩ rfl ?_
            obtain ⟨s14_, es14_⟩ : ∃ q, q = up s2_ 580 4 (y2_.1 + 1) := ⟨_, rfl⟩
            rw [← es14_]
            have hMs14_ : CSt kd pl nm tn t W s14_ (rpNx y2_) 8 := by rw [es14_]; exact CSt.nx0 hkt hM2_ rfl
            have hFs14_ : CFR t c s s14_ := hF2q.tr (by rw [es14_]; exact CFR.u hkt (by decide)) (Int.le_refl c)
            refine wi_a1 hc rfl rfl ?_
            obtain ⟨f15_, y15_, hy15_⟩ : ∃ f y, rpSum k (rpOne k nm W 0) (rpNx y2_) = (f, y) := ⟨_, _, rfl⟩
            obtain ⟨s15_, hE15_, hC15_⟩ := ihs s14_ l (rpNx y2_) hMs14_ _ hy15_ (show rpG tn (rpNx y2_) from ⟨by show 0 ≤ y2_.1 + 1; omega, by show y2_.1 + 1 + 1 ≤ tn; omega, by show 0 ≤ y2_.2.2; omega, by show y2_.2.2 ≤ y2_.1 + 1; omega⟩) c (by show c ≤ y2_.2.2; omega)
            refine wp_cv (b := 580) (As := []) (r := []) hc rfl (by rw [cm_63]; rfl) rfl (Nat.le_of_ble_eq_true rfl) (show 580 < 621 by decide) (by rw [cm_63]; rfl) (ev_mono hE15_ (by omega)) ?_
            have hF15q : CFR t c s s15_ := hFs14_.tr hC15_.2.2 (Int.le_refl c)
            show mm_wp _ _ (133, [some (.ref 580), some (.int (iI (k y2_.1)))], [.int (iI (bI (f15_ = 0)))], MX L t s15_ l) _
            refine wi_bne hc rfl (fun h11_ => ?_) (fun h11_ => ?_)
            · subst h11_
              have hM15_ := hC15_.1 rfl
              have hK15_ := (rpSum_K (rpOne_K hk43 0) hy15_).1
              obtain ⟨hk1_15, hk2_15, hk3_15, hk4_15, hk5_15⟩ := hK15_
              have hk1_15 : y2_.1 + 1 + 1 ≤ y15_.1 := hk1_15
              have hk2_15 : y2_.2.2 + 1 ≤ y15_.2.2 := hk2_15
              have hk3_15 : y15_.2.2 - y2_.2.2 ≤ y15_.1 - (y2_.1 + 1) := hk3_15
              refine wi_a1 hc rfl rfl ?_
              refine wi_gr (w := t) hc rfl rfl (by decide) (Nat.le_of_ble_eq_true rfl) rfl ?_
              refine wi_si hc rfl rfl ?_
              refine wi_i1 hc rfl rfl ?_
              refine wi_add hc rfl ?_
              obtain ⟨s16_, hE16_, hM16_, hF16_⟩ := ad_83 (d := 0) (L := L) (l := l) (c := c) hkt hM15_ (show 0 ≤ y15_.2.2 ∧ y15_.2.2 < 300 by omega) (show c ≤ y15_.2.2 by omega) (10000 + (k y2_.1))
              refine wp_cv (b := t) (As := [.int (iI (10000 + (k y2_.1)))]) (r := []) hc rfl (by rw [cm_83]; rfl) rfl (Nat.le_of_ble_eq_true rfl) (show t < 621 by omega) (by rw [cm_83]; exact congrArg Prod.fst hkt.2.1) (ev_mono hE16_ (by omega)) ?_
              have hF16q : CFR t c s s16_ := hF15q.tr hF16_ (Int.le_refl c)
              show mm_wp _ _ (150, [some (.ref 580), some (.int (iI (k y2_.1)))], [], MX L t s16_ l) _
              refine wi_ic hc rfl ?_
              refine wi_r1 hc rfl (by rw [cm_62]; rfl) ?_
              have hr9 : r = (0, (rpPut (10000 + (k y2_.1)) y15_)) := by
                rw [← hr, rpAsk, if_neg (by omega), rpCmp_1 hy2_ (rpIs_iff.mpr (by omega)), hy15_]
                rfl
              subst hr9
              exact ⟨s16_, by rw [bI_t (p := ((0, (rpPut (10000 + (k y2_.1)) y15_)) : rpR).1 = 0) rfl], CRs.ok hM16_ hF16q⟩
            · skip
              refine wi_ic hc rfl ?_
              refine wi_r0 hc rfl (by rw [cm_62]; rfl) ?_
              have hr9 : r = (f15_, y15_) := by
                rw [← hr, rpAsk, if_neg (by omega), rpCmp_1 hy2_ (rpIs_iff.mpr (by omega)), hy15_, rpB_n (r := (f15_, y15_)) h11_]
              subst hr9
              exact ⟨s15_, by rw [bI_f (p := ((f15_, y15_) : rpR).1 = 0) h11_], CRs.no h11_ (hC15_.2.1 h11_).1 (hC15_.2.1 h11_).2 hF15q⟩
          · refine wi_i1 hc rfl rfl ?_
            refine wi_bi hc rfl rfl ?_
            refine wi_ceq hc rfl ⟨by omega, by omega⟩ ⟨by decide, by decide⟩ (fun h12_ => ?_) (fun h12_ => ?_)
            · have hnx9 : y2_.1 + 1 < tn := by
                rcases (by omega : y2_.1 + 1 < tn ∨ tn - 1 ≤ y2_.1) with g | g
                · exact g
                · exfalso; have := hk43 _ g; omega
              refine wi_a1 hc rfl rfl ?_
              refine wi_dupr hc rfl ?_
              refine wi_gfv (kz := 4) rfl hc rfl rfl (by decide) (Nat.le_of_ble_eq_true rfl) rfl (v := y2_.1) ((by have q := CSt.ra hM2_; exact q : s2_ 580 4 = y2_.1)) ?_
              refine wi_ic hc rfl ?_
              refine wi_add hc rfl ?_
              refine wi_pf (kz := 4) rfl hc rfl rfl (by decide) (Nat.le_of_ble_eq_true rfl) rfl (Nat.le_of_ble_eq_true rfl) ⟨rfl, rfl⟩ rfl ?_
              obtain ⟨s17_, es17_⟩ : ∃ q, q = up s2_ 580 4 (y2_.1 + 1) := ⟨_, rfl⟩
              rw [← es17_]
              have hMs17_ : CSt kd pl nm tn t W s17_ (rpNx y2_) 8 := by rw [es17_]; exact CSt.nx0 hkt hM2_ rfl
              have hFs17_ : CFR t c s s17_ := hF2q.tr (by rw [es17_]; exact CFR.u hkt (by decide)) (Int.le_refl c)
              refine wi_a1 hc rfl rfl ?_
              obtain ⟨f18_, y18_, hy18_⟩ : ∃ f y, rpSum k (rpOne k nm W 0) (rpNx y2_) = (f, y) := ⟨_, _, rfl⟩
              obtain ⟨s18_, hE18_, hC18_⟩ := ihs s17_ l (rpNx y2_) hMs17_ _ hy18_ (show rpG tn (rpNx y2_) from ⟨by show 0 ≤ y2_.1 + 1; omega, by show y2_.1 + 1 + 1 ≤ tn; omega, by show 0 ≤ y2_.2.2; omega, by show y2_.2.2 ≤ y2_.1 + 1; omega⟩) c (by show c ≤ y2_.2.2; omega)
              refine wp_cv (b := 580) (As := []) (r := []) hc rfl (by rw [cm_63]; rfl) rfl (Nat.le_of_ble_eq_true rfl) (show 580 < 621 by decide) (by rw [cm_63]; rfl) (ev_mono hE18_ (by omega)) ?_
              have hF18q : CFR t c s s18_ := hFs17_.tr hC18_.2.2 (Int.le_refl c)
              show mm_wp _ _ (133, [some (.ref 580), some (.int (iI (k y2_.1)))], [.int (iI (bI (f18_ = 0)))], MX L t s18_ l) _
              refine wi_bne hc rfl (fun h13_ => ?_) (fun h13_ => ?_)
              · subst h13_
                have hM18_ := hC18_.1 rfl
                have hK18_ := (rpSum_K (rpOne_K hk43 0) hy18_).1
                obtain ⟨hk1_18, hk2_18, hk3_18, hk4_18, hk5_18⟩ := hK18_
                have hk1_18 : y2_.1 + 1 + 1 ≤ y18_.1 := hk1_18
                have hk2_18 : y2_.2.2 + 1 ≤ y18_.2.2 := hk2_18
                have hk3_18 : y18_.2.2 - y2_.2.2 ≤ y18_.1 - (y2_.1 + 1) := hk3_18
                refine wi_a1 hc rfl rfl ?_
                refine wi_gr (w := t) hc rfl rfl (by decide) (Nat.le_of_ble_eq_true rfl) rfl ?_
                refine wi_si hc rfl rfl ?_
                refine wi_i1 hc rfl rfl ?_
                refine wi_add hc rfl ?_
                obtain ⟨s19_, hE19_, hM19_, hF19_⟩ := ad_83 (d := 0) (L := L) (l := l) (c := c) hkt hM18_ (show 0 ≤ y18_.2.2 ∧ y18_.2.2 < 300 by omega) (show c ≤ y18_.2.2 by omega) (10000 + (k y2_.1))
                refine wp_cv (b := t) (As := [.int (iI (10000 + (k y2_.1)))]) (r := []) hc rfl (by rw [cm_83]; rfl) rfl (Nat.le_of_ble_eq_true rfl) (show t < 621 by omega) (by rw [cm_83]; exact congrArg Prod.fst hkt.2.1) (ev_mono hE19_ (by omega)) ?_
                have hF19q : CFR t c s s19_ := hF18q.tr hF19_ (Int.le_refl c)
                show mm_wp _ _ (150, [some (.ref 580), some (.int (iI (k y2_.1)))], [], MX L t s19_ l) _
                refine wi_ic hc rfl ?_
                refine wi_r1 hc rfl (by rw [cm_62]; rfl) ?_
                have hr9 : r = (0, (rpPut (10000 + (k y2_.1)) y18_)) := by
                  rw [← hr, rpAsk, if_neg (by omega), rpCmp_1 hy2_ (rpIs_iff.mpr (by omega)), hy18_]
                  rfl
                subst hr9
                exact ⟨s19_, by rw [bI_t (p := ((0, (rpPut (10000 + (k y2_.1)) y18_)) : rpR).1 = 0) rfl], CRs.ok hM19_ hF19q⟩
              · skip
                refine wi_ic hc rfl ?_
                refine wi_r0 hc rfl (by rw [cm_62]; rfl) ?_
                have hr9 : r = (f18_, y18_) := by
                  rw [← hr, rpAsk, if_neg (by omega), rpCmp_1 hy2_ (rpIs_iff.mpr (by omega)), hy18_, rpB_n (r := (f18_, y18_)) h13_]
                subst hr9
                exact ⟨s18_, by rw [bI_f (p := ((f18_, y18_) : rpR).1 = 0) h13_], CRs.no h13_ (hC18_.2.1 h13_).1 (hC18_.2.1 h13_).2 hF18q⟩
            · refine wi_a1 hc rfl rfl ?_
              refine wi_ic hc rfl ?_
              obtain ⟨s20_, hE20_, hX20_, hY20_⟩ := sp_54 (d := 0) (L := L) (t := t) (l := l) (CSt.rR hM2_) (by have q := CSt.ra hM2_; exact q : s2_ 580 4 = y2_.1) ⟨by omega, by omega⟩ (n := 1) ⟨by decide, by decide⟩
              refine wp_cv (b := 580) (As := [.int (iI 1)]) (r := []) hc rfl (by rw [cm_54]; rfl) rfl (Nat.le_of_ble_eq_true rfl) (show 580 < 621 by decide) (by rw [cm_54]; rfl) (ev_mono hE20_ (by omega)) ?_
              have hF20q : CFR t c s s20_ := hF2q.tr (CFR.fl hkt hX20_ hY20_) (Int.le_refl c)
              show mm_wp _ _ (118, [some (.ref 580), some (.int (iI (k y2_.1)))], [.int (iI 0)], MX L t s20_ l) _
              refine wi_r0 hc rfl (by rw [cm_62]; rfl) ?_
              have hr9 : r = (1, y2_) := by
                rw [← hr, rpAsk, if_neg (by omega), rpCmp_0 hy2_ (fun e => by have e := rpIs_iff.mp e; omega)]
              subst hr9
              exact ⟨s20_, by rw [bI_f (p := ((1, y2_) : rpR).1 = 0) (by show ¬ (1 : Int) = 0; decide)], CRs.no (by decide) ((hY20_ 8).trans (by rw [if_neg (by decide), if_pos rfl])) ((hY20_ 9).trans (if_pos rfl)) hF20q⟩
    · skip
      refine wi_ic hc rfl ?_
      refine wi_r0 hc rfl (by rw [cm_62]; rfl) ?_
      have hr9 : r = (f2_, y2_) := by
        rw [← hr, rpAsk, if_neg (by omega), rpCmp_n (r := (f2_, y2_)) hy2_ h2_]
      subst hr9
      exact ⟨s2_, by rw [bI_f (p := ((f2_, y2_) : rpR).1 = 0) h2_], CRs.no h2_ (hC2_.2.1 h2_).1 (hC2_.2.1 h2_).2 hF2q⟩
  · refine wi_a1 hc rfl rfl ?_
    refine wi_gfv (kz := 7) rfl hc rfl rfl (by decide) (Nat.le_of_ble_eq_true rfl) rfl (v := 8) (CSt.ro h) ?_
    refine wi_bi hc rfl rfl ?_
    refine wi_clt hc rfl ⟨by decide, by decide⟩ ⟨by decide, by decide⟩ (fun q => absurd q (by decide)) (fun _ => ?_)
    refine wi_a1 hc rfl rfl ?_
    refine wi_ic hc rfl ?_
    obtain ⟨s21_, hE21_, hX21_, hY21_⟩ := sp_54 (d := 0) (L := L) (t := t) (l := l) (CSt.rR h) (by have q := CSt.ra h; exact q : s 580 4 = z.1) ⟨by omega, by omega⟩ (n := 3) ⟨by decide, by decide⟩
    refine wp_cv (b := 580) (As := [.int (iI 3)]) (r := []) hc rfl (by rw [cm_54]; rfl) rfl (Nat.le_of_ble_eq_true rfl) (show 580 < 621 by decide) (by rw [cm_54]; rfl) (ev_mono hE21_ (by omega)) ?_
    have hF21q : CFR t c s s21_ := CFR.rf.tr (CFR.fl hkt hX21_ hY21_) (Int.le_refl c)
    show mm_wp _ _ (23, [some (.ref 580), none], [.int (iI 0)], MX L t s21_ l) _
    refine wi_r0 hc rfl (by rw [cm_62]; rfl) ?_
    have hr9 : r = (3, z) := by
      rw [← hr, rpAsk, if_pos (by omega)]
    subst hr9
    exact ⟨s21_, by rw [bI_f (p := ((3, z) : rpR).1 = 0) (by show ¬ (3 : Int) = 0; decide)], CRs.no (by decide) ((hY21_ 8).trans (by rw [if_neg (by decide), if_pos rfl])) ((hY21_ 9).trans (if_pos rfl)) hF21q⟩
theorem as_62s {D L t : Nat} {s l : Nat → Int → Int} {m : Nat} (hD : 2 * m + 8 ≤ D) (hkt : KT L t t) {kd k pl nm : Int → Int} {tn W : Int} (hGC : GTC kd k pl nm tn) (hW0 : 0 ≤ W ∧ W ≤ 44) (hm : m + 1 ≤ 8) (iha : cAsk L t kd k pl nm tn W m) (ihs : cSum L t kd k pl nm tn W (m + 1)) {z : rpS} (h : CSt kd pl nm tn t W s z (8 - ((m + 1 : Nat) : Int))) {r : rpR} (hr : rpAsk k nm W (m + 1) z = r) (hg : rpG tn z) {c : Int} (hcc : c ≤ z.2.2) : ∃ s1, mm_Ev mm_ct mm_CM (D + 1) 62 [.ref 580] (MX L t s l) (some (.int (iI (bI (r.1 = 0)))), MX L t s1 l) ∧ CRs kd pl nm tn t W s s1 r (8 - ((m + 1 : Nat) : Int)) c := by
  have hc : (mm_CM 62).2.2.2.2.2.2.2 = mm_cf cd_62 := by rw [cm_62]; rfl
  refine ev_xs ?_
  refine ev_to (mx := 2) (by rw [cm_62]; decide) (by rw [cm_62]; rfl) (by show 1 ≤ _; decide) ?_
  show mm_wp _ _ (0, [some (.ref 580), none], [], MX L t s l) (fun res => ∃ s1, res = (some (.int (iI (bI (r.1 = 0)))), MX L t s1 l) ∧ CRs kd pl nm tn t W s s1 r (8 - ((m + 1 : Nat) : Int)) c)
  obtain ⟨hk, hk43, hkr, htn⟩ := id hGC
  have hg9 := hg
  obtain ⟨hg0, hg1, hg2, hg3⟩ := hg9
  have ht6 := hkt.1
  refine wi_a1 hc rfl rfl ?_
  have hk1_ : mm_Ev mm_ct mm_CM (0 + 1) 53 [.ref 580] (MX L t s l) (some (.int (iI (k z.1))), MX L t s l) := by rw [hk]; exact sp_53 (d := 0) (CSt.rR h) (by have q := CSt.ra h; exact q : s 580 4 = z.1) ⟨by omega, by omega⟩
  have hkr1_ := hkr z.1
  refine wp_cv (b := 580) (As := []) (r := []) hc rfl (by rw [cm_53]; rfl) rfl (Nat.le_of_ble_eq_true rfl) (show 580 < 621 by decide) (by rw [cm_53]; rfl) (ev_mono hk1_ (by omega)) ?_
  show mm_wp _ _ (4, [some (.ref 580), none], [.int (iI (k z.1))], MX L t s l) _
  refine wi_bi hc rfl rfl ?_
  refine wi_cne hc rfl ⟨by omega, by omega⟩ ⟨by decide, by decide⟩ (fun h1_ => ?_) (fun h1_ => ?_)
  · refine wi_a1 hc rfl rfl ?_
    obtain ⟨f2_, y2_, hy2_⟩ : ∃ f y, rpSum k (rpOne k nm W (m + 1)) z = (f, y) := ⟨_, _, rfl⟩
    obtain ⟨s2_, hE2_, hC2_⟩ := ihs s l z h _ hy2_ (show rpG tn z from ⟨by show 0 ≤ z.1; omega, by show z.1 + 1 ≤ tn; omega, by show 0 ≤ z.2.2; omega, by show z.2.2 ≤ z.1; omega⟩) c (by show c ≤ z.2.2; omega)
    refine wp_cv (b := 580) (As := []) (r := []) hc rfl (by rw [cm_63]; rfl) rfl (Nat.le_of_ble_eq_true rfl) (show 580 < 621 by decide) (by rw [cm_63]; rfl) (ev_mono hE2_ (by omega)) ?_
    have hF2q : CFR t c s s2_ := CFR.rf.tr hC2_.2.2 (Int.le_refl c)
    show mm_wp _ _ (79, [some (.ref 580), none], [.int (iI (bI (f2_ = 0)))], MX L t s2_ l) _
    refine wi_bne hc rfl (fun h2_ => ?_) (fun h2_ => ?_)
    · subst h2_
      have hM2_ := hC2_.1 rfl
      have hK2_ := (rpSum_K (rpOne_K hk43 (m + 1)) hy2_).1
      obtain ⟨hk1_2, hk2_2, hk3_2, hk4_2, hk5_2⟩ := hK2_
      have hk1_2 : z.1 + 1 ≤ y2_.1 := hk1_2
      have hk2_2 : z.2.2 + 1 ≤ y2_.2.2 := hk2_2
      have hk3_2 : y2_.2.2 - z.2.2 ≤ y2_.1 - (z.1) := hk3_2
      refine wi_a1 hc rfl rfl ?_
      have hk3_ : mm_Ev mm_ct mm_CM (0 + 1) 53 [.ref 580] (MX L t s2_ l) (some (.int (iI (k y2_.1))), MX L t s2_ l) := by rw [hk]; exact sp_53 (d := 0) (CSt.rR hM2_) (by have q := CSt.ra hM2_; exact q : s2_ 580 4 = y2_.1) ⟨by omega, by omega⟩
      have hkr3_ := hkr y2_.1
      refine wp_cv (b := 580) (As := []) (r := []) hc rfl (by rw [cm_53]; rfl) rfl (Nat.le_of_ble_eq_true rfl) (show 580 < 621 by decide) (by rw [cm_53]; rfl) (ev_mono hk3_ (by omega)) ?_
      show mm_wp _ _ (88, [some (.ref 580), none], [.int (iI (k y2_.1))], MX L t s2_ l) _
      refine wi_is1 (L' := [some (.ref 580), some (.int (iI (k y2_.1)))]) hc rfl (Nat.le_of_ble_eq_true rfl) rfl ?_
      refine wi_i1 hc rfl rfl ?_
      refine wi_bi hc rfl rfl ?_
      refine wi_clt hc rfl ⟨by omega, by omega⟩ ⟨by decide, by decide⟩ (fun h3_ => ?_) (fun h3_ => ?_)
      · refine wi_i1 hc rfl rfl ?_
        refine wi_bi hc rfl rfl ?_
        refine wi_ceq hc rfl ⟨by omega, by omega⟩ ⟨by decide, by decide⟩ (fun h4_ => ?_) (fun h4_ => ?_)
        · have hnx9 : y2_.1 + 1 < tn := by
            rcases (by omega : y2_.1 + 1 < tn ∨ tn - 1 ≤ y2_.1) with g | g
            · exact g
            · exfalso; have := hk43 _ g; omega
          refine wi_a1 hc rfl rfl ?_
          refine wi_dupr hc rfl ?_
          refine wi_gfv (kz := 4) rfl hc rfl rfl (by decide) (Nat.le_of_ble_eq_true rfl) rfl (v := y2_.1) ((by have q := CSt.ra hM2_; exact q : s2_ 580 4 = y2_.1)) ?_
          refine wi_ic hc rfl ?_
          refine wi_add hc rfl ?_
          refine wi_pf (kz := 4) rfl hc rfl rfl (by decide) (Nat.le_of_ble_eq_true rfl) rfl (Nat.le_of_ble_eq_true rfl) ⟨rfl, rfl⟩ rfl ?_
          obtain ⟨s4_, es4_⟩ : ∃ q, q = up s2_ 580 4 (y2_.1 + 1) := ⟨_, rfl⟩
          rw [← es4_]
          have hMs4_ : CSt kd pl nm tn t W s4_ (rpNx y2_) (8 - ((m + 1 : Nat) : Int)) := by rw [es4_]; exact CSt.nx0 hkt hM2_ rfl
          have hFs4_ : CFR t c s s4_ := hF2q.tr (by rw [es4_]; exact CFR.u hkt (by decide)) (Int.le_refl c)
          refine wi_a1 hc rfl rfl ?_
          obtain ⟨f5_, y5_, hy5_⟩ : ∃ f y, rpSum k (rpOne k nm W (m + 1)) (rpNx y2_) = (f, y) := ⟨_, _, rfl⟩
          obtain ⟨s5_, hE5_, hC5_⟩ := ihs s4_ l (rpNx y2_) hMs4_ _ hy5_ (show rpG tn (rpNx y2_) from ⟨by show 0 ≤ y2_.1 + 1; omega, by show y2_.1 + 1 + 1 ≤ tn; omega, by show 0 ≤ y2_.2.2; omega, by show y2_.2.2 ≤ y2_.1 + 1; omega⟩) c (by show c ≤ y2_.2.2; omega)
          refine wp_cv (b := 580) (As := []) (r := []) hc rfl (by rw [cm_63]; rfl) rfl (Nat.le_of_ble_eq_true rfl) (show 580 < 621 by decide) (by rw [cm_63]; rfl) (ev_mono hE5_ (by omega)) ?_
          have hF5q : CFR t c s s5_ := hFs4_.tr hC5_.2.2 (Int.le_refl c)
          show mm_wp _ _ (133, [some (.ref 580), some (.int (iI (k y2_.1)))], [.int (iI (bI (f5_ = 0)))], MX L t s5_ l) _
          refine wi_bne hc rfl (fun h5_ => ?_) (fun h5_ => ?_)
          · subst h5_
            have hM5_ := hC5_.1 rfl
            have hK5_ := (rpSum_K (rpOne_K hk43 (m + 1)) hy5_).1
            obtain ⟨hk1_5, hk2_5, hk3_5, hk4_5, hk5_5⟩ := hK5_
            have hk1_5 : y2_.1 + 1 + 1 ≤ y5_.1 := hk1_5
            have hk2_5 : y2_.2.2 + 1 ≤ y5_.2.2 := hk2_5
            have hk3_5 : y5_.2.2 - y2_.2.2 ≤ y5_.1 - (y2_.1 + 1) := hk3_5
            refine wi_a1 hc rfl rfl ?_
            refine wi_gr (w := t) hc rfl rfl (by decide) (Nat.le_of_ble_eq_true rfl) rfl ?_
            refine wi_si hc rfl rfl ?_
            refine wi_i1 hc rfl rfl ?_
            refine wi_add hc rfl ?_
            obtain ⟨s6_, hE6_, hM6_, hF6_⟩ := ad_83 (d := 0) (L := L) (l := l) (c := c) hkt hM5_ (show 0 ≤ y5_.2.2 ∧ y5_.2.2 < 300 by omega) (show c ≤ y5_.2.2 by omega) (10000 + (k y2_.1))
            refine wp_cv (b := t) (As := [.int (iI (10000 + (k y2_.1)))]) (r := []) hc rfl (by rw [cm_83]; rfl) rfl (Nat.le_of_ble_eq_true rfl) (show t < 621 by omega) (by rw [cm_83]; exact congrArg Prod.fst hkt.2.1) (ev_mono hE6_ (by omega)) ?_
            have hF6q : CFR t c s s6_ := hF5q.tr hF6_ (Int.le_refl c)
            show mm_wp _ _ (150, [some (.ref 580), some (.int (iI (k y2_.1)))], [], MX L t s6_ l) _
            refine wi_ic hc rfl ?_
            refine wi_r1 hc rfl (by rw [cm_62]; rfl) ?_
            have hr9 : r = (0, (rpPut (10000 + (k y2_.1)) y5_)) := by
              rw [← hr, rpAsk, if_neg (by omega), rpCmp_1 hy2_ (rpIs_iff.mpr (by omega)), hy5_]
              rfl
            subst hr9
            exact ⟨s6_, by rw [bI_t (p := ((0, (rpPut (10000 + (k y2_.1)) y5_)) : rpR).1 = 0) rfl], CRs.ok hM6_ hF6q⟩
          · skip
            refine wi_ic hc rfl ?_
            refine wi_r0 hc rfl (by rw [cm_62]; rfl) ?_
            have hr9 : r = (f5_, y5_) := by
              rw [← hr, rpAsk, if_neg (by omega), rpCmp_1 hy2_ (rpIs_iff.mpr (by omega)), hy5_, rpB_n (r := (f5_, y5_)) h5_]
            subst hr9
            exact ⟨s5_, by rw [bI_f (p := ((f5_, y5_) : rpR).1 = 0) h5_], CRs.no h5_ (hC5_.2.1 h5_).1 (hC5_.2.1 h5_).2 hF5q⟩
        · refine wi_i1 hc rfl rfl ?_
          refine wi_bi hc rfl rfl ?_
          refine wi_ceq hc rfl ⟨by omega, by omega⟩ ⟨by decide, by decide⟩ (fun h6_ => ?_) (fun h6_ => ?_)
          · have hnx9 : y2_.1 + 1 < tn := by
              rcases (by omega : y2_.1 + 1 < tn ∨ tn - 1 ≤ y2_.1) with g | g
              · exact g
              · exfalso; have := hk43 _ g; omega
            refine wi_a1 hc rfl rfl ?_
            refine wi_dupr hc rfl ?_
            refine wi_gfv (kz := 4) rfl hc rfl rfl (by decide) (Nat.le_of_ble_eq_true rfl) rfl (v := y2_.1) ((by have q := CSt.ra hM2_; exact q : s2_ 580 4 = y2_.1)) ?_
            refine wi_ic hc rfl ?_
            refine wi_add hc rfl ?_
            refine wi_pf (kz := 4) rfl hc rfl rfl (by decide) (Nat.le_of_ble_eq_true rfl) rfl (Nat.le_of_ble_eq_true rfl) ⟨rfl, rfl⟩ rfl ?_
            obtain ⟨s7_, es7_⟩ : ∃ q, q = up s2_ 580 4 (y2_.1 + 1) := ⟨_, rfl⟩
            rw [← es7_]
            have hMs7_ : CSt kd pl nm tn t W s7_ (rpNx y2_) (8 - ((m + 1 : Nat) : Int)) := by rw [es7_]; exact CSt.nx0 hkt hM2_ rfl
            have hFs7_ : CFR t c s s7_ := hF2q.tr (by rw [es7_]; exact CFR.u hkt (by decide)) (Int.le_refl c)
            refine wi_a1 hc rfl rfl ?_
            obtain ⟨f8_, y8_, hy8_⟩ : ∃ f y, rpSum k (rpOne k nm W (m + 1)) (rpNx y2_) = (f, y) := ⟨_, _, rfl⟩
            obtain ⟨s8_, hE8_, hC8_⟩ := ihs s7_ l (rpNx y2_) hMs7_ _ hy8_ (show rpG tn (rpNx y2_) from ⟨by show 0 ≤ y2_.1 + 1; omega, by show y2_.1 + 1 + 1 ≤ tn; omega, by show 0 ≤ y2_.2.2; omega, by show y2_.2.2 ≤ y2_.1 + 1; omega⟩) c (by show c ≤ y2_.2.2; omega)
            refine wp_cv (b := 580) (As := []) (r := []) hc rfl (by rw [cm_63]; rfl) rfl (Nat.le_of_ble_eq_true rfl) (show 580 < 621 by decide) (by rw [cm_63]; rfl) (ev_mono hE8_ (by omega)) ?_
            have hF8q : CFR t c s s8_ := hFs7_.tr hC8_.2.2 (Int.le_refl c)
            show mm_wp _ _ (133, [some (.ref 580), some (.int (iI (k y2_.1)))], [.int (iI (bI (f8_ = 0)))], MX L t s8_ l) _
            refine wi_bne hc rfl (fun h7_ => ?_) (fun h7_ => ?_)
            · subst h7_
              have hM8_ := hC8_.1 rfl
              have hK8_ := (rpSum_K (rpOne_K hk43 (m + 1)) hy8_).1
              obtain ⟨hk1_8, hk2_8, hk3_8, hk4_8, hk5_8⟩ := hK8_
              have hk1_8 : y2_.1 + 1 + 1 ≤ y8_.1 := hk1_8
              have hk2_8 : y2_.2.2 + 1 ≤ y8_.2.2 := hk2_8
              have hk3_8 : y8_.2.2 - y2_.2.2 ≤ y8_.1 - (y2_.1 + 1) := hk3_8
              refine wi_a1 hc rfl rfl ?_
              refine wi_gr (w := t) hc rfl rfl (by decide) (Nat.le_of_ble_eq_true rfl) rfl ?_
              refine wi_si hc rfl rfl ?_
              refine wi_i1 hc rfl rfl ?_
              refine wi_add hc rfl ?_
              obtain ⟨s9_, hE9_, hM9_, hF9_⟩ := ad_83 (d := 0) (L := L) (l := l) (c := c) hkt hM8_ (show 0 ≤ y8_.2.2 ∧ y8_.2.2 < 300 by omega) (show c ≤ y8_.2.2 by omega) (10000 + (k y2_.1))
              refine wp_cv (b := t) (As := [.int (iI (10000 + (k y2_.1)))]) (r := []) hc rfl (by rw [cm_83]; rfl) rfl (Nat.le_of_ble_eq_true rfl) (show t < 621 by omega) (by rw [cm_83]; exact congrArg Prod.fst hkt.2.1) (ev_mono hE9_ (by omega)) ?_
              have hF9q : CFR t c s s9_ := hF8q.tr hF9_ (Int.le_refl c)
              show mm_wp _ _ (150, [some (.ref 580), some (.int (iI (k y2_.1)))], [], MX L t s9_ l) _
              refine wi_ic hc rfl ?_
              refine wi_r1 hc rfl (by rw [cm_62]; rfl) ?_
              have hr9 : r = (0, (rpPut (10000 + (k y2_.1)) y8_)) := by
                rw [← hr, rpAsk, if_neg (by omega), rpCmp_1 hy2_ (rpIs_iff.mpr (by omega)), hy8_]
                rfl
              subst hr9
              exact ⟨s9_, by rw [bI_t (p := ((0, (rpPut (10000 + (k y2_.1)) y8_)) : rpR).1 = 0) rfl], CRs.ok hM9_ hF9q⟩
            · skip
              refine wi_ic hc rfl ?_
              refine wi_r0 hc rfl (by rw [cm_62]; rfl) ?_
              have hr9 : r = (f8_, y8_) := by
                rw [← hr, rpAsk, if_neg (by omega), rpCmp_1 hy2_ (rpIs_iff.mpr (by omega)), hy8_, rpB_n (r := (f8_, y8_)) h7_]
              subst hr9
              exact ⟨s8_, by rw [bI_f (p := ((f8_, y8_) : rpR).1 = 0) h7_], CRs.no h7_ (hC8_.2.1 h7_).1 (hC8_.2.1 h7_).2 hF8q⟩
          · refine wi_a1 hc rfl rfl ?_
            refine wi_ic hc rfl ?_
            obtain ⟨s10_, hE10_, hX10_, hY10_⟩ := sp_54 (d := 0) (L := L) (t := t) (l := l) (CSt.rR hM2_) (by have q := CSt.ra hM2_; exact q : s2_ 580 4 = y2_.1) ⟨by omega, by omega⟩ (n := 1) ⟨by decide, by decide⟩
            refine wp_cv (b := 580) (As := [.int (iI 1)]) (r := []) hc rfl (by rw [cm_54]; rfl) rfl (Nat.le_of_ble_eq_true rfl) (show 580 < 621 by decide) (by rw [cm_54]; rfl) (ev_mono hE10_ (by omega)) ?_
            have hF10q : CFR t c s s10_ := hF2q.tr (CFR.fl hkt hX10_ hY10_) (Int.le_refl c)
            show mm_wp _ _ (118, [some (.ref 580), some (.int (iI (k y2_.1)))], [.int (iI 0)], MX L t s10_ l) _
            refine wi_r0 hc rfl (by rw [cm_62]; rfl) ?_
            have hr9 : r = (1, y2_) := by
              rw [← hr, rpAsk, if_neg (by omega), rpCmp_0 hy2_ (fun e => by have e := rpIs_iff.mp e; omega)]
            subst hr9
            exact ⟨s10_, by rw [bI_f (p := ((1, y2_) : rpR).1 = 0) (by show ¬ (1 : Int) = 0; decide)], CRs.no (by decide) ((hY10_ 8).trans (by rw [if_neg (by decide), if_pos rfl])) ((hY10_ 9).trans (if_pos rfl)) hF10q⟩
      · refine wi_i1 hc rfl rfl ?_
        refine wi_bi hc rfl rfl ?_
        refine wi_cle hc rfl ⟨by omega, by omega⟩ ⟨by decide, by decide⟩ (fun h8_ => ?_) (fun h8_ => ?_)
        · have hnx9 : y2_.1 + 1 < tn := by
            rcases (by omega : y2_.1 + 1 < tn ∨ tn - 1 ≤ y2_.1) with g | g
            · exact g
            · exfalso; have := hk43 _ g; omega
          refine wi_a1 hc rfl rfl ?_
          refine wi_dupr hc rfl ?_
          refine wi_gfv (kz := 4) rfl hc rfl rfl (by decide) (Nat.le_of_ble_eq_true rfl) rfl (v := y2_.1) ((by have q := CSt.ra hM2_; exact q : s2_ 580 4 = y2_.1)) ?_
          refine wi_ic hc rfl ?_
          refine wi_add hc rfl ?_
          refine wi_pf (kz := 4) rfl hc rfl rfl (by decide) (Nat.le_of_ble_eq_true rfl) rfl (Nat.le_of_ble_eq_true rfl) ⟨rfl, rfl⟩ rfl ?_
          obtain ⟨s11_, es11_⟩ : ∃ q, q = up s2_ 580 4 (y2_.1 + 1) := ⟨_, rfl⟩
          rw [← es11_]
          have hMs11_ : CSt kd pl nm tn t W s11_ (rpNx y2_) (8 - ((m + 1 : Nat) : Int)) := by rw [es11_]; exact CSt.nx0 hkt hM2_ rfl
          have hFs11_ : CFR t c s s11_ := hF2q.tr (by rw [es11_]; exact CFR.u hkt (by decide)) (Int.le_refl c)
          refine wi_a1 hc rfl rfl ?_
          obtain ⟨f12_, y12_, hy12_⟩ : ∃ f y, rpSum k (rpOne k nm W (m + 1)) (rpNx y2_) = (f, y) := ⟨_, _, rfl⟩
          obtain ⟨s12_, hE12_, hC12_⟩ := ihs s11_ l (rpNx y2_) hMs11_ _ hy12_ (show rpG tn (rpNx y2_) from ⟨by show 0 ≤ y2_.1 + 1; omega, by show y2_.1 + 1 + 1 ≤ tn; omega, by show 0 ≤ y2_.2.2; omega, by show y2_.2.2 ≤ y2_.1 + 1; omega⟩) c (by show c ≤ y2_.2.2; omega)
          refine wp_cv (b := 580) (As := []) (r := []) hc rfl (by rw [cm_63]; rfl) rfl (Nat.le_of_ble_eq_true rfl) (show 580 < 621 by decide) (by rw [cm_63]; rfl) (ev_mono hE12_ (by omega)) ?_
          have hF12q : CFR t c s s12_ := hFs11_.tr hC12_.2.2 (Int.le_refl c)
          show mm_wp _ _ (133, [some (.ref 580), some (.int (iI (k y2_.1)))], [.int (iI (bI (f12_ = 0)))], MX L t s12_ l) _
          refine wi_bne hc rfl (fun h9_ => ?_) (fun h9_ => ?_)
          · subst h9_
            have hM12_ := hC12_.1 rfl
            have hK12_ := (rpSum_K (rpOne_K hk43 (m + 1)) hy12_).1
            obtain ⟨hk1_12, hk2_12, hk3_12, hk4_12, hk5_12⟩ := hK12_
            have hk1_12 : y2_.1 + 1 + 1 ≤ y12_.1 := hk1_12
            have hk2_12 : y2_.2.2 + 1 ≤ y12_.2.2 := hk2_12
            have hk3_12 : y12_.2.2 - y2_.2.2 ≤ y12_.1 - (y2_.1 + 1) := hk3_12
            refine wi_a1 hc rfl rfl ?_
            refine wi_gr (w := t) hc rfl rfl (by decide) (Nat.le_of_ble_eq_true rfl) rfl ?_
            refine wi_si hc rfl rfl ?_
            refine wi_i1 hc rfl rfl ?_
            refine wi_add hc rfl ?_
            obtain ⟨s13_, hE13_, hM13_, hF13_⟩ := ad_83 (d := 0) (L := L) (l := l) (c := c) hkt hM12_ (show 0 ≤ y12_.2.2 ∧ y12_.2.2 < 300 by omega) (show c ≤ y12_.2.2 by omega) (10000 + (k y2_.1))
            refine wp_cv (b := t) (As := [.int (iI (10000 + (k y2_.1)))]) (r := []) hc rfl (by rw [cm_83]; rfl) rfl (Nat.le_of_ble_eq_true rfl) (show t < 621 by omega) (by rw [cm_83]; exact congrArg Prod.fst hkt.2.1) (ev_mono hE13_ (by omega)) ?_
            have hF13q : CFR t c s s13_ := hF12q.tr hF13_ (Int.le_refl c)
            show mm_wp _ _ (150, [some (.ref 580), some (.int (iI (k y2_.1)))], [], MX L t s13_ l) _
            refine wi_ic hc rfl ?_
            refine wi_r1 hc rfl (by rw [cm_62]; rfl) ?_
            have hr9 : r = (0, (rpPut (10000 + (k y2_.1)) y12_)) := by
              rw [← hr, rpAsk, if_neg (by omega), rpCmp_1 hy2_ (rpIs_iff.mpr (by omega)), hy12_]
              rfl
            subst hr9
            exact ⟨s13_, by rw [bI_t (p := ((0, (rpPut (10000 + (k y2_.1)) y12_)) : rpR).1 = 0) rfl], CRs.ok hM13_ hF13q⟩
          · skip
            refine wi_ic hc rfl ?_
            refine wi_r0 hc rfl (by rw [cm_62]; rfl) ?_
            have hr9 : r = (f12_, y12_) := by
              rw [← hr, rpAsk, if_neg (by omega), rpCmp_1 hy2_ (rpIs_iff.mpr (by omega)), hy12_, rpB_n (r := (f12_, y12_)) h9_]
            subst hr9
            exact ⟨s12_, by rw [bI_f (p := ((f12_, y12_) : rpR).1 = 0) h9_], CRs.no h9_ (hC12_.2.1 h9_).1 (hC12_.2.1 h9_).2 hF12q⟩
        · refine wi_i1 hc rfl rfl ?_
          refine wi_bi hc rfl rfl ?_
          refine wi_ceq hc rfl ⟨by omega, by omega⟩ ⟨by decide, by decide⟩ (fun h10_ => ?_) (fun h10_ => ?_)
          · have hnx9 : y2_.1 + 1 < tn := by
              rcases (by omega : y2_.1 + 1 < tn ∨ tn - 1 ≤ y2_.1) with g | g
              · exact g
              · exfalso; have := hk43 _ g; omega
            refine wi_a1 hc rfl rfl ?_
            refine wi_dupr hc rfl ?_
            refine wi_gfv (kz := 4) rfl hc rfl rfl (by decide) (Nat.le_of_ble_eq_true rfl) rfl (v := y2_.1) ((by have q := CSt.ra hM2_; exact q : s2_ 580 4 = y2_.1)) ?_
            refine wi_ic hc rfl ?_
            refine wi_add hc rfl ?_
            refine wi_pf (kz := 4) rfl hc rfl rfl (by decide) (Nat.le_of_ble_eq_true rfl) rfl (Nat.le_of_ble_eq_true rfl) ⟨rfl, rfl⟩ rfl ?_
            obtain ⟨s14_, es14_⟩ : ∃ q, q = up s2_ 580 4 (y2_.1 + 1) := ⟨_, rfl⟩
            rw [← es14_]
            have hMs14_ : CSt kd pl nm tn t W s14_ (rpNx y2_) (8 - ((m + 1 : Nat) : Int)) := by rw [es14_]; exact CSt.nx0 hkt hM2_ rfl
            have hFs14_ : CFR t c s s14_ := hF2q.tr (by rw [es14_]; exact CFR.u hkt (by decide)) (Int.le_refl c)
            refine wi_a1 hc rfl rfl ?_
            obtain ⟨f15_, y15_, hy15_⟩ : ∃ f y, rpSum k (rpOne k nm W (m + 1)) (rpNx y2_) = (f, y) := ⟨_, _, rfl⟩
            obtain ⟨s15_, hE15_, hC15_⟩ := ihs s14_ l (rpNx y2_) hMs14_ _ hy15_ (show rpG tn (rpNx y2_) from ⟨by show 0 ≤ y2_.1 + 1; omega, by show y2_.1 + 1 + 1 ≤ tn; omega, by show 0 ≤ y2_.2.2; omega, by show y2_.2.2 ≤ y2_.1 + 1; omega⟩) c (by show c ≤ y2_.2.2; omega)
            refine wp_cv (b := 580) (As := []) (r := []) hc rfl (by rw [cm_63]; rfl) rfl (Nat.le_of_ble_eq_true rfl) (show 580 < 621 by decide) (by rw [cm_63]; rfl) (ev_mono hE15_ (by omega)) ?_
            have hF15q : CFR t c s s15_ := hFs14_.tr hC15_.2.2 (Int.le_refl c)
            show mm_wp _ _ (133, [some (.ref 580), some (.int (iI (k y2_.1)))], [.int (iI (bI (f15_ = 0)))], MX L t s15_ l) _
            refine wi_bne hc rfl (fun h11_ => ?_) (fun h11_ => ?_)
            · subst h11_
              have hM15_ := hC15_.1 rfl
              have hK15_ := (rpSum_K (rpOne_K hk43 (m + 1)) hy15_).1
              obtain ⟨hk1_15, hk2_15, hk3_15, hk4_15, hk5_15⟩ := hK15_
              have hk1_15 : y2_.1 + 1 + 1 ≤ y15_.1 := hk1_15
              have hk2_15 : y2_.2.2 + 1 ≤ y15_.2.2 := hk2_15
              have hk3_15 : y15_.2.2 - y2_.2.2 ≤ y15_.1 - (y2_.1 + 1) := hk3_15
              refine wi_a1 hc rfl rfl ?_
              refine wi_gr (w := t) hc rfl rfl (by decide) (Nat.le_of_ble_eq_true rfl) rfl ?_
              refine wi_si hc rfl rfl ?_
              refine wi_i1 hc rfl rfl ?_
              refine wi_add hc rfl ?_
              obtain ⟨s16_, hE16_, hM16_, hF16_⟩ := ad_83 (d := 0) (L := L) (l := l) (c := c) hkt hM15_ (show 0 ≤ y15_.2.2 ∧ y15_.2.2 < 300 by omega) (show c ≤ y15_.2.2 by omega) (10000 + (k y2_.1))
              refine wp_cv (b := t) (As := [.int (iI (10000 + (k y2_.1)))]) (r := []) hc rfl (by rw [cm_83]; rfl) rfl (Nat.le_of_ble_eq_true rfl) (show t < 621 by omega) (by rw [cm_83]; exact congrArg Prod.fst hkt.2.1) (ev_mono hE16_ (by omega)) ?_
              have hF16q : CFR t c s s16_ := hF15q.tr hF16_ (Int.le_refl c)
              show mm_wp _ _ (150, [some (.ref 580), some (.int (iI (k y2_.1)))], [], MX L t s16_ l) _
              refine wi_ic hc rfl ?_
              refine wi_r1 hc rfl (by rw [cm_62]; rfl) ?_
              have hr9 : r = (0, (rpPut (10000 + (k y2_.1)) y15_)) := by
                rw [← hr, rpAsk, if_neg (by omega), rpCmp_1 hy2_ (rpIs_iff.mpr (by omega)), hy15_]
                rfl
              subst hr9
              exact ⟨s16_, by rw [bI_t (p := ((0, (rpPut (10000 + (k y2_.1)) y15_)) : rpR).1 = 0) rfl], CRs.ok hM16_ hF16q⟩
            · skip
              refine wi_ic hc rfl ?_
              refine wi_r0 hc rfl (by rw [cm_62]; rfl) ?_
              have hr9 : r = (f15_, y15_) := by
                rw [← hr, rpAsk, if_neg (by omega), rpCmp_1 hy2_ (rpIs_iff.mpr (by omega)), hy15_, rpB_n (r := (f15_, y15_)) h11_]
              subst hr9
              exact ⟨s15_, by rw [bI_f (p := ((f15_, y15_) : rpR).1 = 0) h11_], CRs.no h11_ (hC15_.2.1 h11_).1 (hC15_.2.1 h11_).2 hF15q⟩
          · refine wi_i1 hc rfl rfl ?_
            refine wi_bi hc rfl rfl ?_
            refine wi_ceq hc rfl ⟨by omega, by omega⟩ ⟨by decide, by decide⟩ (fun h12_ => ?_) (fun h12_ => ?_)
            · have hnx9 : y2_.1 + 1 < tn := by
                rcases (by omega : y2_.1 + 1 < tn ∨ tn - 1 ≤ y2_.1) with g | g
                · exact g
                · exfalso; have := hk43 _ g; omega
              refine wi_a1 hc rfl rfl ?_
              refine wi_dupr hc rfl ?_
              refine wi_gfv (kz := 4) rfl hc rfl rfl (by decide) (Nat.le_of_ble_eq_true rfl) rfl (v := y2_.1) ((by have q := CSt.ra hM2_; exact q : s2_ 580 4 = y2_.1)) ?_
              refine wi_ic hc rfl ?_
              refine wi_add hc rfl ?_
              refine wi_pf (kz := 4) rfl hc rfl rfl (by decide) (Nat.le_of_ble_eq_true rfl) rfl (Nat.le_of_ble_eq_true rfl) ⟨rfl, rfl⟩ rfl ?_
              obtain ⟨s17_, es17_⟩ : ∃ q, q = up s2_ 580 4 (y2_.1 + 1) := ⟨_, rfl⟩
              rw [← es17_]
              have hMs17_ : CSt kd pl nm tn t W s17_ (rpNx y2_) (8 - ((m + 1 : Nat) : Int)) := by rw [es17_]; exact CSt.nx0 hkt hM2_ rfl
              have hFs17_ : CFR t c s s17_ := hF2q.tr (by rw [es17_]; exact CFR.u hkt (by decide)) (Int.le_refl c)
              refine wi_a1 hc rfl rfl ?_
              obtain ⟨f18_, y18_, hy18_⟩ : ∃ f y, rpSum k (rpOne k nm W (m + 1)) (rpNx y2_) = (f, y) := ⟨_, _, rfl⟩
              obtain ⟨s18_, hE18_, hC18_⟩ := ihs s17_ l (rpNx y2_) hMs17_ _ hy18_ (show rpG tn (rpNx y2_) from ⟨by show 0 ≤ y2_.1 + 1; omega, by show y2_.1 + 1 + 1 ≤ tn; omega, by show 0 ≤ y2_.2.2; omega, by show y2_.2.2 ≤ y2_.1 + 1; omega⟩) c (by show c ≤ y2_.2.2; omega)
              refine wp_cv (b := 580) (As := []) (r := []) hc rfl (by rw [cm_63]; rfl) rfl (Nat.le_of_ble_eq_true rfl) (show 580 < 621 by decide) (by rw [cm_63]; rfl) (ev_mono hE18_ (by omega)) ?_
              have hF18q : CFR t c s s18_ := hFs17_.tr hC18_.2.2 (Int.le_refl c)
              show mm_wp _ _ (133, [some (.ref 580), some (.int (iI (k y2_.1)))], [.int (iI (bI (f18_ = 0)))], MX L t s18_ l) _
              refine wi_bne hc rfl (fun h13_ => ?_) (fun h13_ => ?_)
              · subst h13_
                have hM18_ := hC18_.1 rfl
                have hK18_ := (rpSum_K (rpOne_K hk43 (m + 1)) hy18_).1
                obtain ⟨hk1_18, hk2_18, hk3_18, hk4_18, hk5_18⟩ := hK18_
                have hk1_18 : y2_.1 + 1 + 1 ≤ y18_.1 := hk1_18
                have hk2_18 : y2_.2.2 + 1 ≤ y18_.2.2 := hk2_18
                have hk3_18 : y18_.2.2 - y2_.2.2 ≤ y18_.1 - (y2_.1 + 1) := hk3_18
                refine wi_a1 hc rfl rfl ?_
                refine wi_gr (w := t) hc rfl rfl (by decide) (Nat.le_of_ble_eq_true rfl) rfl ?_
                refine wi_si hc rfl rfl ?_
                refine wi_i1 hc rfl rfl ?_
                refine wi_add hc rfl ?_
                obtain ⟨s19_, hE19_, hM19_, hF19_⟩ := ad_83 (d := 0) (L := L) (l := l) (c := c) hkt hM18_ (show 0 ≤ y18_.2.2 ∧ y18_.2.2 < 300 by omega) (show c ≤ y18_.2.2 by omega) (10000 + (k y2_.1))
                refine wp_cv (b := t) (As := [.int (iI (10000 + (k y2_.1)))]) (r := []) hc rfl (by rw [cm_83]; rfl) rfl (Nat.le_of_ble_eq_true rfl) (show t < 621 by omega) (by rw [cm_83]; exact congrArg Prod.fst hkt.2.1) (ev_mono hE19_ (by omega)) ?_
                have hF19q : CFR t c s s19_ := hF18q.tr hF19_ (Int.le_refl c)
                show mm_wp _ _ (150, [some (.ref 580), some (.int (iI (k y2_.1)))], [], MX L t s19_ l) _
                refine wi_ic hc rfl ?_
                refine wi_r1 hc rfl (by rw [cm_62]; rfl) ?_
                have hr9 : r = (0, (rpPut (10000 + (k y2_.1)) y18_)) := by
                  rw [← hr, rpAsk, if_neg (by omega), rpCmp_1 hy2_ (rpIs_iff.mpr (by omega)), hy18_]
                  rfl
                subst hr9
                exact ⟨s19_, by rw [bI_t (p := ((0, (rpPut (10000 + (k y2_.1)) y18_)) : rpR).1 = 0) rfl], CRs.ok hM19_ hF19q⟩
              · skip
                refine wi_ic hc rfl ?_
                refine wi_r0 hc rfl (by rw [cm_62]; rfl) ?_
                have hr9 : r = (f18_, y18_) := by
                  rw [← hr, rpAsk, if_neg (by omega), rpCmp_1 hy2_ (rpIs_iff.mpr (by omega)), hy18_, rpB_n (r := (f18_, y18_)) h13_]
                subst hr9
                exact ⟨s18_, by rw [bI_f (p := ((f18_, y18_) : rpR).1 = 0) h13_], CRs.no h13_ (hC18_.2.1 h13_).1 (hC18_.2.1 h13_).2 hF18q⟩
            · refine wi_a1 hc rfl rfl ?_
              refine wi_ic hc rfl ?_
              obtain ⟨s20_, hE20_, hX20_, hY20_⟩ := sp_54 (d := 0) (L := L) (t := t) (l := l) (CSt.rR hM2_) (by have q := CSt.ra hM2_; exact q : s2_ 580 4 = y2_.1) ⟨by omega, by omega⟩ (n := 1) ⟨by decide, by decide⟩
              refine wp_cv (b := 580) (As := [.int (iI 1)]) (r := []) hc rfl (by rw [cm_54]; rfl) rfl (Nat.le_of_ble_eq_true rfl) (show 580 < 621 by decide) (by rw [cm_54]; rfl) (ev_mono hE20_ (by omega)) ?_
              have hF20q : CFR t c s s20_ := hF2q.tr (CFR.fl hkt hX20_ hY20_) (Int.le_refl c)
              show mm_wp _ _ (118, [some (.ref 580), some (.int (iI (k y2_.1)))], [.int (iI 0)], MX L t s20_ l) _
              refine wi_r0 hc rfl (by rw [cm_62]; rfl) ?_
              have hr9 : r = (1, y2_) := by
                rw [← hr, rpAsk, if_neg (by omega), rpCmp_0 hy2_ (fun e => by have e := rpIs_iff.mp e; omega)]
              subst hr9
              exact ⟨s20_, by rw [bI_f (p := ((1, y2_) : rpR).1 = 0) (by show ¬ (1 : Int) = 0; decide)], CRs.no (by decide) ((hY20_ 8).trans (by rw [if_neg (by decide), if_pos rfl])) ((hY20_ 9).trans (if_pos rfl)) hF20q⟩
    · skip
      refine wi_ic hc rfl ?_
      refine wi_r0 hc rfl (by rw [cm_62]; rfl) ?_
      have hr9 : r = (f2_, y2_) := by
        rw [← hr, rpAsk, if_neg (by omega), rpCmp_n (r := (f2_, y2_)) hy2_ h2_]
      subst hr9
      exact ⟨s2_, by rw [bI_f (p := ((f2_, y2_) : rpR).1 = 0) h2_], CRs.no h2_ (hC2_.2.1 h2_).1 (hC2_.2.1 h2_).2 hF2q⟩
  · refine wi_a1 hc rfl rfl ?_
    refine wi_gfv (kz := 7) rfl hc rfl rfl (by decide) (Nat.le_of_ble_eq_true rfl) rfl (v := (8 - ((m + 1 : Nat) : Int))) (CSt.ro h) ?_
    refine wi_bi hc rfl rfl ?_
    refine wi_clt hc rfl ⟨by omega, by omega⟩ ⟨by decide, by decide⟩ (fun h14_ => ?_) (fun h14_ => (by exfalso; omega))
    have hnx9 : z.1 + 1 < tn := by
      rcases (by omega : z.1 + 1 < tn ∨ tn - 1 ≤ z.1) with g | g
      · exact g
      · exfalso; have := hk43 _ g; omega
    refine wi_a1 hc rfl rfl ?_
    refine wi_dupr hc rfl ?_
    refine wi_gfv (kz := 7) rfl hc rfl rfl (by decide) (Nat.le_of_ble_eq_true rfl) rfl (v := (8 - ((m + 1 : Nat) : Int))) (CSt.ro h) ?_
    refine wi_ic hc rfl ?_
    refine wi_add hc rfl ?_
    refine wi_pf (kz := 7) rfl hc rfl rfl (by decide) (Nat.le_of_ble_eq_true rfl) rfl (Nat.le_of_ble_eq_true rfl) ⟨rfl, rfl⟩ rfl ?_
    obtain ⟨s21_, es21_⟩ : ∃ q, q = up s 580 7 ((8 - ((m + 1 : Nat) : Int)) + 1) := ⟨_, rfl⟩
    rw [← es21_]
    have hMs21_ : CSt kd pl nm tn t W s21_ z ((8 - ((m + 1 : Nat) : Int)) + 1) := by rw [es21_]; exact CSt.so0 hkt h
    have hFs21_ : CFR t c s s21_ := CFR.rf.tr (by rw [es21_]; exact CFR.u hkt (by decide)) (Int.le_refl c)
    have hO22_ : CSt kd pl nm tn t W s21_ z (8 - (m : Int)) := by rw [show (8 - (m : Int)) = (8 - ((m + 1 : Nat) : Int)) + 1 by omega]; exact hMs21_
    refine wi_a1 hc rfl rfl ?_
    refine wi_dupr hc rfl ?_
    refine wi_gfv (kz := 4) rfl hc rfl rfl (by decide) (Nat.le_of_ble_eq_true rfl) rfl (v := z.1) ((by have q := CSt.ra hO22_; exact q : s21_ 580 4 = z.1)) ?_
    refine wi_ic hc rfl ?_
    refine wi_add hc rfl ?_
    refine wi_pf (kz := 4) rfl hc rfl rfl (by decide) (Nat.le_of_ble_eq_true rfl) rfl (Nat.le_of_ble_eq_true rfl) ⟨rfl, rfl⟩ rfl ?_
    obtain ⟨s23_, es23_⟩ : ∃ q, q = up s21_ 580 4 (z.1 + 1) := ⟨_, rfl⟩
    rw [← es23_]
    have hMs23_ : CSt kd pl nm tn t W s23_ (rpNx z) (8 - (m : Int)) := by rw [es23_]; exact CSt.nx0 hkt hO22_ rfl
    have hFs23_ : CFR t c s s23_ := hFs21_.tr (by rw [es23_]; exact CFR.u hkt (by decide)) (Int.le_refl c)
    refine wi_a1 hc rfl rfl ?_
    obtain ⟨f24_, y24_, hy24_⟩ : ∃ f y, rpAsk k nm W m (rpNx z) = (f, y) := ⟨_, _, rfl⟩
    obtain ⟨s24_, hE24_, hC24_⟩ := iha s23_ l (rpNx z) hMs23_ _ hy24_ (show rpG tn (rpNx z) from ⟨by show 0 ≤ z.1 + 1; omega, by show z.1 + 1 + 1 ≤ tn; omega, by show 0 ≤ z.2.2; omega, by show z.2.2 ≤ z.1 + 1; omega⟩) c (by show c ≤ z.2.2; omega)
    refine wp_cv (b := 580) (As := []) (r := []) hc rfl (by rw [cm_62]; rfl) rfl (Nat.le_of_ble_eq_true rfl) (show 580 < 621 by decide) (by rw [cm_62]; rfl) (ev_mono hE24_ (by omega)) ?_
    have hF24q : CFR t c s s24_ := hFs23_.tr hC24_.2.2 (Int.le_refl c)
    show mm_wp _ _ (48, [some (.ref 580), none], [.int (iI (bI (f24_ = 0)))], MX L t s24_ l) _
    refine wi_bne hc rfl (fun h15_ => ?_) (fun h15_ => ?_)
    · subst h15_
      have hM24_ := hC24_.1 rfl
      have hK24_ := rpAsk_K hk43 m _ _ hy24_
      obtain ⟨hk1_24, hk2_24, hk3_24, hk4_24, hk5_24⟩ := hK24_
      have hk1_24 : z.1 + 1 + 1 ≤ y24_.1 := hk1_24
      have hk2_24 : z.2.2 + 1 ≤ y24_.2.2 := hk2_24
      have hk3_24 : y24_.2.2 - z.2.2 ≤ y24_.1 - (z.1 + 1) := hk3_24
      refine wi_a1 hc rfl rfl ?_
      refine wi_dupr hc rfl ?_
      refine wi_gfv (kz := 7) rfl hc rfl rfl (by decide) (Nat.le_of_ble_eq_true rfl) rfl (v := (8 - (m : Int))) (CSt.ro hM24_) ?_
      refine wi_ic hc rfl ?_
      refine wi_sub hc rfl ?_
      refine wi_pf (kz := 7) rfl hc rfl rfl (by decide) (Nat.le_of_ble_eq_true rfl) rfl (Nat.le_of_ble_eq_true rfl) ⟨rfl, rfl⟩ rfl ?_
      obtain ⟨s25_, es25_⟩ : ∃ q, q = up s24_ 580 7 ((8 - (m : Int)) - 1) := ⟨_, rfl⟩
      rw [← es25_]
      have hMs25_ : CSt kd pl nm tn t W s25_ y24_ ((8 - (m : Int)) - 1) := by rw [es25_]; exact CSt.so0 hkt hM24_
      have hFs25_ : CFR t c s s25_ := hF24q.tr (by rw [es25_]; exact CFR.u hkt (by decide)) (Int.le_refl c)
      have hO26_ : CSt kd pl nm tn t W s25_ y24_ (8 - ((m + 1 : Nat) : Int)) := by rw [show (8 - ((m + 1 : Nat) : Int)) = (8 - (m : Int)) - 1 by omega]; exact hMs25_
      refine wi_a1 hc rfl rfl ?_
      refine wi_gr (w := t) hc rfl rfl (by decide) (Nat.le_of_ble_eq_true rfl) rfl ?_
      refine wi_si hc rfl rfl ?_
      obtain ⟨s27_, hE27_, hM27_, hF27_⟩ := ad_83 (d := 0) (L := L) (l := l) (c := c) hkt hO26_ (show 0 ≤ y24_.2.2 ∧ y24_.2.2 < 300 by omega) (show c ≤ y24_.2.2 by omega) (10028)
      refine wp_cv (b := t) (As := [.int (iI 10028)]) (r := []) hc rfl (by rw [cm_83]; rfl) rfl (Nat.le_of_ble_eq_true rfl) (show t < 621 by omega) (by rw [cm_83]; exact congrArg Prod.fst hkt.2.1) (ev_mono hE27_ (by omega)) ?_
      have hF27q : CFR t c s s27_ := hFs25_.tr hF27_ (Int.le_refl c)
      show mm_wp _ _ (73, [some (.ref 580), none], [], MX L t s27_ l) _
      refine wi_ic hc rfl ?_
      refine wi_r1 hc rfl (by rw [cm_62]; rfl) ?_
      have hr9 : r = (0, (rpPut (10028) y24_)) := by
        rw [← hr, rpAsk, if_pos (by omega), hy24_]
        rfl
      subst hr9
      exact ⟨s27_, by rw [bI_t (p := ((0, (rpPut (10028) y24_)) : rpR).1 = 0) rfl], CRs.ok hM27_ hF27q⟩
    · skip
      refine wi_ic hc rfl ?_
      refine wi_r0 hc rfl (by rw [cm_62]; rfl) ?_
      have hr9 : r = (f24_, y24_) := by
        rw [← hr, rpAsk, if_pos (by omega), hy24_, rpB_n (r := (f24_, y24_)) h15_]
      subst hr9
      exact ⟨s24_, by rw [bI_f (p := ((f24_, y24_) : rpR).1 = 0) h15_], CRs.no h15_ (hC24_.2.1 h15_).1 (hC24_.2.1 h15_).2 hF24q⟩
theorem c_ask {L t : Nat} (hkt : KT L t t) {kd k pl nm : Int → Int} {tn W : Int} (hGC : GTC kd k pl nm tn) (hW0 : 0 ≤ W ∧ W ≤ 44) : ∀ m : Nat, m ≤ 8 → cAsk L t kd k pl nm tn W m := by
  intro m
  induction m with
  | zero =>
    exact fun _ s l z h r hr hg c hcc => by
      obtain ⟨s1, e, g⟩ := as_62z (D := 6) (l := l) (Nat.le_refl _) hkt hGC hW0 (c_all hkt hGC hW0 0 (by decide)).2 h hr hg hcc
      exact ⟨s1, e, g⟩
  | succ m ih =>
    intro hm s l z h r hr hg c hcc
    obtain ⟨s1, e, g⟩ := as_62s (D := 2 * m + 8) (l := l) (Nat.le_refl _) hkt hGC hW0 hm (ih (by omega)) (c_all hkt hGC hW0 (m + 1) hm).2 h hr hg hcc
    exact ⟨s1, ev_mono e (by omega), g⟩
theorem ei_61 {D L t : Nat} {s l : Nat → Int → Int} (hD : 23 ≤ D) (hkt : KT L t t) {kd k pl nm : Int → Int} {tn W : Int} (hGC : GTC kd k pl nm tn) (hW0 : 0 ≤ W ∧ W ≤ 44) {z : rpS} (h : CSt kd pl nm tn t W s z 0) {r : rpR} (hr : rpEi k nm W 301 false false z = r) (hg : rpG tn z) {c : Int} (hcc : c ≤ z.2.2) : ∃ s1, mm_Ev mm_ct mm_CM (D + 1) 61 [.ref 580] (MX L t s l) (some (.int (iI (bI (r.1 = 0)))), MX L t s1 l) ∧ CRs kd pl nm tn t W s s1 r 0 c := by
  have hc : (mm_CM 61).2.2.2.2.2.2.2 = mm_cf cd_61 := by rw [cm_61]; rfl
  refine ev_xs ?_
  refine ev_to (mx := 3) (by rw [cm_61]; decide) (by rw [cm_61]; rfl) (by show 1 ≤ _; decide) ?_
  show mm_wp _ _ (0, [some (.ref 580), none, none], [], MX L t s l) (fun res => ∃ s1, res = (some (.int (iI (bI (r.1 = 0)))), MX L t s1 l) ∧ CRs kd pl nm tn t W s s1 r 0 c)
  obtain ⟨hk, hk43, hkr, htn⟩ := id hGC
  have hg9 := hg
  obtain ⟨hg0, hg1, hg2, hg3⟩ := hg9
  have ht6 := hkt.1
  have ihA := c_ask hkt hGC hW0 8 (by decide)
  refine wi_ic hc rfl ?_
  refine wi_is1 (L' := [some (.ref 580), some (.int (iI 0)), none]) hc rfl (Nat.le_of_ble_eq_true rfl) rfl ?_
  have loop2_ : ∀ N : Nat, ∀ (y1 : rpS) (s1 : Nat → Int → Int) (i : Int) (n : Nat) (o2 : Option Value), (302 - y1.1).toNat ≤ N → CSt kd pl nm tn t W s1 y1 0 → CFR t c s s1 → 0 ≤ i → i + n ≤ 301 → 602 ≤ y1.1 + 2 * n → 0 ≤ y1.1 → y1.1 + 1 ≤ tn → c ≤ y1.2.2 → 0 ≤ y1.2.2 → y1.2.2 ≤ y1.1 → (0 < i → y1.2.2 + 1 ≤ y1.1) → rpEi k nm W n false (decide (0 < i)) y1 = r → mm_wp (mm_Ev mm_ct mm_CM D) 61 (2, [some (.ref 580), some (.int (iI i)), o2], [], MX L t s1 l) (fun res => ∃ s1, res = (some (.int (iI (bI (r.1 = 0)))), MX L t s1 l) ∧ CRs kd pl nm tn t W s s1 r 0 c) := by
    refine wf_ind ?_
    intro N ih y1 s1 i n o2 hN hM1 hF1 i0 hni hn2 hy0 hy1 hy2 hy3 hy4 hy5 hR1
    obtain ⟨n5, rfl⟩ : ∃ q, n = q + 1 := ⟨n - 1, by omega⟩
    rw [rpEi_s] at hR1
    refine wi_i1 hc rfl rfl ?_
    refine wi_si hc rfl rfl ?_
    refine wi_cge hc rfl ⟨by omega, by omega⟩ ⟨by decide, by decide⟩ (fun h1_ => (by exfalso; omega)) (fun h1_ => ?_)
    refine wi_a1 hc rfl rfl ?_
    obtain ⟨f1_, y1_, hy1_⟩ : ∃ f y, rpAsk k nm W 8 y1 = (f, y) := ⟨_, _, rfl⟩
    obtain ⟨s1_, hE1_, hC1_⟩ := ihA s1 l y1 hM1 _ hy1_ (show rpG tn y1 from ⟨by show 0 ≤ y1.1; omega, by show y1.1 + 1 ≤ tn; omega, by show 0 ≤ y1.2.2; omega, by show y1.2.2 ≤ y1.1; omega⟩) c (by show c ≤ y1.2.2; omega)
    refine wp_cv (b := 580) (As := []) (r := []) hc rfl (by rw [cm_62]; rfl) rfl (Nat.le_of_ble_eq_true rfl) (show 580 < 621 by decide) (by rw [cm_62]; rfl) (ev_mono hE1_ (by omega)) ?_
    have hF1q : CFR t c s s1_ := hF1.tr hC1_.2.2 (Int.le_refl c)
    show mm_wp _ _ (13, [some (.ref 580), some (.int (iI i)), o2], [.int (iI (bI (f1_ = 0)))], MX L t s1_ l) _
    refine wi_bne hc rfl (fun h2_ => ?_) (fun h2_ => ?_)
    · subst h2_
      have hM1_ := hC1_.1 rfl
      have hK1_ := rpAsk_K hk43 8 _ _ hy1_
      obtain ⟨hk1_1, hk2_1, hk3_1, hk4_1, hk5_1⟩ := hK1_
      have hk1_1 : y1.1 + 1 ≤ y1_.1 := hk1_1
      have hk2_1 : y1.2.2 + 1 ≤ y1_.2.2 := hk2_1
      have hk3_1 : y1_.2.2 - y1.2.2 ≤ y1_.1 - (y1.1) := hk3_1
      refine wi_ic hc rfl ?_
      refine wi_is1 (L' := [some (.ref 580), some (.int (iI i)), some (.int (iI 0))]) hc rfl (Nat.le_of_ble_eq_true rfl) rfl ?_
      have loop20_ : ∀ N2 : Nat, ∀ (y2 : rpS) (s2 : Nat → Int → Int) (j : Int) (n2 : Nat), (302 - y2.1).toNat ≤ N2 → CSt kd pl nm tn t W s2 y2 0 → CFR t c s s2 → 0 ≤ j → j + n2 ≤ 301 → i + n2 ≤ 300 → 601 ≤ y2.1 + 2 * n2 → y1.1 + 1 ≤ y2.1 → y2.1 + 1 ≤ tn → c ≤ y2.2.2 → 0 ≤ y2.2.2 → y2.2.2 - y1.2.2 ≤ y2.1 - y1.1 → rpEf k nm W n2 (decide (0 < i)) y2 = r → mm_wp (mm_Ev mm_ct mm_CM D) 61 (20, [some (.ref 580), some (.int (iI i)), some (.int (iI j))], [], MX L t s2 l) (fun res => ∃ s1, res = (some (.int (iI (bI (r.1 = 0)))), MX L t s1 l) ∧ CRs kd pl nm tn t W s s1 r 0 c) := by
        refine wf_ind ?_
        intro N2 ih2 y2 s2 j n2 hN2 hM2 hF2 j0 hnj hni2 hn22 hz0 hz1 hz2 hz3 hz4 hR2
        refine wi_i1 hc rfl rfl ?_
        refine wi_si hc rfl rfl ?_
        refine wi_cge hc rfl ⟨by omega, by omega⟩ ⟨by decide, by decide⟩ (fun h3_ => (by exfalso; omega)) (fun h3_ => ?_)
        refine wi_a1 hc rfl rfl ?_
        have hk2_ : mm_Ev mm_ct mm_CM (0 + 1) 53 [.ref 580] (MX L t s2 l) (some (.int (iI (k y2.1))), MX L t s2 l) := by rw [hk]; exact sp_53 (d := 0) (CSt.rR hM2) (by have q := CSt.ra hM2; exact q : s2 580 4 = y2.1) ⟨by omega, by omega⟩
        have hkr2_ := hkr y2.1
        refine wp_cv (b := 580) (As := []) (r := []) hc rfl (by rw [cm_53]; rfl) rfl (Nat.le_of_ble_eq_true rfl) (show 580 < 621 by decide) (by rw [cm_53]; rfl) (ev_mono hk2_ (by omega)) ?_
        show mm_wp _ _ (31, [some (.ref 580), some (.int (iI i)), some (.int (iI j))], [.int (iI (k y2.1))], MX L t s2 l) _
        refine wi_bi hc rfl rfl ?_
        refine wi_cne hc rfl ⟨by omega, by omega⟩ ⟨by decide, by decide⟩ (fun h4_ => ?_) (fun h4_ => ?_)
        · rw [rpEf, if_neg (by omega)] at hR2
          refine wi_i1 hc rfl rfl ?_
          refine wi_zle hc rfl ⟨by omega, by omega⟩ (fun h5_ => ?_) (fun h5_ => ?_)
          · have hR4 : k y2.1 = 26 → rpEi k nm W n2 false true (rpNx y2) = r := fun e => by rw [← hR2, if_pos e, if_neg (by rw [decide_eq_true_iff]; omega)]
            have hR5 : ¬ k y2.1 = 26 → r = (0, y2) := fun e => by rw [← hR2, if_neg e, if_neg (by rw [decide_eq_true_iff]; omega)]
            refine wi_a1 hc rfl rfl ?_
            have hk3_ : mm_Ev mm_ct mm_CM (0 + 1) 53 [.ref 580] (MX L t s2 l) (some (.int (iI (k y2.1))), MX L t s2 l) := by rw [hk]; exact sp_53 (d := 0) (CSt.rR hM2) (by have q := CSt.ra hM2; exact q : s2 580 4 = y2.1) ⟨by omega, by omega⟩
            have hkr3_ := hkr y2.1
            refine wp_cv (b := 580) (As := []) (r := []) hc rfl (by rw [cm_53]; rfl) rfl (Nat.le_of_ble_eq_true rfl) (show 580 < 621 by decide) (by rw [cm_53]; rfl) (ev_mono hk3_ (by omega)) ?_
            show mm_wp _ _ (89, [some (.ref 580), some (.int (iI i)), some (.int (iI j))], [.int (iI (k y2.1))], MX L t s2 l) _
            refine wi_bi hc rfl rfl ?_
            refine wi_ceq hc rfl ⟨by omega, by omega⟩ ⟨by decide, by decide⟩ (fun h6_ => ?_) (fun h6_ => ?_)
            · have hnx9 : y2.1 + 1 < tn := by
                rcases (by omega : y2.1 + 1 < tn ∨ tn - 1 ≤ y2.1) with g | g
                · exact g
                · exfalso; have := hk43 _ g; omega
              refine wi_a1 hc rfl rfl ?_
              refine wi_dupr hc rfl ?_
              refine wi_gfv (kz := 4) rfl hc rfl rfl (by decide) (Nat.le_of_ble_eq_true rfl) rfl (v := y2.1) ((by have q := CSt.ra hM2; exact q : s2 580 4 = y2.1)) ?_
              refine wi_ic hc rfl ?_
              refine wi_add hc rfl ?_
              refine wi_pf (kz := 4) rfl hc rfl rfl (by decide) (Nat.le_of_ble_eq_true rfl) rfl (Nat.le_of_ble_eq_true rfl) ⟨rfl, rfl⟩ rfl ?_
              obtain ⟨s4_, es4_⟩ : ∃ q, q = up s2 580 4 (y2.1 + 1) := ⟨_, rfl⟩
              rw [← es4_]
              have hMs4_ : CSt kd pl nm tn t W s4_ (rpNx y2) 0 := by rw [es4_]; exact CSt.nx0 hkt hM2 rfl
              have hFs4_ : CFR t c s s4_ := hF2.tr (by rw [es4_]; exact CFR.u hkt (by decide)) (Int.le_refl c)
              refine wi_inc (L' := [some (.ref 580), some (.int (iI (i + 1))), some (.int (iI j))]) hc rfl rfl rfl ?_
              refine wi_go hc rfl ?_
              exact ih (302 - (y2.1 + 1)).toNat (by omega) (rpNx y2) s4_ (i + 1) n2 (some (.int (iI j))) (Nat.le_refl _) hMs4_ hFs4_ (by omega) (by omega) (by show 602 ≤ y2.1 + 1 + 2 * (n2 : Int); omega) (by show 0 ≤ y2.1 + 1; omega) (by show y2.1 + 1 + 1 ≤ tn; omega) (by show c ≤ y2.2.2; omega) (by show 0 ≤ y2.2.2; omega) (by show y2.2.2 ≤ y2.1 + 1; omega) (fun _ => by show y2.2.2 + 1 ≤ y2.1 + 1; omega) (by rw [show decide (0 < i + 1) = true from decide_eq_true (by omega)]; exact hR4 (by omega))
            · refine wi_ic hc rfl ?_
              refine wi_r1 hc rfl (by rw [cm_61]; rfl) ?_
              have hr9 : r = (0, y2) := by
                exact hR5 (by omega)
              subst hr9
              exact ⟨s2, by rw [bI_t (p := ((0, y2) : rpR).1 = 0) rfl], CRs.ok hM2 hF2⟩
          · have hR4 : k y2.1 = 26 → rpEi k nm W n2 false true (rpNx (rpPut 10026 y2)) = r := fun e => by rw [← hR2, if_pos e, if_pos (by rw [decide_eq_true_iff]; omega)]
            have hR5 : ¬ k y2.1 = 26 → r = (0, (rpPut 10026 y2)) := fun e => by rw [← hR2, if_neg e, if_pos (by rw [decide_eq_true_iff]; omega)]
            refine wi_a1 hc rfl rfl ?_
            refine wi_gr (w := t) hc rfl rfl (by decide) (Nat.le_of_ble_eq_true rfl) rfl ?_
            refine wi_si hc rfl rfl ?_
            obtain ⟨s5_, hE5_, hM5_, hF5_⟩ := ad_83 (d := 0) (L := L) (l := l) (c := c) hkt hM2 (show 0 ≤ y2.2.2 ∧ y2.2.2 < 300 by omega) (show c ≤ y2.2.2 by omega) (10026)
            refine wp_cv (b := t) (As := [.int (iI 10026)]) (r := []) hc rfl (by rw [cm_83]; rfl) rfl (Nat.le_of_ble_eq_true rfl) (show t < 621 by omega) (by rw [cm_83]; exact congrArg Prod.fst hkt.2.1) (ev_mono hE5_ (by omega)) ?_
            have hF5q : CFR t c s s5_ := hF2.tr hF5_ (Int.le_refl c)
            show mm_wp _ _ (85, [some (.ref 580), some (.int (iI i)), some (.int (iI j))], [], MX L t s5_ l) _
            refine wi_a1 hc rfl rfl ?_
            have hk6_ : mm_Ev mm_ct mm_CM (0 + 1) 53 [.ref 580] (MX L t s5_ l) (some (.int (iI (k y2.1))), MX L t s5_ l) := by rw [hk]; exact sp_53 (d := 0) (CSt.rR hM5_) (by have q := CSt.ra hM5_; exact q : s5_ 580 4 = y2.1) ⟨by omega, by omega⟩
            have hkr6_ := hkr y2.1
            refine wp_cv (b := 580) (As := []) (r := []) hc rfl (by rw [cm_53]; rfl) rfl (Nat.le_of_ble_eq_true rfl) (show 580 < 621 by decide) (by rw [cm_53]; rfl) (ev_mono hk6_ (by omega)) ?_
            show mm_wp _ _ (89, [some (.ref 580), some (.int (iI i)), some (.int (iI j))], [.int (iI (k y2.1))], MX L t s5_ l) _
            refine wi_bi hc rfl rfl ?_
            refine wi_ceq hc rfl ⟨by omega, by omega⟩ ⟨by decide, by decide⟩ (fun h7_ => ?_) (fun h7_ => ?_)
            · have hnx9 : y2.1 + 1 < tn := by
                rcases (by omega : y2.1 + 1 < tn ∨ tn - 1 ≤ y2.1) with g | g
                · exact g
                · exfalso; have := hk43 _ g; omega
              refine wi_a1 hc rfl rfl ?_
              refine wi_dupr hc rfl ?_
              refine wi_gfv (kz := 4) rfl hc rfl rfl (by decide) (Nat.le_of_ble_eq_true rfl) rfl (v := y2.1) ((by have q := CSt.ra hM5_; exact q : s5_ 580 4 = y2.1)) ?_
              refine wi_ic hc rfl ?_
              refine wi_add hc rfl ?_
              refine wi_pf (kz := 4) rfl hc rfl rfl (by decide) (Nat.le_of_ble_eq_true rfl) rfl (Nat.le_of_ble_eq_true rfl) ⟨rfl, rfl⟩ rfl ?_
              obtain ⟨s7_, es7_⟩ : ∃ q, q = up s5_ 580 4 (y2.1 + 1) := ⟨_, rfl⟩
              rw [← es7_]
              have hMs7_ : CSt kd pl nm tn t W s7_ (rpNx (rpPut (10026) y2)) 0 := by rw [es7_]; exact CSt.nx0 hkt hM5_ rfl
              have hFs7_ : CFR t c s s7_ := hF5q.tr (by rw [es7_]; exact CFR.u hkt (by decide)) (Int.le_refl c)
              refine wi_inc (L' := [some (.ref 580), some (.int (iI (i + 1))), some (.int (iI j))]) hc rfl rfl rfl ?_
              refine wi_go hc rfl ?_
              exact ih (302 - (y2.1 + 1)).toNat (by omega) (rpNx (rpPut (10026) y2)) s7_ (i + 1) n2 (some (.int (iI j))) (Nat.le_refl _) hMs7_ hFs7_ (by omega) (by omega) (by show 602 ≤ y2.1 + 1 + 2 * (n2 : Int); omega) (by show 0 ≤ y2.1 + 1; omega) (by show y2.1 + 1 + 1 ≤ tn; omega) (by show c ≤ y2.2.2 + 1; omega) (by show 0 ≤ y2.2.2 + 1; omega) (by show y2.2.2 + 1 ≤ y2.1 + 1; omega) (fun _ => by show y2.2.2 + 1 + 1 ≤ y2.1 + 1; omega) (by rw [show decide (0 < i + 1) = true from decide_eq_true (by omega)]; exact hR4 (by omega))
            · refine wi_ic hc rfl ?_
              refine wi_r1 hc rfl (by rw [cm_61]; rfl) ?_
              have hr9 : r = (0, (rpPut (10026) y2)) := by
                exact hR5 (by omega)
              subst hr9
              exact ⟨s5_, by rw [bI_t (p := ((0, (rpPut (10026) y2)) : rpR).1 = 0) rfl], CRs.ok hM5_ hF5q⟩
        · have hnx9 : y2.1 + 1 < tn := by
            rcases (by omega : y2.1 + 1 < tn ∨ tn - 1 ≤ y2.1) with g | g
            · exact g
            · exfalso; have := hk43 _ g; omega
          obtain ⟨n3, rfl⟩ : ∃ q, n2 = q + 1 := ⟨n2 - 1, by omega⟩
          rw [rpEf, if_pos (by omega)] at hR2
          refine wi_a1 hc rfl rfl ?_
          refine wi_dupr hc rfl ?_
          refine wi_gfv (kz := 4) rfl hc rfl rfl (by decide) (Nat.le_of_ble_eq_true rfl) rfl (v := y2.1) ((by have q := CSt.ra hM2; exact q : s2 580 4 = y2.1)) ?_
          refine wi_ic hc rfl ?_
          refine wi_add hc rfl ?_
          refine wi_pf (kz := 4) rfl hc rfl rfl (by decide) (Nat.le_of_ble_eq_true rfl) rfl (Nat.le_of_ble_eq_true rfl) ⟨rfl, rfl⟩ rfl ?_
          obtain ⟨s8_, es8_⟩ : ∃ q, q = up s2 580 4 (y2.1 + 1) := ⟨_, rfl⟩
          rw [← es8_]
          have hMs8_ : CSt kd pl nm tn t W s8_ (rpNx y2) 0 := by rw [es8_]; exact CSt.nx0 hkt hM2 rfl
          have hFs8_ : CFR t c s s8_ := hF2.tr (by rw [es8_]; exact CFR.u hkt (by decide)) (Int.le_refl c)
          refine wi_a1 hc rfl rfl ?_
          obtain ⟨f9_, y9_, hy9_⟩ : ∃ f y, rpAsk k nm W 8 (rpNx y2) = (f, y) := ⟨_, _, rfl⟩
          obtain ⟨s9_, hE9_, hC9_⟩ := ihA s8_ l (rpNx y2) hMs8_ _ hy9_ (show rpG tn (rpNx y2) from ⟨by show 0 ≤ y2.1 + 1; omega, by show y2.1 + 1 + 1 ≤ tn; omega, by show 0 ≤ y2.2.2; omega, by show y2.2.2 ≤ y2.1 + 1; omega⟩) c (by show c ≤ y2.2.2; omega)
          refine wp_cv (b := 580) (As := []) (r := []) hc rfl (by rw [cm_62]; rfl) rfl (Nat.le_of_ble_eq_true rfl) (show 580 < 621 by decide) (by rw [cm_62]; rfl) (ev_mono hE9_ (by omega)) ?_
          have hF9q : CFR t c s s9_ := hFs8_.tr hC9_.2.2 (Int.le_refl c)
          show mm_wp _ _ (50, [some (.ref 580), some (.int (iI i)), some (.int (iI j))], [.int (iI (bI (f9_ = 0)))], MX L t s9_ l) _
          refine wi_bne hc rfl (fun h8_ => ?_) (fun h8_ => ?_)
          · subst h8_
            have hM9_ := hC9_.1 rfl
            have hK9_ := rpAsk_K hk43 8 _ _ hy9_
            obtain ⟨hk1_9, hk2_9, hk3_9, hk4_9, hk5_9⟩ := hK9_
            have hk1_9 : y2.1 + 1 + 1 ≤ y9_.1 := hk1_9
            have hk2_9 : y2.2.2 + 1 ≤ y9_.2.2 := hk2_9
            have hk3_9 : y9_.2.2 - y2.2.2 ≤ y9_.1 - (y2.1 + 1) := hk3_9
            refine wi_a1 hc rfl rfl ?_
            refine wi_gr (w := t) hc rfl rfl (by decide) (Nat.le_of_ble_eq_true rfl) rfl ?_
            refine wi_si hc rfl rfl ?_
            obtain ⟨s10_, hE10_, hM10_, hF10_⟩ := ad_83 (d := 0) (L := L) (l := l) (c := c) hkt hM9_ (show 0 ≤ y9_.2.2 ∧ y9_.2.2 < 300 by omega) (show c ≤ y9_.2.2 by omega) (10027)
            refine wp_cv (b := t) (As := [.int (iI 10027)]) (r := []) hc rfl (by rw [cm_83]; rfl) rfl (Nat.le_of_ble_eq_true rfl) (show t < 621 by omega) (by rw [cm_83]; exact congrArg Prod.fst hkt.2.1) (ev_mono hE10_ (by omega)) ?_
            have hF10q : CFR t c s s10_ := hF9q.tr hF10_ (Int.le_refl c)
            show mm_wp _ _ (65, [some (.ref 580), some (.int (iI i)), some (.int (iI j))], [], MX L t s10_ l) _
            refine wi_inc (L' := [some (.ref 580), some (.int (iI i)), some (.int (iI (j + 1)))]) hc rfl rfl rfl ?_
            refine wi_go hc rfl ?_
            exact ih2 (302 - y9_.1).toNat (by omega) (rpPut (10027) y9_) s10_ (j + 1) n3 (Nat.le_refl _) hM10_ hF10q (by omega) (by omega) (by omega) (by show 601 ≤ y9_.1 + 2 * (n3 : Int); omega) (by show y1.1 + 1 ≤ y9_.1; omega) (by show y9_.1 + 1 ≤ tn; omega) (by show c ≤ y9_.2.2 + 1; omega) (by show 0 ≤ y9_.2.2 + 1; omega) (by show y9_.2.2 + 1 - y1.2.2 ≤ y9_.1 - y1.1; omega) (by rw [← hR2, rpEi_s, hy9_]; rfl)
          · skip
            refine wi_ic hc rfl ?_
            refine wi_r0 hc rfl (by rw [cm_61]; rfl) ?_
            have hr9 : r = (f9_, y9_) := by
              rw [← hR2, rpEi_s, hy9_, rpB_n (r := (f9_, y9_)) h8_]
            subst hr9
            exact ⟨s9_, by rw [bI_f (p := ((f9_, y9_) : rpR).1 = 0) h8_], CRs.no h8_ (hC9_.2.1 h8_).1 (hC9_.2.1 h8_).2 hF9q⟩
      exact loop20_ (302 - y1_.1).toNat y1_ s1_ 0 n5 (Nat.le_refl _) hM1_ hF1q (by omega) (by omega) (by omega) (by omega) (by omega) (by omega) (by omega) (by omega) (by omega) (by rw [← hR1, hy1_]; rfl)
    · skip
      refine wi_ic hc rfl ?_
      refine wi_r0 hc rfl (by rw [cm_61]; rfl) ?_
      have hr9 : r = (f1_, y1_) := by
        rw [← hR1, hy1_, rpB_n (r := (f1_, y1_)) h2_]
      subst hr9
      exact ⟨s1_, by rw [bI_f (p := ((f1_, y1_) : rpR).1 = 0) h2_], CRs.no h2_ (hC1_.2.1 h2_).1 (hC1_.2.1 h2_).2 hF1q⟩
  exact loop2_ (302 - z.1).toNat z s 0 301 none (Nat.le_refl _) h CFR.rf (by omega) (by omega) (by omega) (by omega) (by omega) hcc (by omega) (by omega) (by omega) (by rw [← hr]; rfl)
