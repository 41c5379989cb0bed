/-! The class's numbers. -/
theorem rpB_z {y : rpS} {g : rpS → rpR} : rpB (0, y) g = g y := rfl
def rcF (k nm G : Int → Int) (W lo hi : Int) (z : rpS) : rpR := if W = 15 then rpB (rcFig k nm lo hi z) (fun y => if 0 ≤ rcHas G 0 (nm z.1) then (4, z) else (0, y)) else rcFig k nm lo hi z
theorem rcF_n {k nm G : Int → Int} {W lo hi : Int} {z : rpS} (h : W ≠ 15) : rcF k nm G W lo hi z = rcFig k nm lo hi z := if_neg h
theorem rcF_1 {k nm G : Int → Int} {W lo hi : Int} {z : rpS} (h : k z.1 ≠ 42) : rcF k nm G W lo hi z = (1, z) := by
  unfold rcF rcFig
  rw [if_neg h]
  split <;> rfl
theorem rcF_2 {k nm G : Int → Int} {W lo hi : Int} {z : rpS} (h : k z.1 = 42) (h2 : ¬ (lo ≤ nm z.1 ∧ nm z.1 ≤ hi)) : rcF k nm G W lo hi z = (2, z) := by
  unfold rcF rcFig
  rw [if_pos h, if_neg h2]
  split <;> rfl
theorem rcF_4 {k nm G : Int → Int} {W lo hi : Int} {z : rpS} (h : k z.1 = 42) (h2 : lo ≤ nm z.1 ∧ nm z.1 ≤ hi) (h3 : W = 15) (h4 : 0 ≤ rcHas G 0 (nm z.1)) : rcF k nm G W lo hi z = (4, z) := by
  unfold rcF rcFig
  rw [if_pos h3, if_pos h, if_pos h2]
  exact if_pos h4
theorem rcF_0 {k nm G : Int → Int} {W lo hi : Int} {z : rpS} (h : k z.1 = 42) (h2 : lo ≤ nm z.1 ∧ nm z.1 ≤ hi) (h4 : W = 15 → ¬ 0 ≤ rcHas G 0 (nm z.1)) : rcF k nm G W lo hi z = (0, rpNx z) := by
  unfold rcF rcFig
  rw [if_pos h, if_pos h2]
  by_cases h3 : W = 15
  · rw [if_pos h3]; exact if_neg (h4 h3)
  · rw [if_neg h3]
theorem rcF_K {k nm G : Int → Int} {W lo hi tn : Int} (hk : ∀ a, tn ≤ a → k a = 43) {z y : rpS} (h : rcF k nm G W lo hi z = (0, y)) : z.1 + 1 ≤ tn ∧ y = rpNx z := by
  unfold rcF at h
  split at h
  · obtain ⟨u, h1, h2⟩ := rpB_0 h
    obtain ⟨⟨-, -, -, g1, -⟩, g2, -⟩ := rcFig_K hk h1
    split at h2
    · cases h2
    · cases h2; rw [g2] at g1; exact ⟨g1, g2⟩
  · obtain ⟨⟨-, -, -, g1, -⟩, g2, -⟩ := rcFig_K hk h
    rw [g2] at g1; exact ⟨g1, g2⟩
def CH (t : Nat) (s : Nat → Int → Int) (G : Int → Int) : Prop := ∀ v, 0 ≤ v → v < 6 → rI (s (t + 4) v) ∧ rI (s (t + 5) v) ∧ (s (t + 4) v < s (t + 5) v ↔ 0 ≤ rcHas G 0 v)
def CNf (t : Nat) (lo : Int) (s s1 : Nat → Int → Int) : Prop := (∀ q, q ≠ 580 → q ≠ t → q ≠ t + 2 → s1 q = s q) ∧ (∀ j, j ≠ 4 → ¬ (8 ≤ j ∧ j ≤ 9) → s1 580 j = s 580 j) ∧ (∀ j, j ≠ 7 → s1 t j = s t j) ∧ ∀ j, j < lo → s1 (t + 2) j = s (t + 2) j
def CNr (kd pl nm : Int → Int) (tn : Int) (t : Nat) (W : Int) (s s1 : Nat → Int → Int) (r : rpR) (op lo : Int) : Prop := (r.1 = 0 → CSt kd pl nm tn t W s1 r.2 op) ∧ (r.1 ≠ 0 → s1 580 8 = r.1 ∧ s1 580 9 = plA pl tn r.2.1) ∧ CNf t lo s s1
section CNP
variable {kd pl nm : Int → Int} {tn : Int} {L t : Nat} {W : Int} {s s1 s2 : Nat → Int → Int} {z z' : rpS} {op v lo lo' : Int}
theorem kt_l2 (hkt : KT L t t) : t + 2 ≠ 580 ∧ ¬ (581 ≤ t + 2 ∧ t + 2 ≤ 583) := by
  obtain ⟨-, -, -, h2, -⟩ := hkt
  have key : ∀ q, (q = 580 ∨ q = 581 ∨ q = 582 ∨ q = 583) → mm_SH L t q ≠ (100, 72, []) := by
    intro q hq
    rcases hq with e | e | e | e <;> subst e
    · exact fun e => absurd (congrArg Prod.fst e) (by show (4 : Nat) ≠ 100; decide)
    · exact fun e => absurd (congrArg (fun q => q.2.1) e) (by show (301 : Nat) ≠ 72; decide)
    · exact fun e => absurd (congrArg (fun q => q.2.1) e) (by show (301 : Nat) ≠ 72; decide)
    · exact fun e => absurd (congrArg (fun q => q.2.1) e) (by show (301 : Nat) ≠ 72; decide)
  exact ⟨fun e => key (t + 2) (Or.inl e) h2, fun e => key (t + 2) (by omega) h2⟩
theorem CNf.rf : CNf t lo s s := ⟨fun _ _ _ _ => rfl, fun _ _ _ => rfl, fun _ _ => rfl, fun _ _ => rfl⟩
theorem CNf.tr (h : CNf t lo s s1) (g : CNf t lo' s1 s2) (hc : lo ≤ lo') : CNf t lo s s2 := ⟨fun q a1 a2 a3 => (g.1 q a1 a2 a3).trans (h.1 q a1 a2 a3), fun j a1 a2 => (g.2.1 j a1 a2).trans (h.2.1 j a1 a2), fun j a => (g.2.2.1 j a).trans (h.2.2.1 j a), fun j a => (g.2.2.2 j (by omega)).trans (h.2.2.2 j a)⟩
theorem CSt.cn (hkt : KT L t t) (h : CSt kd pl nm tn t W s z op) (g : CNf t lo s s1) (h4 : s1 580 4 = z'.1) (hz : z'.2 = z.2) : CSt kd pl nm tn t W s1 z' op := by
  have hl := kt_lo hkt
  have h2 := kt_l2 hkt
  obtain ⟨a1, a2, a3, a4, a5, a6⟩ := h
  refine ⟨a1.of (g.2.1 3 (by decide) (by decide)) (g.1 581 (by decide) (by omega) (by omega)) (g.1 582 (by decide) (by omega) (by omega)) (g.1 583 (by decide) (by omega) (by omega)), h4, (g.2.1 7 (by decide) (by decide)).trans a3, (g.2.1 6 (by decide) (by decide)).trans a4, ?_, fun j j0 j1 => ?_⟩
  · rw [g.2.2.1 6 (by decide), hz]; exact a5
  · rw [hz] at j1 ⊢; rw [g.1 (t + 3) hl.2.1 (by omega) (by omega)]; exact a6 j j0 j1
theorem CNr.nu {ix : Int} (hkt : KT L t t) (h : CSt kd pl nm tn t W s z op) (e1 : s1 = up s (t + 2) ix v) (e2 : s2 = up s1 580 4 (z.1 + 1)) : CNr kd pl nm tn t W s s2 (0, rpNx z) op ix ∧ s2 (t + 2) ix = v := by
  have hl := kt_lo hkt
  have h2 := kt_l2 hkt
  have g : CNf t ix s s2 := ⟨fun q a1 a2 a3 => by rw [e2, up_cc a1, e1, up_cc a3], fun j a1 a2 => by rw [e2, up_k (by omega), e1, up_c (fun e => h2.1 e.symm)], fun j a => by rw [e2, up_cc hl.1, e1, up_cc (by omega)], fun j a => by rw [e2, up_cc h2.1, e1, up_k (by omega)]⟩
  exact ⟨⟨fun _ => h.cn hkt g (by rw [e2, up_at]; rfl) rfl, fun e => absurd rfl e, g⟩, by rw [e2, up_cc h2.1, e1, up_at]⟩
theorem CNr.fl {f : Int} (hkt : KT L t t) (hf : f ≠ 0) (f1 : ∀ q, q ≠ 580 → s1 q = s q) (f2 : ∀ j, s1 580 j = if j = 9 then plA pl tn z.1 else if j = 8 then f else s 580 j) : CNr kd pl nm tn t W s s1 (f, z) op lo := by
  have hl := kt_lo hkt
  have h2 := kt_l2 hkt
  refine ⟨fun e => absurd e hf, fun _ => ⟨by rw [f2, if_neg (by decide), if_pos rfl], by rw [f2, if_pos rfl]⟩, fun q a1 a2 a3 => f1 q a1, fun j a1 a2 => by rw [f2, if_neg (by omega), if_neg (by omega)], fun j a => by rw [f1 t hl.1], fun j a => by rw [f1 (t + 2) h2.1]⟩
theorem CNr.nx (hkt : KT L t t) (h : CSt kd pl nm tn t W s z op) (f1 : ∀ q, q ≠ 580 → s1 q = s q) (f2 : ∀ j, s1 580 j = if j = 4 then z.1 + 1 else s 580 j) : CNr kd pl nm tn t W s s1 (0, rpNx z) op lo := by
  have hl := kt_lo hkt
  have h2 := kt_l2 hkt
  have g : CNf t lo s s1 := ⟨fun q a1 a2 a3 => f1 q a1, fun j a1 a2 => by rw [f2, if_neg a1], fun j a => by rw [f1 t hl.1], fun j a => by rw [f1 (t + 2) h2.1]⟩
  exact ⟨fun _ => h.cn hkt g (by rw [f2, if_pos rfl]; rfl) rfl, fun e => absurd rfl e, g⟩
end CNP
theorem sk_55 {d L t : Nat} {s l : Nat → Int → Int} (hkt : KT L t t) {kd k pl nm : Int → Int} {tn W : Int} (hGC : GTC kd k pl nm tn) {z : rpS} {op : Int} (h : CSt kd pl nm tn t W s z op) (hg : 0 ≤ z.1 ∧ z.1 + 1 ≤ tn) {q : Int} (hq : 0 ≤ q ∧ q ≤ 44) (lo : Int) {r : rpR} (hr : rcWd k q z = r) : ∃ s1, mm_Ev mm_ct mm_CM (d + 2) 55 [.ref 580, .int (iI q)] (MX L t s l) (some (.int (iI (bI (r.1 = 0)))), MX L t s1 l) ∧ CNr kd pl nm tn t W s s1 r op lo := by
  obtain ⟨hk, hk43, hkr, htn⟩ := id hGC
  have hkz := hkr z.1
  rw [hk] at hkz
  subst hr
  unfold rcWd
  by_cases e : k z.1 = q
  · rw [if_pos e]
    obtain ⟨s1, e1, f1, f2⟩ := sp_55y (d := d) (L := L) (t := t) (l := l) (CSt.rR h) (CSt.ra h) ⟨hg.1, by omega⟩ (q := q) ⟨by omega, by omega⟩ (by rw [← hk]; exact e) ⟨by omega, by omega⟩
    exact ⟨s1, by rw [bI_t (p := ((0, rpNx z) : rpR).1 = 0) rfl]; exact e1, CNr.nx hkt h f1 f2⟩
  · rw [if_neg e]
    obtain ⟨s1, e1, f1, f2⟩ := sp_55n (d := d) (L := L) (t := t) (l := l) (CSt.rR h) (CSt.ra h) ⟨hg.1, by omega⟩ (q := q) ⟨by omega, by omega⟩ (by rw [← hk]; exact e) ⟨by omega, by omega⟩
    exact ⟨s1, by rw [bI_f (p := ((1, z) : rpR).1 = 0) (by show ¬ (1 : Int) = 0; decide)]; exact e1, CNr.fl hkt (by decide) f1 f2⟩
theorem nu_60 {d L t : Nat} {s l : Nat → Int → Int} (hkt : KT L t t) {kd k pl nm : Int → Int} {tn W : Int} (hGC : GTC kd k pl nm tn) (hW0 : 0 ≤ W ∧ W ≤ 44) {z : rpS} {op : Int} (h : CSt kd pl nm tn t W s z op) (hg : 0 ≤ z.1 ∧ z.1 + 1 ≤ tn) {G : Int → Int} (hH : W = 15 → CH t s G) {ix lo hi : Int} (hix : 0 ≤ ix ∧ ix < 72) (hlo : 0 ≤ lo ∧ lo ≤ 99) (hhi : 0 ≤ hi ∧ hi ≤ 99) (hhi5 : W = 15 → hi ≤ 5) {r : rpR} (hr : rcF k nm G W lo hi z = r) : ∃ s1, mm_Ev mm_ct mm_CM (d + 2) 60 [.ref 580, .int (iI ix), .int (iI lo), .int (iI hi)] (MX L t s l) (some (.int (iI (bI (r.1 = 0)))), MX L t s1 l) ∧ CNr kd pl nm tn t W s s1 r op ix ∧ (r.1 = 0 → s1 (t + 2) ix = nm z.1) := by
  have hc : (mm_CM 60).2.2.2.2.2.2.2 = mm_cf cd_60 := by rw [cm_60]; rfl
  refine ev_xs ?_
  refine ev_to (mx := 5) (by rw [cm_60]; decide) (by rw [cm_60]; rfl) (by show 4 ≤ _; decide) ?_
  show mm_wp _ _ (0, [some (.ref 580), some (.int (iI ix)), some (.int (iI lo)), some (.int (iI hi)), none], [], MX L t s l) (fun res => ∃ s1, res = (some (.int (iI (bI (r.1 = 0)))), MX L t s1 l) ∧ CNr kd pl nm tn t W s s1 r op ix ∧ (r.1 = 0 → s1 (t + 2) ix = nm z.1))
  obtain ⟨hk, hk43, hkr, htn⟩ := id hGC
  have ht6 := hkt.1
  have h582 := (kt_l2 hkt).1
  have hnm9 := ((CSt.rR h).2.2 z.1 hg.1 (by omega)).2.2.2.2.2
  have hkz := hkr z.1
  refine wi_a1 hc rfl rfl ?_
  have hk1_ : mm_Ev mm_ct mm_CM (0 + 1) 53 [.ref 580] (MX L t s l) (some (.int (iI (k z.1))), MX L t s l) := by rw [hk]; exact sp_53 (d := 0) (CSt.rR h) (by have q := CSt.ra h; exact q : s 580 4 = z.1) ⟨by omega, by omega⟩
  have hkr1_ := hkr z.1
  refine wp_cv (b := 580) (As := []) (r := []) hc rfl (by rw [cm_53]; rfl) rfl (Nat.le_of_ble_eq_true rfl) (show 580 < 621 by decide) (by rw [cm_53]; rfl) (ev_mono hk1_ (by omega)) ?_
  show mm_wp _ _ (4, [some (.ref 580), some (.int (iI ix)), some (.int (iI lo)), some (.int (iI hi)), none], [.int (iI (k z.1))], MX L t s l) _
  refine wi_bi hc rfl rfl ?_
  refine wi_ceq hc rfl ⟨by omega, by omega⟩ ⟨by decide, by decide⟩ (fun h1_ => ?_) (fun h1_ => ?_)
  · have hnx9 : z.1 + 1 < tn := by
      rcases (by omega : z.1 + 1 < tn ∨ tn - 1 ≤ z.1) with g | g
      · exact g
      · exfalso; have := hk43 z.1 g; omega
    refine wi_a1 hc rfl rfl ?_
    refine wi_gr (w := 583) hc rfl rfl (by decide) (Nat.le_of_ble_eq_true rfl) rfl ?_
    refine wi_a1 hc rfl rfl ?_
    refine wi_gfv (kz := 4) rfl hc rfl rfl (by decide) (Nat.le_of_ble_eq_true rfl) rfl (v := z.1) ((by have q := CSt.ra h; exact q : s 580 4 = z.1)) ?_
    refine wi_ildv (N := 301) hc rfl rfl (by decide) (by decide) (by omega) (by omega) (v := nm z.1) (((CSt.rR h).2.2 _ (by omega) (by omega)).2.2.1) ?_
    refine wi_is2 (L' := [some (.ref 580), some (.int (iI ix)), some (.int (iI lo)), some (.int (iI hi)), some (.int (iI (nm z.1)))]) hc rfl (Nat.le_of_ble_eq_true rfl) rfl ?_
    refine wi_i2 hc rfl rfl ?_
    refine wi_i1 hc rfl rfl ?_
    refine wi_clt hc rfl ⟨by omega, by omega⟩ ⟨by omega, by omega⟩ (fun h2_ => ?_) (fun h2_ => ?_)
    · refine wi_a1 hc rfl rfl ?_
      refine wi_ic hc rfl ?_
      obtain ⟨s2_, hE2_, hX2_, hY2_⟩ := sp_54 (d := 0) (L := L) (t := t) (l := l) (CSt.rR h) (by have q := CSt.ra h; exact q : s 580 4 = z.1) ⟨by omega, by omega⟩ (n := 2) ⟨by decide, by decide⟩
      refine wp_cv (b := 580) (As := [.int (iI 2)]) (r := []) hc rfl (by rw [cm_54]; rfl) rfl (Nat.le_of_ble_eq_true rfl) (show 580 < 621 by decide) (by rw [cm_54]; rfl) (ev_mono hE2_ (by omega)) ?_
      show mm_wp _ _ (43, [some (.ref 580), some (.int (iI ix)), some (.int (iI lo)), some (.int (iI hi)), some (.int (iI (nm z.1)))], [.int (iI 0)], MX L t s2_ l) _
      refine wi_r0 hc rfl (by rw [cm_60]; rfl) ?_
      have hr9 : r = (2, z) := by rw [← hr, rcF_2 (by omega) (by omega)]
      subst hr9
      exact ⟨s2_, by rw [bI_f (p := ((2, z) : rpR).1 = 0) (by show ¬ (2 : Int) = 0; decide)], CNr.fl hkt (by decide) hX2_ hY2_, fun e => absurd (show (2 : Int) = 0 from e) (by decide)⟩
    · refine wi_i2 hc rfl rfl ?_
      refine wi_i1 hc rfl rfl ?_
      refine wi_cle hc rfl ⟨by omega, by omega⟩ ⟨by omega, by omega⟩ (fun h3_ => ?_) (fun h3_ => ?_)
      · refine wi_a1 hc rfl rfl ?_
        refine wi_gfv (kz := 6) rfl hc rfl rfl (by decide) (Nat.le_of_ble_eq_true rfl) rfl (v := W) (CSt.rw9 h) ?_
        refine wi_bi hc rfl rfl ?_
        refine wi_cne hc rfl ⟨by omega, by omega⟩ ⟨by decide, by decide⟩ (fun h4_ => ?_) (fun h4_ => ?_)
        · skip
          refine wi_a1 hc rfl rfl ?_
          refine wi_gr (w := t) hc rfl rfl (by decide) (Nat.le_of_ble_eq_true rfl) rfl ?_
          refine wi_grs (w := t + 2) hkt.2.1 hc rfl (by have := hkt.1; omega) (by decide) rfl ?_
          refine wi_i1 hc rfl rfl ?_
          refine wi_i2 hc rfl rfl ?_
          refine wi_ist (N := 72) hc rfl hkt.2.2.2.1 (by have := hkt.1; omega) (by decide) (by omega) (by omega) ?_
          obtain ⟨s3_, es3_⟩ : ∃ q, q = up s (t + 2) ix (nm z.1) := ⟨_, rfl⟩
          rw [← es3_]
          refine wi_a1 hc rfl rfl ?_
          refine wi_dupr hc rfl ?_
          refine wi_gfv (kz := 4) rfl hc rfl rfl (by decide) (Nat.le_of_ble_eq_true rfl) rfl (v := z.1) (((congrFun (congrFun es3_ _) _).trans (up_c (by omega))).trans ((by have q := CSt.ra h; exact q : s 580 4 = z.1))) ?_
          refine wi_ic hc rfl ?_
          refine wi_add hc rfl ?_
          refine wi_pf (kz := 4) rfl hc rfl rfl (by decide) (Nat.le_of_ble_eq_true rfl) rfl (Nat.le_of_ble_eq_true rfl) ⟨rfl, rfl⟩ rfl ?_
          obtain ⟨s4_, es4_⟩ : ∃ q, q = up s3_ 580 4 (z.1 + 1) := ⟨_, rfl⟩
          rw [← es4_]
          refine wi_ic hc rfl ?_
          refine wi_r1 hc rfl (by rw [cm_60]; rfl) ?_
          have hr9 : r = (0, rpNx z) := by rw [← hr, rcF_0 (by omega) (by omega) (fun e => by exfalso; omega)]
          subst hr9
          refine ⟨s4_, by rw [bI_t (p := ((0, rpNx z) : rpR).1 = 0) rfl], ?_⟩
          have hN := CNr.nu (op := op) hkt h es3_ es4_
          exact ⟨hN.1, fun _ => hN.2⟩
        · skip
          refine wi_a1 hc rfl rfl ?_
          refine wi_gr (w := t) hc rfl rfl (by decide) (Nat.le_of_ble_eq_true rfl) rfl ?_
          refine wi_i2 hc rfl rfl ?_
          have hT := hH (by omega) (nm z.1) (by omega) (by omega)
          refine wp_cv (b := t) (As := [.int (iI (nm z.1))]) (r := []) hc rfl (by rw [cm_80]; rfl) rfl (Nat.le_of_ble_eq_true rfl) (show t < 621 by omega) (by rw [cm_80]; exact congrArg Prod.fst hkt.2.1) (ev_mono (sp_80 (d := 0) hkt (x := nm z.1) (by omega) (by omega) hT.1 hT.2.1) (by omega)) ?_
          show mm_wp _ _ (62, [some (.ref 580), some (.int (iI ix)), some (.int (iI lo)), some (.int (iI hi)), some (.int (iI (nm z.1)))], [.int (iI (bI (s (t + 4) (nm z.1) < s (t + 5) (nm z.1))))], MX L t s l) _
          refine wi_beq hc rfl (fun h5_ => ?_) (fun h5_ => ?_)
          · skip
            refine wi_a1 hc rfl rfl ?_
            refine wi_gr (w := t) hc rfl rfl (by decide) (Nat.le_of_ble_eq_true rfl) rfl ?_
            refine wi_grs (w := t + 2) hkt.2.1 hc rfl (by have := hkt.1; omega) (by decide) rfl ?_
            refine wi_i1 hc rfl rfl ?_
            refine wi_i2 hc rfl rfl ?_
            refine wi_ist (N := 72) hc rfl hkt.2.2.2.1 (by have := hkt.1; omega) (by decide) (by omega) (by omega) ?_
            obtain ⟨s5_, es5_⟩ : ∃ q, q = up s (t + 2) ix (nm z.1) := ⟨_, rfl⟩
            rw [← es5_]
            refine wi_a1 hc rfl rfl ?_
            refine wi_dupr hc rfl ?_
            refine wi_gfv (kz := 4) rfl hc rfl rfl (by decide) (Nat.le_of_ble_eq_true rfl) rfl (v := z.1) (((congrFun (congrFun es5_ _) _).trans (up_c (by omega))).trans ((by have q := CSt.ra h; exact q : s 580 4 = z.1))) ?_
            refine wi_ic hc rfl ?_
            refine wi_add hc rfl ?_
            refine wi_pf (kz := 4) rfl hc rfl rfl (by decide) (Nat.le_of_ble_eq_true rfl) rfl (Nat.le_of_ble_eq_true rfl) ⟨rfl, rfl⟩ rfl ?_
            obtain ⟨s6_, es6_⟩ : ∃ q, q = up s5_ 580 4 (z.1 + 1) := ⟨_, rfl⟩
            rw [← es6_]
            refine wi_ic hc rfl ?_
            refine wi_r1 hc rfl (by rw [cm_60]; rfl) ?_
            have hr9 : r = (0, rpNx z) := by rw [← hr, rcF_0 (by omega) (by omega) (fun e => fun q => h5_ (hT.2.2.mpr q))]
            subst hr9
            refine ⟨s6_, by rw [bI_t (p := ((0, rpNx z) : rpR).1 = 0) rfl], ?_⟩
            have hN := CNr.nu (op := op) hkt h es5_ es6_
            exact ⟨hN.1, fun _ => hN.2⟩
          · skip
            refine wi_a1 hc rfl rfl ?_
            refine wi_ic hc rfl ?_
            obtain ⟨s7_, hE7_, hX7_, hY7_⟩ := sp_54 (d := 0) (L := L) (t := t) (l := l) (CSt.rR h) (by have q := CSt.ra h; exact q : s 580 4 = z.1) ⟨by omega, by omega⟩ (n := 4) ⟨by decide, by decide⟩
            refine wp_cv (b := 580) (As := [.int (iI 4)]) (r := []) hc rfl (by rw [cm_54]; rfl) rfl (Nat.le_of_ble_eq_true rfl) (show 580 < 621 by decide) (by rw [cm_54]; rfl) (ev_mono hE7_ (by omega)) ?_
            show mm_wp _ _ (70, [some (.ref 580), some (.int (iI ix)), some (.int (iI lo)), some (.int (iI hi)), some (.int (iI (nm z.1)))], [.int (iI 0)], MX L t s7_ l) _
            refine wi_r0 hc rfl (by rw [cm_60]; rfl) ?_
            have hr9 : r = (4, z) := by rw [← hr, rcF_4 (by omega) (by omega) (by omega) (hT.2.2.mp h5_)]
            subst hr9
            exact ⟨s7_, by rw [bI_f (p := ((4, z) : rpR).1 = 0) (by show ¬ (4 : Int) = 0; decide)], CNr.fl hkt (by decide) hX7_ hY7_, fun e => absurd (show (4 : Int) = 0 from e) (by decide)⟩
      · refine wi_a1 hc rfl rfl ?_
        refine wi_ic hc rfl ?_
        obtain ⟨s8_, hE8_, hX8_, hY8_⟩ := sp_54 (d := 0) (L := L) (t := t) (l := l) (CSt.rR h) (by have q := CSt.ra h; exact q : s 580 4 = z.1) ⟨by omega, by omega⟩ (n := 2) ⟨by decide, by decide⟩
        refine wp_cv (b := 580) (As := [.int (iI 2)]) (r := []) hc rfl (by rw [cm_54]; rfl) rfl (Nat.le_of_ble_eq_true rfl) (show 580 < 621 by decide) (by rw [cm_54]; rfl) (ev_mono hE8_ (by omega)) ?_
        show mm_wp _ _ (43, [some (.ref 580), some (.int (iI ix)), some (.int (iI lo)), some (.int (iI hi)), some (.int (iI (nm z.1)))], [.int (iI 0)], MX L t s8_ l) _
        refine wi_r0 hc rfl (by rw [cm_60]; rfl) ?_
        have hr9 : r = (2, z) := by rw [← hr, rcF_2 (by omega) (by omega)]
        subst hr9
        exact ⟨s8_, by rw [bI_f (p := ((2, z) : rpR).1 = 0) (by show ¬ (2 : Int) = 0; decide)], CNr.fl hkt (by decide) hX8_ hY8_, fun e => absurd (show (2 : Int) = 0 from e) (by decide)⟩
  · refine wi_a1 hc rfl rfl ?_
    refine wi_ic hc rfl ?_
    obtain ⟨s9_, hE9_, hX9_, hY9_⟩ := sp_54 (d := 0) (L := L) (t := t) (l := l) (CSt.rR h) (by have q := CSt.ra h; exact q : s 580 4 = z.1) ⟨by omega, by omega⟩ (n := 1) ⟨by decide, by decide⟩
    refine wp_cv (b := 580) (As := [.int (iI 1)]) (r := []) hc rfl (by rw [cm_54]; rfl) rfl (Nat.le_of_ble_eq_true rfl) (show 580 < 621 by decide) (by rw [cm_54]; rfl) (ev_mono hE9_ (by omega)) ?_
    show mm_wp _ _ (14, [some (.ref 580), some (.int (iI ix)), some (.int (iI lo)), some (.int (iI hi)), none], [.int (iI 0)], MX L t s9_ l) _
    refine wi_r0 hc rfl (by rw [cm_60]; rfl) ?_
    have hr9 : r = (1, z) := by rw [← hr, rcF_1 (by omega)]
    subst hr9
    exact ⟨s9_, by rw [bI_f (p := ((1, z) : rpR).1 = 0) (by show ¬ (1 : Int) = 0; decide)], CNr.fl hkt (by decide) hX9_ hY9_, fun e => absurd (show (1 : Int) = 0 from e) (by decide)⟩
