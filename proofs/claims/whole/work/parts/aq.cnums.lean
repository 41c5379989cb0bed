/-! The class's numbers. -/
theorem rpB_z {y : rpS} {g : rpS → rpR} : rpB (0, y) g = g y := rfl
def rcF (k nm G : Int → Int) (W lo hi : Int) (z : rpS) : rpR := if W = 15 then rpB (rcFig k nm lo hi z) (fun y => if 0 ≤ rcHas G 0 (nm z.1) then (4, z) else (0, y)) else rcFig k nm lo hi z
theorem rcF_n {k nm G : Int → Int} {W lo hi : Int} {z : rpS} (h : W ≠ 15) : rcF k nm G W lo hi z = rcFig k nm lo hi z := if_neg h
theorem rcF_1 {k nm G : Int → Int} {W lo hi : Int} {z : rpS} (h : k z.1 ≠ 42) : rcF k nm G W lo hi z = (1, z) := by
  unfold rcF rcFig
  rw [if_neg h]
  split <;> rfl
theorem rcF_2 {k nm G : Int → Int} {W lo hi : Int} {z : rpS} (h : k z.1 = 42) (h2 : ¬ (lo ≤ nm z.1 ∧ nm z.1 ≤ hi)) : rcF k nm G W lo hi z = (2, z) := by
  unfold rcF rcFig
  rw [if_pos h, if_neg h2]
  split <;> rfl
theorem rcF_4 {k nm G : Int → Int} {W lo hi : Int} {z : rpS} (h : k z.1 = 42) (h2 : lo ≤ nm z.1 ∧ nm z.1 ≤ hi) (h3 : W = 15) (h4 : 0 ≤ rcHas G 0 (nm z.1)) : rcF k nm G W lo hi z = (4, z) := by
  unfold rcF rcFig
  rw [if_pos h3, if_pos h, if_pos h2]
  exact if_pos h4
theorem rcF_0 {k nm G : Int → Int} {W lo hi : Int} {z : rpS} (h : k z.1 = 42) (h2 : lo ≤ nm z.1 ∧ nm z.1 ≤ hi) (h4 : W = 15 → ¬ 0 ≤ rcHas G 0 (nm z.1)) : rcF k nm G W lo hi z = (0, rpNx z) := by
  unfold rcF rcFig
  rw [if_pos h, if_pos h2]
  by_cases h3 : W = 15
  · rw [if_pos h3]; exact if_neg (h4 h3)
  · rw [if_neg h3]
theorem rcF_K {k nm G : Int → Int} {W lo hi tn : Int} (hk : ∀ a, tn ≤ a → k a = 43) {z y : rpS} (h : rcF k nm G W lo hi z = (0, y)) : z.1 + 1 ≤ tn ∧ y = rpNx z := by
  unfold rcF at h
  split at h
  · obtain ⟨u, h1, h2⟩ := rpB_0 h
    obtain ⟨⟨-, -, -, g1, -⟩, g2, -⟩ := rcFig_K hk h1
    split at h2
    · cases h2
    · cases h2; rw [g2] at g1; exact ⟨g1, g2⟩
  · obtain ⟨⟨-, -, -, g1, -⟩, g2, -⟩ := rcFig_K hk h
    rw [g2] at g1; exact ⟨g1, g2⟩
def CH (t : Nat) (s : Nat → Int → Int) (G : Int → Int) : Prop := ∀ v, 0 ≤ v → v < 6 → rI (s (t + 4) v) ∧ rI (s (t + 5) v) ∧ (s (t + 4) v < s (t + 5) v ↔ 0 ≤ rcHas G 0 v)
def CNf (t : Nat) (lo : Int) (s s1 : Nat → Int → Int) : Prop := (∀ q, q ≠ 580 → q ≠ t → q ≠ t + 2 → s1 q = s q) ∧ (∀ j, j ≠ 4 → ¬ (8 ≤ j ∧ j ≤ 9) → s1 580 j = s 580 j) ∧ (∀ j, s1 t j = s t j) ∧ ∀ j, j < lo → s1 (t + 2) j = s (t + 2) j
def CNr (kd pl nm : Int → Int) (tn : Int) (t : Nat) (W : Int) (s s1 : Nat → Int → Int) (r : rpR) (op lo : Int) : Prop := (r.1 = 0 → CSt kd pl nm tn t W s1 r.2 op) ∧ (r.1 ≠ 0 → s1 580 8 = r.1 ∧ s1 580 9 = plA pl tn r.2.1) ∧ CNf t lo s s1
section CNP
variable {kd pl nm : Int → Int} {tn : Int} {L t : Nat} {W : Int} {s s1 s2 : Nat → Int → Int} {z z' : rpS} {op v lo lo' : Int}
theorem kt_l2 (hkt : KT L t t) : t + 2 ≠ 580 ∧ ¬ (581 ≤ t + 2 ∧ t + 2 ≤ 583) := by
  obtain ⟨-, -, -, h2, -⟩ := hkt
  have key : ∀ q, (q = 580 ∨ q = 581 ∨ q = 582 ∨ q = 583) → mm_SH L t q ≠ (100, 72, []) := by
    intro q hq
    rcases hq with e | e | e | e <;> subst e
    · exact fun e => absurd (congrArg Prod.fst e) (by show (4 : Nat) ≠ 100; decide)
    · exact fun e => absurd (congrArg (fun q => q.2.1) e) (by show (301 : Nat) ≠ 72; decide)
    · exact fun e => absurd (congrArg (fun q => q.2.1) e) (by show (301 : Nat) ≠ 72; decide)
    · exact fun e => absurd (congrArg (fun q => q.2.1) e) (by show (301 : Nat) ≠ 72; decide)
  exact ⟨fun e => key (t + 2) (Or.inl e) h2, fun e => key (t + 2) (by omega) h2⟩
theorem CNf.rf : CNf t lo s s := ⟨fun _ _ _ _ => rfl, fun _ _ _ => rfl, fun _ => rfl, fun _ _ => rfl⟩
theorem CNf.tr (h : CNf t lo s s1) (g : CNf t lo' s1 s2) (hc : lo ≤ lo') : CNf t lo s s2 := ⟨fun q a1 a2 a3 => (g.1 q a1 a2 a3).trans (h.1 q a1 a2 a3), fun j a1 a2 => (g.2.1 j a1 a2).trans (h.2.1 j a1 a2), fun j => (g.2.2.1 j).trans (h.2.2.1 j), fun j a => (g.2.2.2 j (by omega)).trans (h.2.2.2 j a)⟩
theorem CSt.cn (hkt : KT L t t) (h : CSt kd pl nm tn t W s z op) (g : CNf t lo s s1) (h4 : s1 580 4 = z'.1) (h8 : s1 580 8 = s 580 8) (h9 : s1 580 9 = s 580 9) (hz : z'.2 = z.2) : CSt kd pl nm tn t W s1 z' op := by
  have hl := kt_lo hkt
  have h2 := kt_l2 hkt
  obtain ⟨a1, a2, a3, a4, a5, a6⟩ := h
  refine ⟨a1.of (fun j hj => by rcases hj with e | e | e; (rw [e]; exact g.2.1 3 (by decide) (by decide)); (rw [e]; exact h8); (rw [e]; exact h9)) (g.1 581 (by decide) (by omega) (by omega)) (g.1 582 (by decide) (by omega) (by omega)) (g.1 583 (by decide) (by omega) (by omega)), h4, (g.2.1 7 (by decide) (by decide)).trans a3, (g.2.1 6 (by decide) (by decide)).trans a4, ?_, fun j j0 j1 => ?_⟩
  · rw [g.2.2.1 6, hz]; exact a5
  · rw [hz] at j1 ⊢; rw [g.1 (t + 3) hl.2.1 (by omega) (by omega)]; exact a6 j j0 j1
theorem CNr.nu {ix : Int} (hkt : KT L t t) (h : CSt kd pl nm tn t W s z op) (e1 : s1 = up s (t + 2) ix v) (e2 : s2 = up s1 580 4 (z.1 + 1)) : CNr kd pl nm tn t W s s2 (0, rpNx z) op ix ∧ s2 (t + 2) ix = v := by
  have hl := kt_lo hkt
  have h2 := kt_l2 hkt
  have g : CNf t ix s s2 := ⟨fun q a1 a2 a3 => by rw [e2, up_cc a1, e1, up_cc a3], fun j a1 a2 => by rw [e2, up_k (by omega), e1, up_c (fun e => h2.1 e.symm)], fun j => by rw [e2, up_cc hl.1, e1, up_cc (by omega)], fun j a => by rw [e2, up_cc h2.1, e1, up_k (by omega)]⟩
  exact ⟨⟨fun _ => h.cn hkt g (by rw [e2, up_at]; rfl) (by rw [e2, up_k (by decide), e1, up_c (fun e => h2.1 e.symm)]) (by rw [e2, up_k (by decide), e1, up_c (fun e => h2.1 e.symm)]) rfl, fun e => absurd rfl e, g⟩, by rw [e2, up_cc h2.1, e1, up_at]⟩
theorem CNr.fl {f : Int} (hkt : KT L t t) (hf : f ≠ 0) (f1 : ∀ q, q ≠ 580 → s1 q = s q) (f2 : ∀ j, s1 580 j = if j = 9 then plA pl tn z.1 else if j = 8 then f else s 580 j) : CNr kd pl nm tn t W s s1 (f, z) op lo := by
  have hl := kt_lo hkt
  have h2 := kt_l2 hkt
  refine ⟨fun e => absurd e hf, fun _ => ⟨by rw [f2, if_neg (by decide), if_pos rfl], by rw [f2, if_pos rfl]⟩, fun q a1 a2 a3 => f1 q a1, fun j a1 a2 => by rw [f2, if_neg (by omega), if_neg (by omega)], fun j => by rw [f1 t hl.1], fun j a => by rw [f1 (t + 2) h2.1]⟩
theorem CNr.nx (hkt : KT L t t) (h : CSt kd pl nm tn t W s z op) (f1 : ∀ q, q ≠ 580 → s1 q = s q) (f2 : ∀ j, s1 580 j = if j = 4 then z.1 + 1 else s 580 j) : CNr kd pl nm tn t W s s1 (0, rpNx z) op lo := by
  have hl := kt_lo hkt
  have h2 := kt_l2 hkt
  have g : CNf t lo s s1 := ⟨fun q a1 a2 a3 => f1 q a1, fun j a1 a2 => by rw [f2, if_neg a1], fun j => by rw [f1 t hl.1], fun j a => by rw [f1 (t + 2) h2.1]⟩
  exact ⟨fun _ => h.cn hkt g (by rw [f2, if_pos rfl]; rfl) (by rw [f2, if_neg (by decide)]) (by rw [f2, if_neg (by decide)]) rfl, fun e => absurd rfl e, g⟩
end CNP
theorem CSt.nd {L t : Nat} (hkt : KT L t t) {kd pl nm : Int → Int} {tn W op v : Int} {s s1 : Nat → Int → Int} {z : rpS} (h : CSt kd pl nm tn t W s z op) (e : s1 = up s t 7 v) : CSt kd pl nm tn t W s1 z op := by
  have hl := kt_lo hkt
  obtain ⟨a1, a2, a3, a4, a5, a6⟩ := h
  subst e
  exact ⟨a1.of (fun j hj => up_c (fun e => hl.1 e.symm)) (up_cc (by omega)) (up_cc (by omega)) (up_cc (by omega)), (up_c (fun e => hl.1 e.symm)).trans a2, (up_c (fun e => hl.1 e.symm)).trans a3, (up_c (fun e => hl.1 e.symm)).trans a4, (up_k (by decide)).trans a5, fun j j0 j1 => (up_c (by omega)).trans (a6 j j0 j1)⟩
theorem sk_55 {d L t : Nat} {s l : Nat → Int → Int} (hkt : KT L t t) {kd k pl nm : Int → Int} {tn W : Int} (hGC : GTC kd k pl nm tn) {z : rpS} {op : Int} (h : CSt kd pl nm tn t W s z op) (hg : 0 ≤ z.1 ∧ z.1 + 1 ≤ tn) {q : Int} (hq : 0 ≤ q ∧ q ≤ 44) (lo : Int) {r : rpR} (hr : rcWd k q z = r) : ∃ s1, mm_Ev mm_ct mm_CM (d + 2) 55 [.ref 580, .int (iI q)] (MX L t s l) (some (.int (iI (bI (r.1 = 0)))), MX L t s1 l) ∧ CNr kd pl nm tn t W s s1 r op lo := by
  obtain ⟨hk, hk43, hkr, htn⟩ := id hGC
  have hkz := hkr z.1
  rw [hk] at hkz
  subst hr
  unfold rcWd
  by_cases e : k z.1 = q
  · rw [if_pos e]
    obtain ⟨s1, e1, f1, f2⟩ := sp_55y (d := d) (L := L) (t := t) (l := l) (CSt.rR h) (CSt.ra h) ⟨hg.1, by omega⟩ (q := q) ⟨by omega, by omega⟩ (by rw [← hk]; exact e) ⟨by omega, by omega⟩
    exact ⟨s1, by rw [bI_t (p := ((0, rpNx z) : rpR).1 = 0) rfl]; exact e1, CNr.nx hkt h f1 f2⟩
  · rw [if_neg e]
    obtain ⟨s1, e1, f1, f2⟩ := sp_55n (d := d) (L := L) (t := t) (l := l) (CSt.rR h) (CSt.ra h) ⟨hg.1, by omega⟩ (q := q) ⟨by omega, by omega⟩ (by rw [← hk]; exact e) ⟨by omega, by omega⟩
    exact ⟨s1, by rw [bI_f (p := ((1, z) : rpR).1 = 0) (by show ¬ (1 : Int) = 0; decide)]; exact e1, CNr.fl hkt (by decide) f1 f2⟩
theorem nu_60 {d L t : Nat} {s l : Nat → Int → Int} (hkt : KT L t t) {kd k pl nm : Int → Int} {tn W : Int} (hGC : GTC kd k pl nm tn) (hW0 : 0 ≤ W ∧ W ≤ 44) {z : rpS} {op : Int} (h : CSt kd pl nm tn t W s z op) (hg : 0 ≤ z.1 ∧ z.1 + 1 ≤ tn) {G : Int → Int} (hH : W = 15 → CH t s G) {ix lo hi : Int} (hix : 0 ≤ ix ∧ ix < 72) (hlo : 0 ≤ lo ∧ lo ≤ 99) (hhi : 0 ≤ hi ∧ hi ≤ 99) (hhi5 : W = 15 → hi ≤ 5) {r : rpR} (hr : rcF k nm G W lo hi z = r) : ∃ s1, mm_Ev mm_ct mm_CM (d + 2) 60 [.ref 580, .int (iI ix), .int (iI lo), .int (iI hi)] (MX L t s l) (some (.int (iI (bI (r.1 = 0)))), MX L t s1 l) ∧ CNr kd pl nm tn t W s s1 r op ix ∧ (r.1 = 0 → s1 (t + 2) ix = nm z.1) := by
  have hc : (mm_CM 60).2.2.2.2.2.2.2 = mm_cf cd_60 := by rw [cm_60]; rfl
  refine ev_xs ?_
  refine ev_to (mx := 5) (by rw [cm_60]; decide) (by rw [cm_60]; rfl) (by show 4 ≤ _; decide) ?_
  show mm_wp _ _ (0, [some (.ref 580), some (.int (iI ix)), some (.int (iI lo)), some (.int (iI hi)), none], [], MX L t s l) (fun res => ∃ s1, res = (some (.int (iI (bI (r.1 = 0)))), MX L t s1 l) ∧ CNr kd pl nm tn t W s s1 r op ix ∧ (r.1 = 0 → s1 (t + 2) ix = nm z.1))
  obtain ⟨hk, hk43, hkr, htn⟩ := id hGC
  have ht6 := hkt.1
  have h582 := (kt_l2 hkt).1
  have hnm9 := ((CSt.rR h).2.2 z.1 hg.1 (by omega)).2.2.2.2.2
  have hkz := hkr z.1
  refine wi_a1 hc rfl rfl ?_
  have hk1_ : mm_Ev mm_ct mm_CM (0 + 1) 53 [.ref 580] (MX L t s l) (some (.int (iI (k z.1))), MX L t s l) := by rw [hk]; exact sp_53 (d := 0) (CSt.rR h) (by have q := CSt.ra h; exact q : s 580 4 = z.1) ⟨by omega, by omega⟩
  have hkr1_ := hkr z.1
  refine wp_cv (b := 580) (As := []) (r := []) hc rfl (by rw [cm_53]; rfl) rfl (Nat.le_of_ble_eq_true rfl) (show 580 < 621 by decide) (by rw [cm_53]; rfl) (ev_mono hk1_ (by omega)) ?_
  show mm_wp _ _ (4, [some (.ref 580), some (.int (iI ix)), some (.int (iI lo)), some (.int (iI hi)), none], [.int (iI (k z.1))], MX L t s l) _
  refine wi_bi hc rfl rfl ?_
  refine wi_ceq hc rfl ⟨by omega, by omega⟩ ⟨by decide, by decide⟩ (fun h1_ => ?_) (fun h1_ => ?_)
  · have hnx9 : z.1 + 1 < tn := by
      rcases (by omega : z.1 + 1 < tn ∨ tn - 1 ≤ z.1) with g | g
      · exact g
      · exfalso; have := hk43 z.1 g; omega
    refine wi_a1 hc rfl rfl ?_
    refine wi_gr (w := 583) hc rfl rfl (by decide) (Nat.le_of_ble_eq_true rfl) rfl ?_
    refine wi_a1 hc rfl rfl ?_
    refine wi_gfv (kz := 4) rfl hc rfl rfl (by decide) (Nat.le_of_ble_eq_true rfl) rfl (v := z.1) ((by have q := CSt.ra h; exact q : s 580 4 = z.1)) ?_
    refine wi_ildv (N := 301) hc rfl rfl (by decide) (by decide) (by omega) (by omega) (v := nm z.1) (((CSt.rR h).2.2 _ (by omega) (by omega)).2.2.1) ?_
    refine wi_is2 (L' := [some (.ref 580), some (.int (iI ix)), some (.int (iI lo)), some (.int (iI hi)), some (.int (iI (nm z.1)))]) hc rfl (Nat.le_of_ble_eq_true rfl) rfl ?_
    refine wi_i2 hc rfl rfl ?_
    refine wi_i1 hc rfl rfl ?_
    refine wi_clt hc rfl ⟨by omega, by omega⟩ ⟨by omega, by omega⟩ (fun h2_ => ?_) (fun h2_ => ?_)
    · refine wi_a1 hc rfl rfl ?_
      refine wi_ic hc rfl ?_
      obtain ⟨s2_, hE2_, hX2_, hY2_⟩ := sp_54 (d := 0) (L := L) (t := t) (l := l) (CSt.rR h) (by have q := CSt.ra h; exact q : s 580 4 = z.1) ⟨by omega, by omega⟩ (n := 2) ⟨by decide, by decide⟩
      refine wp_cv (b := 580) (As := [.int (iI 2)]) (r := []) hc rfl (by rw [cm_54]; rfl) rfl (Nat.le_of_ble_eq_true rfl) (show 580 < 621 by decide) (by rw [cm_54]; rfl) (ev_mono hE2_ (by omega)) ?_
      show mm_wp _ _ (43, [some (.ref 580), some (.int (iI ix)), some (.int (iI lo)), some (.int (iI hi)), some (.int (iI (nm z.1)))], [.int (iI 0)], MX L t s2_ l) _
      refine wi_r0 hc rfl (by rw [cm_60]; rfl) ?_
      have hr9 : r = (2, z) := by rw [← hr, rcF_2 (by omega) (by omega)]
      subst hr9
      exact ⟨s2_, by rw [bI_f (p := ((2, z) : rpR).1 = 0) (by show ¬ (2 : Int) = 0; decide)], CNr.fl hkt (by decide) hX2_ hY2_, fun e => absurd (show (2 : Int) = 0 from e) (by decide)⟩
    · refine wi_i2 hc rfl rfl ?_
      refine wi_i1 hc rfl rfl ?_
      refine wi_cle hc rfl ⟨by omega, by omega⟩ ⟨by omega, by omega⟩ (fun h3_ => ?_) (fun h3_ => ?_)
      · refine wi_a1 hc rfl rfl ?_
        refine wi_gfv (kz := 6) rfl hc rfl rfl (by decide) (Nat.le_of_ble_eq_true rfl) rfl (v := W) (CSt.rw9 h) ?_
        refine wi_bi hc rfl rfl ?_
        refine wi_cne hc rfl ⟨by omega, by omega⟩ ⟨by decide, by decide⟩ (fun h4_ => ?_) (fun h4_ => ?_)
        · skip
          refine wi_a1 hc rfl rfl ?_
          refine wi_gr (w := t) hc rfl rfl (by decide) (Nat.le_of_ble_eq_true rfl) rfl ?_
          refine wi_grs (w := t + 2) hkt.2.1 hc rfl (by have := hkt.1; omega) (by decide) rfl ?_
          refine wi_i1 hc rfl rfl ?_
          refine wi_i2 hc rfl rfl ?_
          refine wi_ist (N := 72) hc rfl hkt.2.2.2.1 (by have := hkt.1; omega) (by decide) (by omega) (by omega) ?_
          obtain ⟨s3_, es3_⟩ : ∃ q, q = up s (t + 2) ix (nm z.1) := ⟨_, rfl⟩
          rw [← es3_]
          refine wi_a1 hc rfl rfl ?_
          refine wi_dupr hc rfl ?_
          refine wi_gfv (kz := 4) rfl hc rfl rfl (by decide) (Nat.le_of_ble_eq_true rfl) rfl (v := z.1) (((congrFun (congrFun es3_ _) _).trans (up_c (by omega))).trans ((by have q := CSt.ra h; exact q : s 580 4 = z.1))) ?_
          refine wi_ic hc rfl ?_
          refine wi_add hc rfl ?_
          refine wi_pf (kz := 4) rfl hc rfl rfl (by decide) (Nat.le_of_ble_eq_true rfl) rfl (Nat.le_of_ble_eq_true rfl) ⟨rfl, rfl⟩ rfl ?_
          obtain ⟨s4_, es4_⟩ : ∃ q, q = up s3_ 580 4 (z.1 + 1) := ⟨_, rfl⟩
          rw [← es4_]
          refine wi_ic hc rfl ?_
          refine wi_r1 hc rfl (by rw [cm_60]; rfl) ?_
          have hr9 : r = (0, rpNx z) := by rw [← hr, rcF_0 (by omega) (by omega) (fun e => by exfalso; omega)]
          subst hr9
          refine ⟨s4_, by rw [bI_t (p := ((0, rpNx z) : rpR).1 = 0) rfl], ?_⟩
          have hN := CNr.nu (op := op) hkt h es3_ es4_
          exact ⟨hN.1, fun _ => hN.2⟩
        · skip
          refine wi_a1 hc rfl rfl ?_
          refine wi_gr (w := t) hc rfl rfl (by decide) (Nat.le_of_ble_eq_true rfl) rfl ?_
          refine wi_i2 hc rfl rfl ?_
          have hT := hH (by omega) (nm z.1) (by omega) (by omega)
          refine wp_cv (b := t) (As := [.int (iI (nm z.1))]) (r := []) hc rfl (by rw [cm_80]; rfl) rfl (Nat.le_of_ble_eq_true rfl) (show t < 621 by omega) (by rw [cm_80]; exact congrArg Prod.fst hkt.2.1) (ev_mono (sp_80 (d := 0) hkt (x := nm z.1) (by omega) (by omega) hT.1 hT.2.1) (by omega)) ?_
          show mm_wp _ _ (62, [some (.ref 580), some (.int (iI ix)), some (.int (iI lo)), some (.int (iI hi)), some (.int (iI (nm z.1)))], [.int (iI (bI (s (t + 4) (nm z.1) < s (t + 5) (nm z.1))))], MX L t s l) _
          refine wi_beq hc rfl (fun h5_ => ?_) (fun h5_ => ?_)
          · skip
            refine wi_a1 hc rfl rfl ?_
            refine wi_gr (w := t) hc rfl rfl (by decide) (Nat.le_of_ble_eq_true rfl) rfl ?_
            refine wi_grs (w := t + 2) hkt.2.1 hc rfl (by have := hkt.1; omega) (by decide) rfl ?_
            refine wi_i1 hc rfl rfl ?_
            refine wi_i2 hc rfl rfl ?_
            refine wi_ist (N := 72) hc rfl hkt.2.2.2.1 (by have := hkt.1; omega) (by decide) (by omega) (by omega) ?_
            obtain ⟨s5_, es5_⟩ : ∃ q, q = up s (t + 2) ix (nm z.1) := ⟨_, rfl⟩
            rw [← es5_]
            refine wi_a1 hc rfl rfl ?_
            refine wi_dupr hc rfl ?_
            refine wi_gfv (kz := 4) rfl hc rfl rfl (by decide) (Nat.le_of_ble_eq_true rfl) rfl (v := z.1) (((congrFun (congrFun es5_ _) _).trans (up_c (by omega))).trans ((by have q := CSt.ra h; exact q : s 580 4 = z.1))) ?_
            refine wi_ic hc rfl ?_
            refine wi_add hc rfl ?_
            refine wi_pf (kz := 4) rfl hc rfl rfl (by decide) (Nat.le_of_ble_eq_true rfl) rfl (Nat.le_of_ble_eq_true rfl) ⟨rfl, rfl⟩ rfl ?_
            obtain ⟨s6_, es6_⟩ : ∃ q, q = up s5_ 580 4 (z.1 + 1) := ⟨_, rfl⟩
            rw [← es6_]
            refine wi_ic hc rfl ?_
            refine wi_r1 hc rfl (by rw [cm_60]; rfl) ?_
            have hr9 : r = (0, rpNx z) := by rw [← hr, rcF_0 (by omega) (by omega) (fun e => fun q => h5_ (hT.2.2.mpr q))]
            subst hr9
            refine ⟨s6_, by rw [bI_t (p := ((0, rpNx z) : rpR).1 = 0) rfl], ?_⟩
            have hN := CNr.nu (op := op) hkt h es5_ es6_
            exact ⟨hN.1, fun _ => hN.2⟩
          · skip
            refine wi_a1 hc rfl rfl ?_
            refine wi_ic hc rfl ?_
            obtain ⟨s7_, hE7_, hX7_, hY7_⟩ := sp_54 (d := 0) (L := L) (t := t) (l := l) (CSt.rR h) (by have q := CSt.ra h; exact q : s 580 4 = z.1) ⟨by omega, by omega⟩ (n := 4) ⟨by decide, by decide⟩
            refine wp_cv (b := 580) (As := [.int (iI 4)]) (r := []) hc rfl (by rw [cm_54]; rfl) rfl (Nat.le_of_ble_eq_true rfl) (show 580 < 621 by decide) (by rw [cm_54]; rfl) (ev_mono hE7_ (by omega)) ?_
            show mm_wp _ _ (70, [some (.ref 580), some (.int (iI ix)), some (.int (iI lo)), some (.int (iI hi)), some (.int (iI (nm z.1)))], [.int (iI 0)], MX L t s7_ l) _
            refine wi_r0 hc rfl (by rw [cm_60]; rfl) ?_
            have hr9 : r = (4, z) := by rw [← hr, rcF_4 (by omega) (by omega) (by omega) (hT.2.2.mp h5_)]
            subst hr9
            exact ⟨s7_, by rw [bI_f (p := ((4, z) : rpR).1 = 0) (by show ¬ (4 : Int) = 0; decide)], CNr.fl hkt (by decide) hX7_ hY7_, fun e => absurd (show (4 : Int) = 0 from e) (by decide)⟩
      · refine wi_a1 hc rfl rfl ?_
        refine wi_ic hc rfl ?_
        obtain ⟨s8_, hE8_, hX8_, hY8_⟩ := sp_54 (d := 0) (L := L) (t := t) (l := l) (CSt.rR h) (by have q := CSt.ra h; exact q : s 580 4 = z.1) ⟨by omega, by omega⟩ (n := 2) ⟨by decide, by decide⟩
        refine wp_cv (b := 580) (As := [.int (iI 2)]) (r := []) hc rfl (by rw [cm_54]; rfl) rfl (Nat.le_of_ble_eq_true rfl) (show 580 < 621 by decide) (by rw [cm_54]; rfl) (ev_mono hE8_ (by omega)) ?_
        show mm_wp _ _ (43, [some (.ref 580), some (.int (iI ix)), some (.int (iI lo)), some (.int (iI hi)), some (.int (iI (nm z.1)))], [.int (iI 0)], MX L t s8_ l) _
        refine wi_r0 hc rfl (by rw [cm_60]; rfl) ?_
        have hr9 : r = (2, z) := by rw [← hr, rcF_2 (by omega) (by omega)]
        subst hr9
        exact ⟨s8_, by rw [bI_f (p := ((2, z) : rpR).1 = 0) (by show ¬ (2 : Int) = 0; decide)], CNr.fl hkt (by decide) hX8_ hY8_, fun e => absurd (show (2 : Int) = 0 from e) (by decide)⟩
  · refine wi_a1 hc rfl rfl ?_
    refine wi_ic hc rfl ?_
    obtain ⟨s9_, hE9_, hX9_, hY9_⟩ := sp_54 (d := 0) (L := L) (t := t) (l := l) (CSt.rR h) (by have q := CSt.ra h; exact q : s 580 4 = z.1) ⟨by omega, by omega⟩ (n := 1) ⟨by decide, by decide⟩
    refine wp_cv (b := 580) (As := [.int (iI 1)]) (r := []) hc rfl (by rw [cm_54]; rfl) rfl (Nat.le_of_ble_eq_true rfl) (show 580 < 621 by decide) (by rw [cm_54]; rfl) (ev_mono hE9_ (by omega)) ?_
    show mm_wp _ _ (14, [some (.ref 580), some (.int (iI ix)), some (.int (iI lo)), some (.int (iI hi)), none], [.int (iI 0)], MX L t s9_ l) _
    refine wi_r0 hc rfl (by rw [cm_60]; rfl) ?_
    have hr9 : r = (1, z) := by rw [← hr, rcF_1 (by omega)]
    subst hr9
    exact ⟨s9_, by rw [bI_f (p := ((1, z) : rpR).1 = 0) (by show ¬ (1 : Int) = 0; decide)], CNr.fl hkt (by decide) hX9_ hY9_, fun e => absurd (show (1 : Int) = 0 from e) (by decide)⟩
/-- what the numbers of a clause leave -/
def CNg (t : Nat) (lo : Int) (s s1 : Nat → Int → Int) : Prop := (∀ q, q ≠ 580 → q ≠ t → q ≠ t + 2 → s1 q = s q) ∧ (∀ j, j ≠ 4 → ¬ (8 ≤ j ∧ j ≤ 9) → s1 580 j = s 580 j) ∧ (∀ j, j ≠ 7 → s1 t j = s t j) ∧ ∀ j, j < lo → s1 (t + 2) j = s (t + 2) j
theorem CNf.g {t : Nat} {lo : Int} {s s1 : Nat → Int → Int} (h : CNf t lo s s1) : CNg t lo s s1 := ⟨h.1, h.2.1, fun j _ => h.2.2.1 j, h.2.2.2⟩
def rcNum (k nm G : Int → Int) (so : Int) (z : rpS) : rpR :=
  if so = 0 then rcF k nm G 15 0 5 z
  else if so ≤ 2 then (0, z)
  else if so = 3 then rcFig k nm 1 2 z
  else if so = 4 then rcFig k nm 1 99 z
  else if so = 5 then rpB (rcFig k nm 0 2 z) (fun y => rpB (rcWd k 24 y) (rcFig k nm 0 9))
  else if so = 6 then rcFig k nm 0 9 z
  else if so = 7 then rpB (rcFig k nm 0 9 z) (fun y => rpB (rcWd k 25 y) (fun x => rpB (rcFig k nm 0 2 x) (fun u => rpB (rcWd k 24 u) (rcFig k nm 0 9))))
  else (0, z)
def rcMore (k nm : Int → Int) (so : Int) (y : rpS) : rpR := if so = 0 then rpEi k nm 15 301 false false y else if so = 1 then rpEi k nm 16 301 false false y else if so = 2 then rpSum k (rpOne k nm 17 8) y else (0, y)
theorem rpB_zz {r : rpR} : rpB r (fun y => (0, y)) = r := by
  unfold rpB
  split
  · rename_i h
    rw [← h]
  · rfl
theorem rcBody_s {k nm G : Int → Int} {so : Int} {z : rpS} (h0 : 0 ≤ so) : rcBody k nm G so z = rpB (rcNum k nm G so z) (rcMore k nm so) := by
  unfold rcBody rcNum rcMore
  by_cases e0 : so = 0
  · rw [if_pos e0, if_pos e0, rcF, if_pos rfl]
    simp only [if_pos e0]
    obtain ⟨f, y, hy⟩ : ∃ f y, rcFig k nm 0 5 z = (f, y) := ⟨_, _, rfl⟩
    rw [hy]
    by_cases hf : f = 0
    · subst hf
      rw [rpB_z, rpB_z]
      by_cases g : 0 ≤ rcHas G 0 (nm z.1)
      · rw [if_pos g, if_pos g, rpB_n (r := (4, z)) (by show (4 : Int) ≠ 0; decide)]
      · rw [if_neg g, if_neg g, rpB_z]
    · rw [rpB_n (r := (f, y)) hf, rpB_n (r := (f, y)) hf, rpB_n (r := (f, y)) hf]
  · rw [if_neg e0, if_neg e0]
    simp only [if_neg e0]
    by_cases e1 : so = 1
    · rw [if_pos e1, if_pos (by omega), rpB_z]; exact (if_pos e1).symm
    · rw [if_neg e1]
      by_cases e2 : so = 2
      · rw [if_pos e2, if_pos (by omega), rpB_z]; simp only [if_neg e1, if_pos e2]
      · rw [if_neg e2, if_neg (show ¬ so ≤ 2 by omega)]
        simp only [if_neg e1, if_neg e2]
        rw [rpB_zz]
theorem nb_59_0 {d L t : Nat} {s l : Nat → Int → Int} (hkt : KT L t t) {kd k pl nm : Int → Int} {tn : Int} (hGC : GTC kd k pl nm tn) {z : rpS} {op : Int} (h : CSt kd pl nm tn t 15 s z op) (hg : 0 ≤ z.1 ∧ z.1 + 1 ≤ tn) {G : Int → Int} (hCH : CH t s G) {i : Int} (hi : 0 ≤ i ∧ i < 24) {r : rpR} (hr : rcNum k nm G 0 z = r) : ∃ s1, mm_Ev mm_ct mm_CM (d + 3) 59 [.ref 580, .int (iI i)] (MX L t s l) (some (.int (iI (bI (r.1 = 0)))), MX L t s1 l) ∧ ((r.1 = 0 → CSt kd pl nm tn t 15 s1 r.2 op) ∧ (r.1 ≠ 0 → s1 580 8 = r.1 ∧ s1 580 9 = plA pl tn r.2.1) ∧ CNg t (3 * i) s s1) ∧ (r.1 = 0 → s1 (t + 2) (3 * i) = nm z.1 ∧ s1 t 7 = s t 7) := by
  have hc : (mm_CM 59).2.2.2.2.2.2.2 = mm_cf cd_59 := by rw [cm_59]; rfl
  refine ev_xs ?_
  refine ev_to (mx := 3) (by rw [cm_59]; decide) (by rw [cm_59]; rfl) (by show 2 ≤ _; decide) ?_
  show mm_wp _ _ (0, [some (.ref 580), some (.int (iI i)), none], [], MX L t s l) (fun res => ∃ s1, res = (some (.int (iI (bI (r.1 = 0)))), MX L t s1 l) ∧ ((r.1 = 0 → CSt kd pl nm tn t 15 s1 r.2 op) ∧ (r.1 ≠ 0 → s1 580 8 = r.1 ∧ s1 580 9 = plA pl tn r.2.1) ∧ CNg t (3 * i) s s1) ∧ (r.1 = 0 → s1 (t + 2) (3 * i) = nm z.1 ∧ s1 t 7 = s t 7))
  obtain ⟨hk, hk43, hkr, htn⟩ := id hGC
  have ht6 := hkt.1
  have h582 := (kt_l2 hkt).1
  have hl9 := kt_lo hkt
  have hrf9 : CNf t (3 * i) s s := CNf.rf
  refine wi_ic hc rfl ?_
  refine wi_i1 hc rfl rfl ?_
  refine wi_mul hc rfl ?_
  refine wi_is1 (L' := [some (.ref 580), some (.int (iI i)), some (.int (iI (3 * i)))]) hc rfl (Nat.le_of_ble_eq_true rfl) rfl ?_
  refine wi_a1 hc rfl rfl ?_
  refine wi_gfv (kz := 6) rfl hc rfl rfl (by decide) (Nat.le_of_ble_eq_true rfl) rfl (v := 15) (CSt.rw9 h) ?_
  refine wi_sw hc rfl ⟨by decide, by decide⟩ ?_
  show mm_wp _ _ (56, [some (.ref 580), some (.int (iI i)), some (.int (iI (3 * i)))], [], MX L t s l) _
  refine wi_a1 hc rfl rfl ?_
  refine wi_i1 hc rfl rfl ?_
  refine wi_ic hc rfl ?_
  refine wi_ic hc rfl ?_
  obtain ⟨f1_, y1_, hy1_⟩ : ∃ f y, rcF k nm G 15 0 5 z = (f, y) := ⟨_, _, rfl⟩
  obtain ⟨s1_, hE1_, hC1_, hN1_⟩ := nu_60 (d := 0) (L := L) (l := l) (G := G) hkt hGC (by decide) h ⟨by show 0 ≤ z.1; omega, by show z.1 + 1 ≤ tn; omega⟩ (fun _ => hCH) (ix := 3 * i) ⟨by omega, by omega⟩ (lo := 0) ⟨by decide, by decide⟩ (hi := 5) ⟨by decide, by decide⟩ (fun _ => by decide) hy1_
  refine wp_cv (b := 580) (As := [.int (iI (3 * i)), .int (iI 0), .int (iI 5)]) (r := []) hc rfl (by rw [cm_60]; rfl) rfl (Nat.le_of_ble_eq_true rfl) (show 580 < 621 by decide) (by rw [cm_60]; rfl) (ev_mono hE1_ (by omega)) ?_
  have hF1q : CNf t (3 * i) s s1_ := hrf9.tr hC1_.2.2 (by omega)
  show mm_wp _ _ (63, [some (.ref 580), some (.int (iI i)), some (.int (iI (3 * i)))], [.int (iI (bI (f1_ = 0)))], MX L t s1_ l) _
  refine wi_rb hc rfl (by rw [cm_59]; rfl) ?_
  have hr9 : r = (f1_, y1_) := by
    rw [← hr, rcNum, if_pos (by decide)]
    exact hy1_
  subst hr9
  refine ⟨s1_, rfl, ⟨hC1_.1, hC1_.2.1, hF1q.g⟩, fun e => ?_⟩
  exact ⟨hN1_ e, hF1q.2.2.1 7⟩
theorem nb_59_1 {d L t : Nat} {s l : Nat → Int → Int} (hkt : KT L t t) {kd k pl nm : Int → Int} {tn : Int} (hGC : GTC kd k pl nm tn) {z : rpS} {op : Int} (h : CSt kd pl nm tn t 16 s z op) (hg : 0 ≤ z.1 ∧ z.1 + 1 ≤ tn) {G : Int → Int} (hCH : CH t s G) {i : Int} (hi : 0 ≤ i ∧ i < 24) {r : rpR} (hr : rcNum k nm G 1 z = r) : ∃ s1, mm_Ev mm_ct mm_CM (d + 3) 59 [.ref 580, .int (iI i)] (MX L t s l) (some (.int (iI (bI (r.1 = 0)))), MX L t s1 l) ∧ ((r.1 = 0 → CSt kd pl nm tn t 16 s1 r.2 op) ∧ (r.1 ≠ 0 → s1 580 8 = r.1 ∧ s1 580 9 = plA pl tn r.2.1) ∧ CNg t (3 * i) s s1) ∧ (r.1 = 0 → s1 t 7 = s t 7) := by
  have hc : (mm_CM 59).2.2.2.2.2.2.2 = mm_cf cd_59 := by rw [cm_59]; rfl
  refine ev_xs ?_
  refine ev_to (mx := 3) (by rw [cm_59]; decide) (by rw [cm_59]; rfl) (by show 2 ≤ _; decide) ?_
  show mm_wp _ _ (0, [some (.ref 580), some (.int (iI i)), none], [], MX L t s l) (fun res => ∃ s1, res = (some (.int (iI (bI (r.1 = 0)))), MX L t s1 l) ∧ ((r.1 = 0 → CSt kd pl nm tn t 16 s1 r.2 op) ∧ (r.1 ≠ 0 → s1 580 8 = r.1 ∧ s1 580 9 = plA pl tn r.2.1) ∧ CNg t (3 * i) s s1) ∧ (r.1 = 0 → s1 t 7 = s t 7))
  obtain ⟨hk, hk43, hkr, htn⟩ := id hGC
  have ht6 := hkt.1
  have h582 := (kt_l2 hkt).1
  have hl9 := kt_lo hkt
  have hrf9 : CNf t (3 * i) s s := CNf.rf
  refine wi_ic hc rfl ?_
  refine wi_i1 hc rfl rfl ?_
  refine wi_mul hc rfl ?_
  refine wi_is1 (L' := [some (.ref 580), some (.int (iI i)), some (.int (iI (3 * i)))]) hc rfl (Nat.le_of_ble_eq_true rfl) rfl ?_
  refine wi_a1 hc rfl rfl ?_
  refine wi_gfv (kz := 6) rfl hc rfl rfl (by decide) (Nat.le_of_ble_eq_true rfl) rfl (v := 16) (CSt.rw9 h) ?_
  refine wi_sw hc rfl ⟨by decide, by decide⟩ ?_
  show mm_wp _ _ (210, [some (.ref 580), some (.int (iI i)), some (.int (iI (3 * i)))], [], MX L t s l) _
  refine wi_ic hc rfl ?_
  refine wi_r1 hc rfl (by rw [cm_59]; rfl) ?_
  have hr9 : r = (0, z) := by
    rw [← hr, rcNum, if_neg (by decide), if_pos (by decide)]
  subst hr9
  exact ⟨s, by rw [bI_t (p := ((0, z) : rpR).1 = 0) rfl], ⟨fun _ => h, fun e => absurd rfl e, hrf9.g⟩, fun _ => hrf9.2.2.1 7⟩
theorem nb_59_2 {d L t : Nat} {s l : Nat → Int → Int} (hkt : KT L t t) {kd k pl nm : Int → Int} {tn : Int} (hGC : GTC kd k pl nm tn) {z : rpS} {op : Int} (h : CSt kd pl nm tn t 17 s z op) (hg : 0 ≤ z.1 ∧ z.1 + 1 ≤ tn) {G : Int → Int} (hCH : CH t s G) {i : Int} (hi : 0 ≤ i ∧ i < 24) {r : rpR} (hr : rcNum k nm G 2 z = r) : ∃ s1, mm_Ev mm_ct mm_CM (d + 3) 59 [.ref 580, .int (iI i)] (MX L t s l) (some (.int (iI (bI (r.1 = 0)))), MX L t s1 l) ∧ ((r.1 = 0 → CSt kd pl nm tn t 17 s1 r.2 op) ∧ (r.1 ≠ 0 → s1 580 8 = r.1 ∧ s1 580 9 = plA pl tn r.2.1) ∧ CNg t (3 * i) s s1) ∧ (r.1 = 0 → s1 t 7 = s t 7) := by
  have hc : (mm_CM 59).2.2.2.2.2.2.2 = mm_cf cd_59 := by rw [cm_59]; rfl
  refine ev_xs ?_
  refine ev_to (mx := 3) (by rw [cm_59]; decide) (by rw [cm_59]; rfl) (by show 2 ≤ _; decide) ?_
  show mm_wp _ _ (0, [some (.ref 580), some (.int (iI i)), none], [], MX L t s l) (fun res => ∃ s1, res = (some (.int (iI (bI (r.1 = 0)))), MX L t s1 l) ∧ ((r.1 = 0 → CSt kd pl nm tn t 17 s1 r.2 op) ∧ (r.1 ≠ 0 → s1 580 8 = r.1 ∧ s1 580 9 = plA pl tn r.2.1) ∧ CNg t (3 * i) s s1) ∧ (r.1 = 0 → s1 t 7 = s t 7))
  obtain ⟨hk, hk43, hkr, htn⟩ := id hGC
  have ht6 := hkt.1
  have h582 := (kt_l2 hkt).1
  have hl9 := kt_lo hkt
  have hrf9 : CNf t (3 * i) s s := CNf.rf
  refine wi_ic hc rfl ?_
  refine wi_i1 hc rfl rfl ?_
  refine wi_mul hc rfl ?_
  refine wi_is1 (L' := [some (.ref 580), some (.int (iI i)), some (.int (iI (3 * i)))]) hc rfl (Nat.le_of_ble_eq_true rfl) rfl ?_
  refine wi_a1 hc rfl rfl ?_
  refine wi_gfv (kz := 6) rfl hc rfl rfl (by decide) (Nat.le_of_ble_eq_true rfl) rfl (v := 17) (CSt.rw9 h) ?_
  refine wi_sw hc rfl ⟨by decide, by decide⟩ ?_
  show mm_wp _ _ (210, [some (.ref 580), some (.int (iI i)), some (.int (iI (3 * i)))], [], MX L t s l) _
  refine wi_ic hc rfl ?_
  refine wi_r1 hc rfl (by rw [cm_59]; rfl) ?_
  have hr9 : r = (0, z) := by
    rw [← hr, rcNum, if_neg (by decide), if_pos (by decide)]
  subst hr9
  exact ⟨s, by rw [bI_t (p := ((0, z) : rpR).1 = 0) rfl], ⟨fun _ => h, fun e => absurd rfl e, hrf9.g⟩, fun _ => hrf9.2.2.1 7⟩
theorem nb_59_3 {d L t : Nat} {s l : Nat → Int → Int} (hkt : KT L t t) {kd k pl nm : Int → Int} {tn : Int} (hGC : GTC kd k pl nm tn) {z : rpS} {op : Int} (h : CSt kd pl nm tn t 18 s z op) (hg : 0 ≤ z.1 ∧ z.1 + 1 ≤ tn) {G : Int → Int} (hCH : CH t s G) {i : Int} (hi : 0 ≤ i ∧ i < 24) {r : rpR} (hr : rcNum k nm G 3 z = r) : ∃ s1, mm_Ev mm_ct mm_CM (d + 3) 59 [.ref 580, .int (iI i)] (MX L t s l) (some (.int (iI (bI (r.1 = 0)))), MX L t s1 l) ∧ ((r.1 = 0 → CSt kd pl nm tn t 18 s1 r.2 op) ∧ (r.1 ≠ 0 → s1 580 8 = r.1 ∧ s1 580 9 = plA pl tn r.2.1) ∧ CNg t (3 * i) s s1) ∧ (r.1 = 0 → s1 (t + 2) (3 * i) = nm z.1 ∧ s1 t 7 = nm z.1) := by
  have hc : (mm_CM 59).2.2.2.2.2.2.2 = mm_cf cd_59 := by rw [cm_59]; rfl
  refine ev_xs ?_
  refine ev_to (mx := 3) (by rw [cm_59]; decide) (by rw [cm_59]; rfl) (by show 2 ≤ _; decide) ?_
  show mm_wp _ _ (0, [some (.ref 580), some (.int (iI i)), none], [], MX L t s l) (fun res => ∃ s1, res = (some (.int (iI (bI (r.1 = 0)))), MX L t s1 l) ∧ ((r.1 = 0 → CSt kd pl nm tn t 18 s1 r.2 op) ∧ (r.1 ≠ 0 → s1 580 8 = r.1 ∧ s1 580 9 = plA pl tn r.2.1) ∧ CNg t (3 * i) s s1) ∧ (r.1 = 0 → s1 (t + 2) (3 * i) = nm z.1 ∧ s1 t 7 = nm z.1))
  obtain ⟨hk, hk43, hkr, htn⟩ := id hGC
  have ht6 := hkt.1
  have h582 := (kt_l2 hkt).1
  have hl9 := kt_lo hkt
  have hrf9 : CNf t (3 * i) s s := CNf.rf
  refine wi_ic hc rfl ?_
  refine wi_i1 hc rfl rfl ?_
  refine wi_mul hc rfl ?_
  refine wi_is1 (L' := [some (.ref 580), some (.int (iI i)), some (.int (iI (3 * i)))]) hc rfl (Nat.le_of_ble_eq_true rfl) rfl ?_
  refine wi_a1 hc rfl rfl ?_
  refine wi_gfv (kz := 6) rfl hc rfl rfl (by decide) (Nat.le_of_ble_eq_true rfl) rfl (v := 18) (CSt.rw9 h) ?_
  refine wi_sw hc rfl ⟨by decide, by decide⟩ ?_
  show mm_wp _ _ (64, [some (.ref 580), some (.int (iI i)), some (.int (iI (3 * i)))], [], MX L t s l) _
  refine wi_a1 hc rfl rfl ?_
  refine wi_i1 hc rfl rfl ?_
  refine wi_ic hc rfl ?_
  refine wi_ic hc rfl ?_
  obtain ⟨f1_, y1_, hy1_⟩ : ∃ f y, rcFig k nm 1 2 z = (f, y) := ⟨_, _, rfl⟩
  obtain ⟨s1_, hE1_, hC1_, hN1_⟩ := nu_60 (d := 0) (L := L) (l := l) (G := G) hkt hGC (by decide) h ⟨by show 0 ≤ z.1; omega, by show z.1 + 1 ≤ tn; omega⟩ (fun e => absurd e (by decide)) (ix := 3 * i) ⟨by omega, by omega⟩ (lo := 1) ⟨by decide, by decide⟩ (hi := 2) ⟨by decide, by decide⟩ (fun e => absurd e (by decide)) ((rcF_n (by decide)).trans hy1_)
  refine wp_cv (b := 580) (As := [.int (iI (3 * i)), .int (iI 1), .int (iI 2)]) (r := []) hc rfl (by rw [cm_60]; rfl) rfl (Nat.le_of_ble_eq_true rfl) (show 580 < 621 by decide) (by rw [cm_60]; rfl) (ev_mono hE1_ (by omega)) ?_
  have hF1q : CNf t (3 * i) s s1_ := hrf9.tr hC1_.2.2 (by omega)
  show mm_wp _ _ (71, [some (.ref 580), some (.int (iI i)), some (.int (iI (3 * i)))], [.int (iI (bI (f1_ = 0)))], MX L t s1_ l) _
  refine wi_bne hc rfl (fun h1_ => ?_) (fun h1_ => ?_)
  · subst h1_
    have hM1_ := hC1_.1 rfl
    have hb1_ := (rcFig_K hk43 hy1_).1.2.2.2.1
    obtain rfl : y1_ = rpNx z := (rcFig_K hk43 hy1_).2.1
    have hb1_ : z.1 + 1 ≤ tn - 1 := hb1_
    have hN1_ : s1_ (t + 2) (3 * i) = nm (z.1) := hN1_ rfl
    refine wi_a1 hc rfl rfl ?_
    refine wi_gr (w := t) hc rfl rfl (by decide) (Nat.le_of_ble_eq_true rfl) rfl ?_
    refine wi_a1 hc rfl rfl ?_
    refine wi_gr (w := t) hc rfl rfl (by decide) (Nat.le_of_ble_eq_true rfl) rfl ?_
    refine wi_grs (w := t + 2) hkt.2.1 hc rfl (by have := hkt.1; omega) (by decide) rfl ?_
    refine wi_i1 hc rfl rfl ?_
    refine wi_ildv (N := 72) hc rfl hkt.2.2.2.1 (by have := hkt.1; omega) (by decide) (by omega) (by omega) (v := nm (z.1)) (hN1_) ?_
    refine wi_pfs (kz := 7) rfl hkt.2.1 hc rfl (by have := hkt.1; omega) (by decide) rfl (Nat.le_of_ble_eq_true rfl) ⟨rfl, rfl⟩ rfl ?_
    obtain ⟨s2_, es2_⟩ : ∃ q, q = up s1_ t 7 (nm (z.1)) := ⟨_, rfl⟩
    rw [← es2_]
    refine wi_ic hc rfl ?_
    refine wi_r1 hc rfl (by rw [cm_59]; rfl) ?_
    have hr9 : r = (0, (rpNx z)) := by
      rw [← hr, rcNum, if_neg (by decide), if_neg (by decide), if_pos (by decide)]
      exact hy1_
    subst hr9
    refine ⟨s2_, by rw [bI_t (p := ((0, (rpNx z)) : rpR).1 = 0) rfl], ⟨fun _ => hM1_.nd hkt es2_, fun e => absurd rfl e, ⟨fun q a1 a2 a3 => by rw [es2_, up_cc a2]; exact hF1q.1 q a1 a2 a3, fun j a1 a2 => by rw [es2_, up_c (fun e => hl9.1 e.symm)]; exact hF1q.2.1 j a1 a2, fun j a => by rw [es2_, up_k a]; exact hF1q.2.2.1 j, fun j a => by rw [es2_, up_c (by omega)]; exact hF1q.2.2.2 j a⟩⟩, fun _ => ⟨by rw [es2_, up_c (by omega)]; exact hN1_, by rw [es2_, up_at]⟩⟩
  · skip
    refine wi_ic hc rfl ?_
    refine wi_r0 hc rfl (by rw [cm_59]; rfl) ?_
    have hr9 : r = (f1_, y1_) := by
      rw [← hr, rcNum, if_neg (by decide), if_neg (by decide), if_pos (by decide)]
      exact hy1_
    subst hr9
    exact ⟨s1_, by rw [bI_f (p := ((f1_, y1_) : rpR).1 = 0) h1_], ⟨hC1_.1, hC1_.2.1, hF1q.g⟩, fun e => absurd e h1_⟩
theorem nb_59_4 {d L t : Nat} {s l : Nat → Int → Int} (hkt : KT L t t) {kd k pl nm : Int → Int} {tn : Int} (hGC : GTC kd k pl nm tn) {z : rpS} {op : Int} (h : CSt kd pl nm tn t 19 s z op) (hg : 0 ≤ z.1 ∧ z.1 + 1 ≤ tn) {G : Int → Int} (hCH : CH t s G) {i : Int} (hi : 0 ≤ i ∧ i < 24) {r : rpR} (hr : rcNum k nm G 4 z = r) : ∃ s1, mm_Ev mm_ct mm_CM (d + 3) 59 [.ref 580, .int (iI i)] (MX L t s l) (some (.int (iI (bI (r.1 = 0)))), MX L t s1 l) ∧ ((r.1 = 0 → CSt kd pl nm tn t 19 s1 r.2 op) ∧ (r.1 ≠ 0 → s1 580 8 = r.1 ∧ s1 580 9 = plA pl tn r.2.1) ∧ CNg t (3 * i) s s1) ∧ (r.1 = 0 → s1 (t + 2) (3 * i) = nm z.1 ∧ s1 t 7 = s t 7) := by
  have hc : (mm_CM 59).2.2.2.2.2.2.2 = mm_cf cd_59 := by rw [cm_59]; rfl
  refine ev_xs ?_
  refine ev_to (mx := 3) (by rw [cm_59]; decide) (by rw [cm_59]; rfl) (by show 2 ≤ _; decide) ?_
  show mm_wp _ _ (0, [some (.ref 580), some (.int (iI i)), none], [], MX L t s l) (fun res => ∃ s1, res = (some (.int (iI (bI (r.1 = 0)))), MX L t s1 l) ∧ ((r.1 = 0 → CSt kd pl nm tn t 19 s1 r.2 op) ∧ (r.1 ≠ 0 → s1 580 8 = r.1 ∧ s1 580 9 = plA pl tn r.2.1) ∧ CNg t (3 * i) s s1) ∧ (r.1 = 0 → s1 (t + 2) (3 * i) = nm z.1 ∧ s1 t 7 = s t 7))
  obtain ⟨hk, hk43, hkr, htn⟩ := id hGC
  have ht6 := hkt.1
  have h582 := (kt_l2 hkt).1
  have hl9 := kt_lo hkt
  have hrf9 : CNf t (3 * i) s s := CNf.rf
  refine wi_ic hc rfl ?_
  refine wi_i1 hc rfl rfl ?_
  refine wi_mul hc rfl ?_
  refine wi_is1 (L' := [some (.ref 580), some (.int (iI i)), some (.int (iI (3 * i)))]) hc rfl (Nat.le_of_ble_eq_true rfl) rfl ?_
  refine wi_a1 hc rfl rfl ?_
  refine wi_gfv (kz := 6) rfl hc rfl rfl (by decide) (Nat.le_of_ble_eq_true rfl) rfl (v := 19) (CSt.rw9 h) ?_
  refine wi_sw hc rfl ⟨by decide, by decide⟩ ?_
  show mm_wp _ _ (94, [some (.ref 580), some (.int (iI i)), some (.int (iI (3 * i)))], [], MX L t s l) _
  refine wi_a1 hc rfl rfl ?_
  refine wi_i1 hc rfl rfl ?_
  refine wi_ic hc rfl ?_
  refine wi_bi hc rfl rfl ?_
  obtain ⟨f1_, y1_, hy1_⟩ : ∃ f y, rcFig k nm 1 99 z = (f, y) := ⟨_, _, rfl⟩
  obtain ⟨s1_, hE1_, hC1_, hN1_⟩ := nu_60 (d := 0) (L := L) (l := l) (G := G) hkt hGC (by decide) h ⟨by show 0 ≤ z.1; omega, by show z.1 + 1 ≤ tn; omega⟩ (fun e => absurd e (by decide)) (ix := 3 * i) ⟨by omega, by omega⟩ (lo := 1) ⟨by decide, by decide⟩ (hi := 99) ⟨by decide, by decide⟩ (fun e => absurd e (by decide)) ((rcF_n (by decide)).trans hy1_)
  refine wp_cv (b := 580) (As := [.int (iI (3 * i)), .int (iI 1), .int (iI 99)]) (r := []) hc rfl (by rw [cm_60]; rfl) rfl (Nat.le_of_ble_eq_true rfl) (show 580 < 621 by decide) (by rw [cm_60]; rfl) (ev_mono hE1_ (by omega)) ?_
  have hF1q : CNf t (3 * i) s s1_ := hrf9.tr hC1_.2.2 (by omega)
  show mm_wp _ _ (102, [some (.ref 580), some (.int (iI i)), some (.int (iI (3 * i)))], [.int (iI (bI (f1_ = 0)))], MX L t s1_ l) _
  refine wi_rb hc rfl (by rw [cm_59]; rfl) ?_
  have hr9 : r = (f1_, y1_) := by
    rw [← hr, rcNum, if_neg (by decide), if_neg (by decide), if_neg (by decide), if_pos (by decide)]
    exact hy1_
  subst hr9
  refine ⟨s1_, rfl, ⟨hC1_.1, hC1_.2.1, hF1q.g⟩, fun e => ?_⟩
  exact ⟨hN1_ e, hF1q.2.2.1 7⟩
theorem nb_59_5 {d L t : Nat} {s l : Nat → Int → Int} (hkt : KT L t t) {kd k pl nm : Int → Int} {tn : Int} (hGC : GTC kd k pl nm tn) {z : rpS} {op : Int} (h : CSt kd pl nm tn t 20 s z op) (hg : 0 ≤ z.1 ∧ z.1 + 1 ≤ tn) {G : Int → Int} (hCH : CH t s G) {i : Int} (hi : 0 ≤ i ∧ i < 24) {r : rpR} (hr : rcNum k nm G 5 z = r) : ∃ s1, mm_Ev mm_ct mm_CM (d + 3) 59 [.ref 580, .int (iI i)] (MX L t s l) (some (.int (iI (bI (r.1 = 0)))), MX L t s1 l) ∧ ((r.1 = 0 → CSt kd pl nm tn t 20 s1 r.2 op) ∧ (r.1 ≠ 0 → s1 580 8 = r.1 ∧ s1 580 9 = plA pl tn r.2.1) ∧ CNg t (3 * i) s s1) ∧ (r.1 = 0 → s1 (t + 2) (3 * i) = nm z.1 ∧ s1 (t + 2) (3 * i + 1) = nm (z.1 + 2) ∧ s1 t 7 = s t 7) := by
  have hc : (mm_CM 59).2.2.2.2.2.2.2 = mm_cf cd_59 := by rw [cm_59]; rfl
  refine ev_xs ?_
  refine ev_to (mx := 3) (by rw [cm_59]; decide) (by rw [cm_59]; rfl) (by show 2 ≤ _; decide) ?_
  show mm_wp _ _ (0, [some (.ref 580), some (.int (iI i)), none], [], MX L t s l) (fun res => ∃ s1, res = (some (.int (iI (bI (r.1 = 0)))), MX L t s1 l) ∧ ((r.1 = 0 → CSt kd pl nm tn t 20 s1 r.2 op) ∧ (r.1 ≠ 0 → s1 580 8 = r.1 ∧ s1 580 9 = plA pl tn r.2.1) ∧ CNg t (3 * i) s s1) ∧ (r.1 = 0 → s1 (t + 2) (3 * i) = nm z.1 ∧ s1 (t + 2) (3 * i + 1) = nm (z.1 + 2) ∧ s1 t 7 = s t 7))
  obtain ⟨hk, hk43, hkr, htn⟩ := id hGC
  have ht6 := hkt.1
  have h582 := (kt_l2 hkt).1
  have hl9 := kt_lo hkt
  have hrf9 : CNf t (3 * i) s s := CNf.rf
  refine wi_ic hc rfl ?_
  refine wi_i1 hc rfl rfl ?_
  refine wi_mul hc rfl ?_
  refine wi_is1 (L' := [some (.ref 580), some (.int (iI i)), some (.int (iI (3 * i)))]) hc rfl (Nat.le_of_ble_eq_true rfl) rfl ?_
  refine wi_a1 hc rfl rfl ?_
  refine wi_gfv (kz := 6) rfl hc rfl rfl (by decide) (Nat.le_of_ble_eq_true rfl) rfl (v := 20) (CSt.rw9 h) ?_
  refine wi_sw hc rfl ⟨by decide, by decide⟩ ?_
  show mm_wp _ _ (103, [some (.ref 580), some (.int (iI i)), some (.int (iI (3 * i)))], [], MX L t s l) _
  refine wi_a1 hc rfl rfl ?_
  refine wi_i1 hc rfl rfl ?_
  refine wi_ic hc rfl ?_
  refine wi_ic hc rfl ?_
  obtain ⟨f1_, y1_, hy1_⟩ : ∃ f y, rcFig k nm 0 2 z = (f, y) := ⟨_, _, rfl⟩
  obtain ⟨s1_, hE1_, hC1_, hN1_⟩ := nu_60 (d := 0) (L := L) (l := l) (G := G) hkt hGC (by decide) h ⟨by show 0 ≤ z.1; omega, by show z.1 + 1 ≤ tn; omega⟩ (fun e => absurd e (by decide)) (ix := 3 * i) ⟨by omega, by omega⟩ (lo := 0) ⟨by decide, by decide⟩ (hi := 2) ⟨by decide, by decide⟩ (fun e => absurd e (by decide)) ((rcF_n (by decide)).trans hy1_)
  refine wp_cv (b := 580) (As := [.int (iI (3 * i)), .int (iI 0), .int (iI 2)]) (r := []) hc rfl (by rw [cm_60]; rfl) rfl (Nat.le_of_ble_eq_true rfl) (show 580 < 621 by decide) (by rw [cm_60]; rfl) (ev_mono hE1_ (by omega)) ?_
  have hF1q : CNf t (3 * i) s s1_ := hrf9.tr hC1_.2.2 (by omega)
  show mm_wp _ _ (110, [some (.ref 580), some (.int (iI i)), some (.int (iI (3 * i)))], [.int (iI (bI (f1_ = 0)))], MX L t s1_ l) _
  refine wi_beq hc rfl (fun h1_ => ?_) (fun h1_ => ?_)
  · skip
    refine wi_ic hc rfl ?_
    refine wi_r0 hc rfl (by rw [cm_59]; rfl) ?_
    have hr9 : r = (f1_, y1_) := by
      rw [← hr, rcNum, if_neg (by decide), if_neg (by decide), if_neg (by decide), if_neg (by decide), if_pos (by decide)]
      rw [hy1_, rpB_n (r := (f1_, y1_)) h1_]
    subst hr9
    exact ⟨s1_, by rw [bI_f (p := ((f1_, y1_) : rpR).1 = 0) h1_], ⟨hC1_.1, hC1_.2.1, hF1q.g⟩, fun e => absurd e h1_⟩
  · subst h1_
    have hM1_ := hC1_.1 rfl
    have hb1_ := (rcFig_K hk43 hy1_).1.2.2.2.1
    obtain rfl : y1_ = rpNx z := (rcFig_K hk43 hy1_).2.1
    have hb1_ : z.1 + 1 ≤ tn - 1 := hb1_
    have hN1_ : s1_ (t + 2) (3 * i) = nm (z.1) := hN1_ rfl
    refine wi_a1 hc rfl rfl ?_
    refine wi_bi hc rfl rfl ?_
    obtain ⟨f2_, y2_, hy2_⟩ : ∃ f y, rcWd k 24 (rpNx z) = (f, y) := ⟨_, _, rfl⟩
    obtain ⟨s2_, hE2_, hC2_⟩ := sk_55 (d := 0) (L := L) (l := l) hkt hGC hM1_ ⟨by show 0 ≤ z.1 + 1; omega, by show z.1 + 1 + 1 ≤ tn; omega⟩ (q := 24) ⟨by decide, by decide⟩ (3 * i + 3) hy2_
    refine wp_cv (b := 580) (As := [.int (iI 24)]) (r := []) hc rfl (by rw [cm_55]; rfl) rfl (Nat.le_of_ble_eq_true rfl) (show 580 < 621 by decide) (by rw [cm_55]; rfl) (ev_mono hE2_ (by omega)) ?_
    have hF2q : CNf t (3 * i) s s2_ := hF1q.tr hC2_.2.2 (by omega)
    show mm_wp _ _ (119, [some (.ref 580), some (.int (iI i)), some (.int (iI (3 * i)))], [.int (iI (bI (f2_ = 0)))], MX L t s2_ l) _
    refine wi_beq hc rfl (fun h2_ => ?_) (fun h2_ => ?_)
    · skip
      refine wi_ic hc rfl ?_
      refine wi_r0 hc rfl (by rw [cm_59]; rfl) ?_
      have hr9 : r = (f2_, y2_) := by
        rw [← hr, rcNum, if_neg (by decide), if_neg (by decide), if_neg (by decide), if_neg (by decide), if_pos (by decide)]
        rw [hy1_, rpB_z]
        rw [hy2_, rpB_n (r := (f2_, y2_)) h2_]
      subst hr9
      exact ⟨s2_, by rw [bI_f (p := ((f2_, y2_) : rpR).1 = 0) h2_], ⟨hC2_.1, hC2_.2.1, hF2q.g⟩, fun e => absurd e h2_⟩
    · subst h2_
      have hM2_ := hC2_.1 rfl
      have hb2_ := (rcWd_K hk43 (by decide) hy2_).1.2.2.2.1
      obtain rfl : y2_ = rpNx (rpNx z) := (rcWd_K hk43 (by decide) hy2_).2
      have hb2_ : z.1 + 1 + 1 ≤ tn - 1 := hb2_
      refine wi_a1 hc rfl rfl ?_
      refine wi_i1 hc rfl rfl ?_
      refine wi_ic hc rfl ?_
      refine wi_add hc rfl ?_
      refine wi_ic hc rfl ?_
      refine wi_bi hc rfl rfl ?_
      obtain ⟨f3_, y3_, hy3_⟩ : ∃ f y, rcFig k nm 0 9 (rpNx (rpNx z)) = (f, y) := ⟨_, _, rfl⟩
      obtain ⟨s3_, hE3_, hC3_, hN3_⟩ := nu_60 (d := 0) (L := L) (l := l) (G := G) hkt hGC (by decide) hM2_ ⟨by show 0 ≤ (z.1 + 1) + 1; omega, by show (z.1 + 1) + 1 + 1 ≤ tn; omega⟩ (fun e => absurd e (by decide)) (ix := (3 * i) + 1) ⟨by omega, by omega⟩ (lo := 0) ⟨by decide, by decide⟩ (hi := 9) ⟨by decide, by decide⟩ (fun e => absurd e (by decide)) ((rcF_n (by decide)).trans hy3_)
      refine wp_cv (b := 580) (As := [.int (iI ((3 * i) + 1)), .int (iI 0), .int (iI 9)]) (r := []) hc rfl (by rw [cm_60]; rfl) rfl (Nat.le_of_ble_eq_true rfl) (show 580 < 621 by decide) (by rw [cm_60]; rfl) (ev_mono hE3_ (by omega)) ?_
      have hF3q : CNf t (3 * i) s s3_ := hF2q.tr hC3_.2.2 (by omega)
      show mm_wp _ _ (132, [some (.ref 580), some (.int (iI i)), some (.int (iI (3 * i)))], [.int (iI (bI (f3_ = 0)))], MX L t s3_ l) _
      refine wi_b01 hc rfl rfl rfl rfl (bI_01 _) ?_
      refine wi_rb hc rfl (by rw [cm_59]; rfl) ?_
      have hr9 : r = (f3_, y3_) := by
        rw [← hr, rcNum, if_neg (by decide), if_neg (by decide), if_neg (by decide), if_neg (by decide), if_pos (by decide)]
        rw [hy1_]
        rw [rpB_z]
        rw [hy2_]
        rw [rpB_z]
        exact hy3_
      subst hr9
      refine ⟨s3_, rfl, ⟨hC3_.1, hC3_.2.1, hF3q.g⟩, fun e => ?_⟩
      exact ⟨(hC3_.2.2.2.2.2 _ (by omega)).trans (((hC2_.2.2.2.2.2 _ (by omega)).trans (hN1_))), (by rw [show z.1 + 2 = z.1 + 1 + 1 by omega]; exact hN3_ e), hF3q.2.2.1 7⟩
theorem nb_59_6 {d L t : Nat} {s l : Nat → Int → Int} (hkt : KT L t t) {kd k pl nm : Int → Int} {tn : Int} (hGC : GTC kd k pl nm tn) {z : rpS} {op : Int} (h : CSt kd pl nm tn t 21 s z op) (hg : 0 ≤ z.1 ∧ z.1 + 1 ≤ tn) {G : Int → Int} (hCH : CH t s G) {i : Int} (hi : 0 ≤ i ∧ i < 24) {r : rpR} (hr : rcNum k nm G 6 z = r) : ∃ s1, mm_Ev mm_ct mm_CM (d + 3) 59 [.ref 580, .int (iI i)] (MX L t s l) (some (.int (iI (bI (r.1 = 0)))), MX L t s1 l) ∧ ((r.1 = 0 → CSt kd pl nm tn t 21 s1 r.2 op) ∧ (r.1 ≠ 0 → s1 580 8 = r.1 ∧ s1 580 9 = plA pl tn r.2.1) ∧ CNg t (3 * i) s s1) ∧ (r.1 = 0 → s1 (t + 2) (3 * i) = nm z.1 ∧ s1 t 7 = s t 7) := by
  have hc : (mm_CM 59).2.2.2.2.2.2.2 = mm_cf cd_59 := by rw [cm_59]; rfl
  refine ev_xs ?_
  refine ev_to (mx := 3) (by rw [cm_59]; decide) (by rw [cm_59]; rfl) (by show 2 ≤ _; decide) ?_
  show mm_wp _ _ (0, [some (.ref 580), some (.int (iI i)), none], [], MX L t s l) (fun res => ∃ s1, res = (some (.int (iI (bI (r.1 = 0)))), MX L t s1 l) ∧ ((r.1 = 0 → CSt kd pl nm tn t 21 s1 r.2 op) ∧ (r.1 ≠ 0 → s1 580 8 = r.1 ∧ s1 580 9 = plA pl tn r.2.1) ∧ CNg t (3 * i) s s1) ∧ (r.1 = 0 → s1 (t + 2) (3 * i) = nm z.1 ∧ s1 t 7 = s t 7))
  obtain ⟨hk, hk43, hkr, htn⟩ := id hGC
  have ht6 := hkt.1
  have h582 := (kt_l2 hkt).1
  have hl9 := kt_lo hkt
  have hrf9 : CNf t (3 * i) s s := CNf.rf
  refine wi_ic hc rfl ?_
  refine wi_i1 hc rfl rfl ?_
  refine wi_mul hc rfl ?_
  refine wi_is1 (L' := [some (.ref 580), some (.int (iI i)), some (.int (iI (3 * i)))]) hc rfl (Nat.le_of_ble_eq_true rfl) rfl ?_
  refine wi_a1 hc rfl rfl ?_
  refine wi_gfv (kz := 6) rfl hc rfl rfl (by decide) (Nat.le_of_ble_eq_true rfl) rfl (v := 21) (CSt.rw9 h) ?_
  refine wi_sw hc rfl ⟨by decide, by decide⟩ ?_
  show mm_wp _ _ (141, [some (.ref 580), some (.int (iI i)), some (.int (iI (3 * i)))], [], MX L t s l) _
  refine wi_a1 hc rfl rfl ?_
  refine wi_i1 hc rfl rfl ?_
  refine wi_ic hc rfl ?_
  refine wi_bi hc rfl rfl ?_
  obtain ⟨f1_, y1_, hy1_⟩ : ∃ f y, rcFig k nm 0 9 z = (f, y) := ⟨_, _, rfl⟩
  obtain ⟨s1_, hE1_, hC1_, hN1_⟩ := nu_60 (d := 0) (L := L) (l := l) (G := G) hkt hGC (by decide) h ⟨by show 0 ≤ z.1; omega, by show z.1 + 1 ≤ tn; omega⟩ (fun e => absurd e (by decide)) (ix := 3 * i) ⟨by omega, by omega⟩ (lo := 0) ⟨by decide, by decide⟩ (hi := 9) ⟨by decide, by decide⟩ (fun e => absurd e (by decide)) ((rcF_n (by decide)).trans hy1_)
  refine wp_cv (b := 580) (As := [.int (iI (3 * i)), .int (iI 0), .int (iI 9)]) (r := []) hc rfl (by rw [cm_60]; rfl) rfl (Nat.le_of_ble_eq_true rfl) (show 580 < 621 by decide) (by rw [cm_60]; rfl) (ev_mono hE1_ (by omega)) ?_
  have hF1q : CNf t (3 * i) s s1_ := hrf9.tr hC1_.2.2 (by omega)
  show mm_wp _ _ (149, [some (.ref 580), some (.int (iI i)), some (.int (iI (3 * i)))], [.int (iI (bI (f1_ = 0)))], MX L t s1_ l) _
  refine wi_rb hc rfl (by rw [cm_59]; rfl) ?_
  have hr9 : r = (f1_, y1_) := by
    rw [← hr, rcNum, if_neg (by decide), if_neg (by decide), if_neg (by decide), if_neg (by decide), if_neg (by decide), if_pos (by decide)]
    exact hy1_
  subst hr9
  refine ⟨s1_, rfl, ⟨hC1_.1, hC1_.2.1, hF1q.g⟩, fun e => ?_⟩
  exact ⟨hN1_ e, hF1q.2.2.1 7⟩
theorem nb_59_7 {d L t : Nat} {s l : Nat → Int → Int} (hkt : KT L t t) {kd k pl nm : Int → Int} {tn : Int} (hGC : GTC kd k pl nm tn) {z : rpS} {op : Int} (h : CSt kd pl nm tn t 22 s z op) (hg : 0 ≤ z.1 ∧ z.1 + 1 ≤ tn) {G : Int → Int} (hCH : CH t s G) {i : Int} (hi : 0 ≤ i ∧ i < 24) {r : rpR} (hr : rcNum k nm G 7 z = r) : ∃ s1, mm_Ev mm_ct mm_CM (d + 3) 59 [.ref 580, .int (iI i)] (MX L t s l) (some (.int (iI (bI (r.1 = 0)))), MX L t s1 l) ∧ ((r.1 = 0 → CSt kd pl nm tn t 22 s1 r.2 op) ∧ (r.1 ≠ 0 → s1 580 8 = r.1 ∧ s1 580 9 = plA pl tn r.2.1) ∧ CNg t (3 * i) s s1) ∧ (r.1 = 0 → s1 (t + 2) (3 * i) = nm z.1 ∧ s1 (t + 2) (3 * i + 1) = nm (z.1 + 2) ∧ s1 (t + 2) (3 * i + 2) = nm (z.1 + 4) ∧ s1 t 7 = s t 7) := by
  have hc : (mm_CM 59).2.2.2.2.2.2.2 = mm_cf cd_59 := by rw [cm_59]; rfl
  refine ev_xs ?_
  refine ev_to (mx := 3) (by rw [cm_59]; decide) (by rw [cm_59]; rfl) (by show 2 ≤ _; decide) ?_
  show mm_wp _ _ (0, [some (.ref 580), some (.int (iI i)), none], [], MX L t s l) (fun res => ∃ s1, res = (some (.int (iI (bI (r.1 = 0)))), MX L t s1 l) ∧ ((r.1 = 0 → CSt kd pl nm tn t 22 s1 r.2 op) ∧ (r.1 ≠ 0 → s1 580 8 = r.1 ∧ s1 580 9 = plA pl tn r.2.1) ∧ CNg t (3 * i) s s1) ∧ (r.1 = 0 → s1 (t + 2) (3 * i) = nm z.1 ∧ s1 (t + 2) (3 * i + 1) = nm (z.1 + 2) ∧ s1 (t + 2) (3 * i + 2) = nm (z.1 + 4) ∧ s1 t 7 = s t 7))
  obtain ⟨hk, hk43, hkr, htn⟩ := id hGC
  have ht6 := hkt.1
  have h582 := (kt_l2 hkt).1
  have hl9 := kt_lo hkt
  have hrf9 : CNf t (3 * i) s s := CNf.rf
  refine wi_ic hc rfl ?_
  refine wi_i1 hc rfl rfl ?_
  refine wi_mul hc rfl ?_
  refine wi_is1 (L' := [some (.ref 580), some (.int (iI i)), some (.int (iI (3 * i)))]) hc rfl (Nat.le_of_ble_eq_true rfl) rfl ?_
  refine wi_a1 hc rfl rfl ?_
  refine wi_gfv (kz := 6) rfl hc rfl rfl (by decide) (Nat.le_of_ble_eq_true rfl) rfl (v := 22) (CSt.rw9 h) ?_
  refine wi_sw hc rfl ⟨by decide, by decide⟩ ?_
  show mm_wp _ _ (150, [some (.ref 580), some (.int (iI i)), some (.int (iI (3 * i)))], [], MX L t s l) _
  refine wi_a1 hc rfl rfl ?_
  refine wi_i1 hc rfl rfl ?_
  refine wi_ic hc rfl ?_
  refine wi_bi hc rfl rfl ?_
  obtain ⟨f1_, y1_, hy1_⟩ : ∃ f y, rcFig k nm 0 9 z = (f, y) := ⟨_, _, rfl⟩
  obtain ⟨s1_, hE1_, hC1_, hN1_⟩ := nu_60 (d := 0) (L := L) (l := l) (G := G) hkt hGC (by decide) h ⟨by show 0 ≤ z.1; omega, by show z.1 + 1 ≤ tn; omega⟩ (fun e => absurd e (by decide)) (ix := 3 * i) ⟨by omega, by omega⟩ (lo := 0) ⟨by decide, by decide⟩ (hi := 9) ⟨by decide, by decide⟩ (fun e => absurd e (by decide)) ((rcF_n (by decide)).trans hy1_)
  refine wp_cv (b := 580) (As := [.int (iI (3 * i)), .int (iI 0), .int (iI 9)]) (r := []) hc rfl (by rw [cm_60]; rfl) rfl (Nat.le_of_ble_eq_true rfl) (show 580 < 621 by decide) (by rw [cm_60]; rfl) (ev_mono hE1_ (by omega)) ?_
  have hF1q : CNf t (3 * i) s s1_ := hrf9.tr hC1_.2.2 (by omega)
  show mm_wp _ _ (158, [some (.ref 580), some (.int (iI i)), some (.int (iI (3 * i)))], [.int (iI (bI (f1_ = 0)))], MX L t s1_ l) _
  refine wi_beq hc rfl (fun h1_ => ?_) (fun h1_ => ?_)
  · skip
    refine wi_ic hc rfl ?_
    refine wi_r0 hc rfl (by rw [cm_59]; rfl) ?_
    have hr9 : r = (f1_, y1_) := by
      rw [← hr, rcNum, if_neg (by decide), if_neg (by decide), if_neg (by decide), if_neg (by decide), if_neg (by decide), if_neg (by decide), if_pos (by decide)]
      rw [hy1_, rpB_n (r := (f1_, y1_)) h1_]
    subst hr9
    exact ⟨s1_, by rw [bI_f (p := ((f1_, y1_) : rpR).1 = 0) h1_], ⟨hC1_.1, hC1_.2.1, hF1q.g⟩, fun e => absurd e h1_⟩
  · subst h1_
    have hM1_ := hC1_.1 rfl
    have hb1_ := (rcFig_K hk43 hy1_).1.2.2.2.1
    obtain rfl : y1_ = rpNx z := (rcFig_K hk43 hy1_).2.1
    have hb1_ : z.1 + 1 ≤ tn - 1 := hb1_
    have hN1_ : s1_ (t + 2) (3 * i) = nm (z.1) := hN1_ rfl
    refine wi_a1 hc rfl rfl ?_
    refine wi_bi hc rfl rfl ?_
    obtain ⟨f2_, y2_, hy2_⟩ : ∃ f y, rcWd k 25 (rpNx z) = (f, y) := ⟨_, _, rfl⟩
    obtain ⟨s2_, hE2_, hC2_⟩ := sk_55 (d := 0) (L := L) (l := l) hkt hGC hM1_ ⟨by show 0 ≤ z.1 + 1; omega, by show z.1 + 1 + 1 ≤ tn; omega⟩ (q := 25) ⟨by decide, by decide⟩ (3 * i + 3) hy2_
    refine wp_cv (b := 580) (As := [.int (iI 25)]) (r := []) hc rfl (by rw [cm_55]; rfl) rfl (Nat.le_of_ble_eq_true rfl) (show 580 < 621 by decide) (by rw [cm_55]; rfl) (ev_mono hE2_ (by omega)) ?_
    have hF2q : CNf t (3 * i) s s2_ := hF1q.tr hC2_.2.2 (by omega)
    show mm_wp _ _ (167, [some (.ref 580), some (.int (iI i)), some (.int (iI (3 * i)))], [.int (iI (bI (f2_ = 0)))], MX L t s2_ l) _
    refine wi_beq hc rfl (fun h2_ => ?_) (fun h2_ => ?_)
    · skip
      refine wi_ic hc rfl ?_
      refine wi_r0 hc rfl (by rw [cm_59]; rfl) ?_
      have hr9 : r = (f2_, y2_) := by
        rw [← hr, rcNum, if_neg (by decide), if_neg (by decide), if_neg (by decide), if_neg (by decide), if_neg (by decide), if_neg (by decide), if_pos (by decide)]
        rw [hy1_, rpB_z]
        rw [hy2_, rpB_n (r := (f2_, y2_)) h2_]
      subst hr9
      exact ⟨s2_, by rw [bI_f (p := ((f2_, y2_) : rpR).1 = 0) h2_], ⟨hC2_.1, hC2_.2.1, hF2q.g⟩, fun e => absurd e h2_⟩
    · subst h2_
      have hM2_ := hC2_.1 rfl
      have hb2_ := (rcWd_K hk43 (by decide) hy2_).1.2.2.2.1
      obtain rfl : y2_ = rpNx (rpNx z) := (rcWd_K hk43 (by decide) hy2_).2
      have hb2_ : z.1 + 1 + 1 ≤ tn - 1 := hb2_
      refine wi_a1 hc rfl rfl ?_
      refine wi_i1 hc rfl rfl ?_
      refine wi_ic hc rfl ?_
      refine wi_add hc rfl ?_
      refine wi_ic hc rfl ?_
      refine wi_ic hc rfl ?_
      obtain ⟨f3_, y3_, hy3_⟩ : ∃ f y, rcFig k nm 0 2 (rpNx (rpNx z)) = (f, y) := ⟨_, _, rfl⟩
      obtain ⟨s3_, hE3_, hC3_, hN3_⟩ := nu_60 (d := 0) (L := L) (l := l) (G := G) hkt hGC (by decide) hM2_ ⟨by show 0 ≤ (z.1 + 1) + 1; omega, by show (z.1 + 1) + 1 + 1 ≤ tn; omega⟩ (fun e => absurd e (by decide)) (ix := (3 * i) + 1) ⟨by omega, by omega⟩ (lo := 0) ⟨by decide, by decide⟩ (hi := 2) ⟨by decide, by decide⟩ (fun e => absurd e (by decide)) ((rcF_n (by decide)).trans hy3_)
      refine wp_cv (b := 580) (As := [.int (iI ((3 * i) + 1)), .int (iI 0), .int (iI 2)]) (r := []) hc rfl (by rw [cm_60]; rfl) rfl (Nat.le_of_ble_eq_true rfl) (show 580 < 621 by decide) (by rw [cm_60]; rfl) (ev_mono hE3_ (by omega)) ?_
      have hF3q : CNf t (3 * i) s s3_ := hF2q.tr hC3_.2.2 (by omega)
      show mm_wp _ _ (179, [some (.ref 580), some (.int (iI i)), some (.int (iI (3 * i)))], [.int (iI (bI (f3_ = 0)))], MX L t s3_ l) _
      refine wi_beq hc rfl (fun h3_ => ?_) (fun h3_ => ?_)
      · skip
        refine wi_ic hc rfl ?_
        refine wi_r0 hc rfl (by rw [cm_59]; rfl) ?_
        have hr9 : r = (f3_, y3_) := by
          rw [← hr, rcNum, if_neg (by decide), if_neg (by decide), if_neg (by decide), if_neg (by decide), if_neg (by decide), if_neg (by decide), if_pos (by decide)]
          rw [hy1_, rpB_z]
          rw [hy2_, rpB_z]
          rw [hy3_, rpB_n (r := (f3_, y3_)) h3_]
        subst hr9
        exact ⟨s3_, by rw [bI_f (p := ((f3_, y3_) : rpR).1 = 0) h3_], ⟨hC3_.1, hC3_.2.1, hF3q.g⟩, fun e => absurd e h3_⟩
      · subst h3_
        have hM3_ := hC3_.1 rfl
        have hb3_ := (rcFig_K hk43 hy3_).1.2.2.2.1
        obtain rfl : y3_ = rpNx (rpNx (rpNx z)) := (rcFig_K hk43 hy3_).2.1
        have hb3_ : (z.1 + 1) + 1 + 1 ≤ tn - 1 := hb3_
        have hN3_ : s3_ (t + 2) ((3 * i) + 1) = nm ((z.1 + 1) + 1) := hN3_ rfl
        refine wi_a1 hc rfl rfl ?_
        refine wi_bi hc rfl rfl ?_
        obtain ⟨f4_, y4_, hy4_⟩ : ∃ f y, rcWd k 24 (rpNx (rpNx (rpNx z))) = (f, y) := ⟨_, _, rfl⟩
        obtain ⟨s4_, hE4_, hC4_⟩ := sk_55 (d := 0) (L := L) (l := l) hkt hGC hM3_ ⟨by show 0 ≤ ((z.1 + 1) + 1) + 1; omega, by show ((z.1 + 1) + 1) + 1 + 1 ≤ tn; omega⟩ (q := 24) ⟨by decide, by decide⟩ (3 * i + 3) hy4_
        refine wp_cv (b := 580) (As := [.int (iI 24)]) (r := []) hc rfl (by rw [cm_55]; rfl) rfl (Nat.le_of_ble_eq_true rfl) (show 580 < 621 by decide) (by rw [cm_55]; rfl) (ev_mono hE4_ (by omega)) ?_
        have hF4q : CNf t (3 * i) s s4_ := hF3q.tr hC4_.2.2 (by omega)
        show mm_wp _ _ (188, [some (.ref 580), some (.int (iI i)), some (.int (iI (3 * i)))], [.int (iI (bI (f4_ = 0)))], MX L t s4_ l) _
        refine wi_beq hc rfl (fun h4_ => ?_) (fun h4_ => ?_)
        · skip
          refine wi_ic hc rfl ?_
          refine wi_r0 hc rfl (by rw [cm_59]; rfl) ?_
          have hr9 : r = (f4_, y4_) := by
            rw [← hr, rcNum, if_neg (by decide), if_neg (by decide), if_neg (by decide), if_neg (by decide), if_neg (by decide), if_neg (by decide), if_pos (by decide)]
            rw [hy1_, rpB_z]
            rw [hy2_, rpB_z]
            rw [hy3_, rpB_z]
            rw [hy4_, rpB_n (r := (f4_, y4_)) h4_]
          subst hr9
          exact ⟨s4_, by rw [bI_f (p := ((f4_, y4_) : rpR).1 = 0) h4_], ⟨hC4_.1, hC4_.2.1, hF4q.g⟩, fun e => absurd e h4_⟩
        · subst h4_
          have hM4_ := hC4_.1 rfl
          have hb4_ := (rcWd_K hk43 (by decide) hy4_).1.2.2.2.1
          obtain rfl : y4_ = rpNx (rpNx (rpNx (rpNx z))) := (rcWd_K hk43 (by decide) hy4_).2
          have hb4_ : ((z.1 + 1) + 1) + 1 + 1 ≤ tn - 1 := hb4_
          refine wi_a1 hc rfl rfl ?_
          refine wi_i1 hc rfl rfl ?_
          refine wi_ic hc rfl ?_
          refine wi_add hc rfl ?_
          refine wi_ic hc rfl ?_
          refine wi_bi hc rfl rfl ?_
          obtain ⟨f5_, y5_, hy5_⟩ : ∃ f y, rcFig k nm 0 9 (rpNx (rpNx (rpNx (rpNx z)))) = (f, y) := ⟨_, _, rfl⟩
          obtain ⟨s5_, hE5_, hC5_, hN5_⟩ := nu_60 (d := 0) (L := L) (l := l) (G := G) hkt hGC (by decide) hM4_ ⟨by show 0 ≤ (((z.1 + 1) + 1) + 1) + 1; omega, by show (((z.1 + 1) + 1) + 1) + 1 + 1 ≤ tn; omega⟩ (fun e => absurd e (by decide)) (ix := (3 * i) + 2) ⟨by omega, by omega⟩ (lo := 0) ⟨by decide, by decide⟩ (hi := 9) ⟨by decide, by decide⟩ (fun e => absurd e (by decide)) ((rcF_n (by decide)).trans hy5_)
          refine wp_cv (b := 580) (As := [.int (iI ((3 * i) + 2)), .int (iI 0), .int (iI 9)]) (r := []) hc rfl (by rw [cm_60]; rfl) rfl (Nat.le_of_ble_eq_true rfl) (show 580 < 621 by decide) (by rw [cm_60]; rfl) (ev_mono hE5_ (by omega)) ?_
          have hF5q : CNf t (3 * i) s s5_ := hF4q.tr hC5_.2.2 (by omega)
          show mm_wp _ _ (201, [some (.ref 580), some (.int (iI i)), some (.int (iI (3 * i)))], [.int (iI (bI (f5_ = 0)))], MX L t s5_ l) _
          refine wi_b01 hc rfl rfl rfl rfl (bI_01 _) ?_
          refine wi_rb hc rfl (by rw [cm_59]; rfl) ?_
          have hr9 : r = (f5_, y5_) := by
            rw [← hr, rcNum, if_neg (by decide), if_neg (by decide), if_neg (by decide), if_neg (by decide), if_neg (by decide), if_neg (by decide), if_pos (by decide)]
            rw [hy1_]
            rw [rpB_z]
            rw [hy2_]
            rw [rpB_z]
            rw [hy3_]
            rw [rpB_z]
            rw [hy4_]
            rw [rpB_z]
            exact hy5_
          subst hr9
          refine ⟨s5_, rfl, ⟨hC5_.1, hC5_.2.1, hF5q.g⟩, fun e => ?_⟩
          exact ⟨(hC5_.2.2.2.2.2 _ (by omega)).trans (((hC4_.2.2.2.2.2 _ (by omega)).trans (((hC3_.2.2.2.2.2 _ (by omega)).trans (((hC2_.2.2.2.2.2 _ (by omega)).trans (hN1_))))))), (by rw [show z.1 + 2 = z.1 + 1 + 1 by omega]; exact (hC5_.2.2.2.2.2 _ (by omega)).trans (((hC4_.2.2.2.2.2 _ (by omega)).trans (hN3_)))), (by rw [show z.1 + 4 = z.1 + 1 + 1 + 1 + 1 by omega]; exact hN5_ e), hF5q.2.2.1 7⟩
theorem nb_59_8 {d L t : Nat} {s l : Nat → Int → Int} (hkt : KT L t t) {kd k pl nm : Int → Int} {tn : Int} (hGC : GTC kd k pl nm tn) {z : rpS} {op : Int} (h : CSt kd pl nm tn t 5 s z op) (hg : 0 ≤ z.1 ∧ z.1 + 1 ≤ tn) {G : Int → Int} (hCH : CH t s G) {i : Int} (hi : 0 ≤ i ∧ i < 24) {r : rpR} (hr : rcNum k nm G 8 z = r) : ∃ s1, mm_Ev mm_ct mm_CM (d + 3) 59 [.ref 580, .int (iI i)] (MX L t s l) (some (.int (iI (bI (r.1 = 0)))), MX L t s1 l) ∧ ((r.1 = 0 → CSt kd pl nm tn t 5 s1 r.2 op) ∧ (r.1 ≠ 0 → s1 580 8 = r.1 ∧ s1 580 9 = plA pl tn r.2.1) ∧ CNg t (3 * i) s s1) ∧ (r.1 = 0 → s1 t 7 = s t 7) := by
  have hc : (mm_CM 59).2.2.2.2.2.2.2 = mm_cf cd_59 := by rw [cm_59]; rfl
  refine ev_xs ?_
  refine ev_to (mx := 3) (by rw [cm_59]; decide) (by rw [cm_59]; rfl) (by show 2 ≤ _; decide) ?_
  show mm_wp _ _ (0, [some (.ref 580), some (.int (iI i)), none], [], MX L t s l) (fun res => ∃ s1, res = (some (.int (iI (bI (r.1 = 0)))), MX L t s1 l) ∧ ((r.1 = 0 → CSt kd pl nm tn t 5 s1 r.2 op) ∧ (r.1 ≠ 0 → s1 580 8 = r.1 ∧ s1 580 9 = plA pl tn r.2.1) ∧ CNg t (3 * i) s s1) ∧ (r.1 = 0 → s1 t 7 = s t 7))
  obtain ⟨hk, hk43, hkr, htn⟩ := id hGC
  have ht6 := hkt.1
  have h582 := (kt_l2 hkt).1
  have hl9 := kt_lo hkt
  have hrf9 : CNf t (3 * i) s s := CNf.rf
  refine wi_ic hc rfl ?_
  refine wi_i1 hc rfl rfl ?_
  refine wi_mul hc rfl ?_
  refine wi_is1 (L' := [some (.ref 580), some (.int (iI i)), some (.int (iI (3 * i)))]) hc rfl (Nat.le_of_ble_eq_true rfl) rfl ?_
  refine wi_a1 hc rfl rfl ?_
  refine wi_gfv (kz := 6) rfl hc rfl rfl (by decide) (Nat.le_of_ble_eq_true rfl) rfl (v := 5) (CSt.rw9 h) ?_
  refine wi_sw hc rfl ⟨by decide, by decide⟩ ?_
  show mm_wp _ _ (210, [some (.ref 580), some (.int (iI i)), some (.int (iI (3 * i)))], [], MX L t s l) _
  refine wi_ic hc rfl ?_
  refine wi_r1 hc rfl (by rw [cm_59]; rfl) ?_
  have hr9 : r = (0, z) := by
    rw [← hr, rcNum, if_neg (by decide), if_neg (by decide), if_neg (by decide), if_neg (by decide), if_neg (by decide), if_neg (by decide), if_neg (by decide)]
  subst hr9
  exact ⟨s, by rw [bI_t (p := ((0, z) : rpR).1 = 0) rfl], ⟨fun _ => h, fun e => absurd rfl e, hrf9.g⟩, fun _ => hrf9.2.2.1 7⟩
theorem nb_59_9 {d L t : Nat} {s l : Nat → Int → Int} (hkt : KT L t t) {kd k pl nm : Int → Int} {tn : Int} (hGC : GTC kd k pl nm tn) {z : rpS} {op : Int} (h : CSt kd pl nm tn t 23 s z op) (hg : 0 ≤ z.1 ∧ z.1 + 1 ≤ tn) {G : Int → Int} (hCH : CH t s G) {i : Int} (hi : 0 ≤ i ∧ i < 24) {r : rpR} (hr : rcNum k nm G 9 z = r) : ∃ s1, mm_Ev mm_ct mm_CM (d + 3) 59 [.ref 580, .int (iI i)] (MX L t s l) (some (.int (iI (bI (r.1 = 0)))), MX L t s1 l) ∧ ((r.1 = 0 → CSt kd pl nm tn t 23 s1 r.2 op) ∧ (r.1 ≠ 0 → s1 580 8 = r.1 ∧ s1 580 9 = plA pl tn r.2.1) ∧ CNg t (3 * i) s s1) ∧ (r.1 = 0 → s1 t 7 = s t 7) := by
  have hc : (mm_CM 59).2.2.2.2.2.2.2 = mm_cf cd_59 := by rw [cm_59]; rfl
  refine ev_xs ?_
  refine ev_to (mx := 3) (by rw [cm_59]; decide) (by rw [cm_59]; rfl) (by show 2 ≤ _; decide) ?_
  show mm_wp _ _ (0, [some (.ref 580), some (.int (iI i)), none], [], MX L t s l) (fun res => ∃ s1, res = (some (.int (iI (bI (r.1 = 0)))), MX L t s1 l) ∧ ((r.1 = 0 → CSt kd pl nm tn t 23 s1 r.2 op) ∧ (r.1 ≠ 0 → s1 580 8 = r.1 ∧ s1 580 9 = plA pl tn r.2.1) ∧ CNg t (3 * i) s s1) ∧ (r.1 = 0 → s1 t 7 = s t 7))
  obtain ⟨hk, hk43, hkr, htn⟩ := id hGC
  have ht6 := hkt.1
  have h582 := (kt_l2 hkt).1
  have hl9 := kt_lo hkt
  have hrf9 : CNf t (3 * i) s s := CNf.rf
  refine wi_ic hc rfl ?_
  refine wi_i1 hc rfl rfl ?_
  refine wi_mul hc rfl ?_
  refine wi_is1 (L' := [some (.ref 580), some (.int (iI i)), some (.int (iI (3 * i)))]) hc rfl (Nat.le_of_ble_eq_true rfl) rfl ?_
  refine wi_a1 hc rfl rfl ?_
  refine wi_gfv (kz := 6) rfl hc rfl rfl (by decide) (Nat.le_of_ble_eq_true rfl) rfl (v := 23) (CSt.rw9 h) ?_
  refine wi_sw hc rfl ⟨by decide, by decide⟩ ?_
  show mm_wp _ _ (210, [some (.ref 580), some (.int (iI i)), some (.int (iI (3 * i)))], [], MX L t s l) _
  refine wi_ic hc rfl ?_
  refine wi_r1 hc rfl (by rw [cm_59]; rfl) ?_
  have hr9 : r = (0, z) := by
    rw [← hr, rcNum, if_neg (by decide), if_neg (by decide), if_neg (by decide), if_neg (by decide), if_neg (by decide), if_neg (by decide), if_neg (by decide)]
  subst hr9
  exact ⟨s, by rw [bI_t (p := ((0, z) : rpR).1 = 0) rfl], ⟨fun _ => h, fun e => absurd rfl e, hrf9.g⟩, fun _ => hrf9.2.2.1 7⟩
