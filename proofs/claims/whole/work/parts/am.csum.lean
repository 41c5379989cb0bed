/-! The class's sums and asks. -/
def RF (s : Nat → Int → Int) (kd pl nm : Int → Int) (tn : Int) : Prop := RD s kd pl nm tn ∧ s 580 8 = 0 ∧ s 580 9 = -1
theorem RF.of {s s1 : Nat → Int → Int} {kd pl nm : Int → Int} {tn : Int} (h : RF s kd pl nm tn) (e : ∀ j, (j = 3 ∨ j = 8 ∨ j = 9) → s1 580 j = s 580 j) (e1 : s1 581 = s 581) (e2 : s1 582 = s 582) (e3 : s1 583 = s 583) : RF s1 kd pl nm tn := ⟨h.1.of (e 3 (by decide)) e1 e2 e3, (e 8 (by decide)).trans h.2.1, (e 9 (by decide)).trans h.2.2⟩
def CSt (kd pl nm : Int → Int) (tn : Int) (t : Nat) (W : Int) (s : Nat → Int → Int) (z : rpS) (op : Int) : Prop := RF s kd pl nm tn ∧ s 580 4 = z.1 ∧ s 580 7 = op ∧ s 580 6 = W ∧ s t 6 = z.2.2 ∧ ∀ j, 0 ≤ j → j < z.2.2 → s (t + 3) j = z.2.1 j
def CFR (t : Nat) (c : Int) (s s1 : Nat → Int → Int) : Prop := (∀ q, q ≠ 580 → q ≠ t → q ≠ t + 3 → s1 q = s q) ∧ (∀ j, j ≠ 4 → ¬ (7 ≤ j ∧ j ≤ 9) → s1 580 j = s 580 j) ∧ (∀ j, j ≠ 6 → s1 t j = s t j) ∧ ∀ j, j < c → s1 (t + 3) j = s (t + 3) j
def rpG (tn : Int) (z : rpS) : Prop := 0 ≤ z.1 ∧ z.1 + 1 ≤ tn ∧ 0 ≤ z.2.2 ∧ z.2.2 ≤ z.1
/-- what a piece of reading comes to -/
def CRs (kd pl nm : Int → Int) (tn : Int) (t : Nat) (W : Int) (s s1 : Nat → Int → Int) (r : rpR) (op c : Int) : Prop := (r.1 = 0 → CSt kd pl nm tn t W s1 r.2 op) ∧ (r.1 ≠ 0 → s1 580 8 = r.1 ∧ s1 580 9 = plA pl tn r.2.1) ∧ CFR t c s s1
section CSP
variable {kd pl nm : Int → Int} {tn : Int} {L t : Nat} {W : Int} {s s1 s2 : Nat → Int → Int} {z z' : rpS} {op v c c' : Int}
theorem kt_lo (hkt : KT L t t) : t ≠ 580 ∧ t + 3 ≠ 580 ∧ ¬ (581 ≤ t ∧ t ≤ 583) ∧ ¬ (581 ≤ t + 3 ∧ t + 3 ≤ 583) := by
  obtain ⟨-, h, -, -, h3, -⟩ := hkt
  have key : ∀ q, (q = 580 ∨ q = 581 ∨ q = 582 ∨ q = 583) → mm_SH L t q ≠ (6, 8, [t + 4, t + 5, t + 6, t + 7, t + 8, 0, 0, 0]) ∧ mm_SH L t q ≠ (100, 300, []) := by
    intro q hq
    rcases hq with e | e | e | e <;> subst e
    · exact ⟨fun e => absurd (congrArg Prod.fst e) (by show (4 : Nat) ≠ 6; decide), fun e => absurd (congrArg Prod.fst e) (by show (4 : Nat) ≠ 100; decide)⟩
    · exact ⟨fun e => absurd (congrArg Prod.fst e) (by show (100 : Nat) ≠ 6; decide), fun e => absurd (congrArg (fun q => q.2.1) e) (by show (301 : Nat) ≠ 300; decide)⟩
    · exact ⟨fun e => absurd (congrArg Prod.fst e) (by show (100 : Nat) ≠ 6; decide), fun e => absurd (congrArg (fun q => q.2.1) e) (by show (301 : Nat) ≠ 300; decide)⟩
    · exact ⟨fun e => absurd (congrArg Prod.fst e) (by show (100 : Nat) ≠ 6; decide), fun e => absurd (congrArg (fun q => q.2.1) e) (by show (301 : Nat) ≠ 300; decide)⟩
  refine ⟨fun e => (key t (Or.inl e)).1 h, fun e => (key (t + 3) (Or.inl e)).2 h3, fun e => (key t (by omega)).1 h, fun e => (key (t + 3) (by omega)).2 h3⟩
theorem CSt.rR (h : CSt kd pl nm tn t W s z op) : RD s kd pl nm tn := h.1.1
theorem CSt.ra (h : CSt kd pl nm tn t W s z op) : s 580 4 = z.1 := h.2.1
theorem CSt.ro (h : CSt kd pl nm tn t W s z op) : s 580 7 = op := h.2.2.1
theorem CSt.rw9 (h : CSt kd pl nm tn t W s z op) : s 580 6 = W := h.2.2.2.1
theorem CSt.rc (h : CSt kd pl nm tn t W s z op) : s t 6 = z.2.2 := h.2.2.2.2.1
theorem CFR.rf : CFR t c s s := ⟨fun _ _ _ _ => rfl, fun _ _ _ => rfl, fun _ _ => rfl, fun _ _ => rfl⟩
theorem CFR.tr (h : CFR t c s s1) (g : CFR t c' s1 s2) (hc : c ≤ c') : CFR t c s s2 := ⟨fun q a1 a2 a3 => (g.1 q a1 a2 a3).trans (h.1 q a1 a2 a3), fun j a1 a2 => (g.2.1 j a1 a2).trans (h.2.1 j a1 a2), fun j a => (g.2.2.1 j a).trans (h.2.2.1 j a), fun j a => (g.2.2.2 j (by omega)).trans (h.2.2.2 j a)⟩
theorem CFR.lo (h : CFR t c s s1) (hc : c' ≤ c) : CFR t c' s s1 := ⟨h.1, h.2.1, h.2.2.1, fun j a => h.2.2.2 j (by omega)⟩
theorem CFR.u (hkt : KT L t t) {q : Int} (hq : q = 4 ∨ q = 7) : CFR t c s (up s 580 q v) := ⟨fun e a1 a2 a3 => up_cc a1, fun e a1 a2 => up_k (by omega), fun j a => up_c (kt_lo hkt).1, fun j a => up_c (kt_lo hkt).2.1⟩
theorem CFR.fl (hkt : KT L t t) {n p9 : Int} (f1 : ∀ q, q ≠ 580 → s1 q = s q) (f2 : ∀ j, s1 580 j = if j = 9 then p9 else if j = 8 then n else s 580 j) : CFR t c s s1 := ⟨fun q a1 a2 a3 => f1 q a1, fun j a1 a2 => by rw [f2, if_neg (by omega), if_neg (by omega)], fun j a => by rw [f1 t (kt_lo hkt).1], fun j a => by rw [f1 (t + 3) (kt_lo hkt).2.1]⟩
theorem CSt.nx0 (hkt : KT L t t) (h : CSt kd pl nm tn t W s z op) (hv : v = z.1 + 1) : CSt kd pl nm tn t W (up s 580 4 v) (rpNx z) op := by
  obtain ⟨h1, h2, h3, h4, h5, h6⟩ := h
  refine ⟨h1.of (fun j hj => up_k (by omega)) (up_cc (by decide)) (up_cc (by decide)) (up_cc (by decide)), up_at.trans hv, (up_k (by decide)).trans h3, (up_k (by decide)).trans h4, (up_c (kt_lo hkt).1).trans h5, fun j j0 j1 => (up_c (kt_lo hkt).2.1).trans (h6 j j0 j1)⟩
theorem CSt.so0 (hkt : KT L t t) (h : CSt kd pl nm tn t W s z op) : CSt kd pl nm tn t W (up s 580 7 v) z v := by
  obtain ⟨h1, h2, h3, h4, h5, h6⟩ := h
  refine ⟨h1.of (fun j hj => up_k (by omega)) (up_cc (by decide)) (up_cc (by decide)) (up_cc (by decide)), (up_k (by decide)).trans h2, up_at, (up_k (by decide)).trans h4, (up_c (kt_lo hkt).1).trans h5, fun j j0 j1 => (up_c (kt_lo hkt).2.1).trans (h6 j j0 j1)⟩
/-- a code added -/
theorem CSt.ad {x : Int} (hkt : KT L t t) (h : CSt kd pl nm tn t W s z op) (hcc : c ≤ z.2.2) (f1 : ∀ q, q ≠ t ∧ q ≠ t + 3 → s1 q = s q) (f2 : ∀ j, s1 t j = if j = 6 then z.2.2 + 1 else s t j) (f3 : ∀ j, s1 (t + 3) j = if j = z.2.2 then x else s (t + 3) j) : CSt kd pl nm tn t W s1 (rpPut x z) op ∧ CFR t c s s1 := by
  obtain ⟨h1, h2, h3, h4, h5, h6⟩ := h
  have hl := kt_lo hkt
  have e580 : s1 580 = s 580 := f1 580 ⟨fun e => hl.1 e.symm, fun e => hl.2.1 e.symm⟩
  refine ⟨⟨h1.of (fun j hj => by rw [e580]) (f1 581 ⟨by omega, by omega⟩) (f1 582 ⟨by omega, by omega⟩) (f1 583 ⟨by omega, by omega⟩), by rw [e580]; exact h2, by rw [e580]; exact h3, by rw [e580]; exact h4, by rw [f2, if_pos rfl]; rfl, fun j j0 j1 => ?_⟩, fun q a1 a2 a3 => f1 q ⟨a2, a3⟩, fun j a1 a2 => by rw [e580], fun j a => by rw [f2, if_neg a], fun j a => by rw [f3, if_neg (by omega)]⟩
  have j1 : j < z.2.2 + 1 := j1
  show s1 (t + 3) j = if j = z.2.2 then x else z.2.1 j
  by_cases q : j = z.2.2
  · rw [f3, if_pos q, if_pos q]
  · rw [f3, if_neg q, if_neg q]; exact h6 j j0 (by omega)
theorem CRs.ok {y : rpS} (h : CSt kd pl nm tn t W s1 y op) (g : CFR t c s s1) : CRs kd pl nm tn t W s s1 (0, y) op c := ⟨fun _ => h, fun e => absurd rfl e, g⟩
theorem CRs.no {f : Int} {y : rpS} (hf : f ≠ 0) (h1 : s1 580 8 = f) (h2 : s1 580 9 = plA pl tn y.1) (g : CFR t c s s1) : CRs kd pl nm tn t W s s1 (f, y) op c := ⟨fun e => absurd e hf, fun _ => ⟨h1, h2⟩, g⟩
end CSP
theorem sp_83 {d L t : Nat} {s l : Nat → Int → Int} (hkt : KT L t t) {c9 v : Int} (hc9 : s t 6 = c9) (hr9 : 0 ≤ c9 ∧ c9 < 300) : ∃ s1, mm_Ev mm_ct mm_CM (d + 1) 83 [.ref t, .int (iI v)] (MX L t s l) (none, MX L t s1 l) ∧ (∀ q, q ≠ t ∧ q ≠ t + 3 → s1 q = s q) ∧ (∀ j, s1 t j = if j = 6 then c9 + 1 else s t j) ∧ ∀ j, s1 (t + 3) j = if j = c9 then v else s (t + 3) j := by
  have hc : (mm_CM 83).2.2.2.2.2.2.2 = mm_cf cd_83 := by rw [cm_83]; rfl
  refine ev_xs ?_
  refine ev_to (mx := 2) (by rw [cm_83]; decide) (by rw [cm_83]; rfl) (by show 2 ≤ _; decide) ?_
  show mm_wp _ _ (0, [some (.ref t), some (.int (iI v))], [], MX L t s l) (fun res => ∃ s1, res = (none, MX L t s1 l) ∧ (∀ q, q ≠ t ∧ q ≠ t + 3 → s1 q = s q) ∧ (∀ j, s1 t j = if j = 6 then c9 + 1 else s t j) ∧ ∀ j, s1 (t + 3) j = if j = c9 then v else s (t + 3) j)
  refine wi_a1 hc rfl rfl ?_
  refine wi_gfs (kz := 6) rfl hkt.2.1 hc rfl (by have := hkt.1; omega) (by decide) rfl (v := c9) (hc9) ?_
  refine wi_si hc rfl rfl ?_
  refine wi_cge hc rfl ⟨by omega, by omega⟩ ⟨by decide, by decide⟩ (fun h1_ => (by exfalso; omega)) (fun h1_ => ?_)
  refine wi_a1 hc rfl rfl ?_
  refine wi_grs (w := t + 3) hkt.2.1 hc rfl (by have := hkt.1; omega) (by decide) rfl ?_
  refine wi_a1 hc rfl rfl ?_
  refine wi_gfs (kz := 6) rfl hkt.2.1 hc rfl (by have := hkt.1; omega) (by decide) rfl (v := c9) (hc9) ?_
  refine wi_i1 hc rfl rfl ?_
  refine wi_ist (N := 300) hc rfl hkt.2.2.2.2.1 (by have := hkt.1; omega) (by decide) (by omega) (by omega) ?_
  obtain ⟨s1_, es1_⟩ : ∃ q, q = up s (t + 3) c9 v := ⟨_, rfl⟩
  rw [← es1_]
  refine wi_a1 hc rfl rfl ?_
  refine wi_dupr hc rfl ?_
  refine wi_gfs (kz := 6) rfl hkt.2.1 hc rfl (by have := hkt.1; omega) (by decide) rfl (v := c9) (((congrFun (congrFun es1_ _) _).trans (up_c (by omega))).trans (hc9)) ?_
  refine wi_ic hc rfl ?_
  refine wi_add hc rfl ?_
  refine wi_pfs (kz := 6) rfl hkt.2.1 hc rfl (by have := hkt.1; omega) (by decide) rfl (Nat.le_of_ble_eq_true rfl) ⟨rfl, rfl⟩ rfl ?_
  obtain ⟨s2_, es2_⟩ : ∃ q, q = up s1_ t 6 (c9 + 1) := ⟨_, rfl⟩
  rw [← es2_]
  refine wi_rv hc rfl (by rw [cm_83]; rfl) ?_
  refine ⟨s2_, rfl, fun q hq => by rw [es2_, up_cc hq.1, es1_, up_cc hq.2], fun j => ?_, fun j => ?_⟩
  · by_cases e : j = 6
    · rw [if_pos e, es2_, up_e e]
    · rw [if_neg e, es2_, up_k e, es1_, up_c (by omega)]
  · rw [es2_, up_c (by omega), es1_, up_ite]
theorem ad_83 {d L t : Nat} {s l : Nat → Int → Int} {kd pl nm : Int → Int} {tn W op c : Int} {z : rpS} (hkt : KT L t t) (h : CSt kd pl nm tn t W s z op) (hr : 0 ≤ z.2.2 ∧ z.2.2 < 300) (hcc : c ≤ z.2.2) (x : Int) : ∃ s1, mm_Ev mm_ct mm_CM (d + 1) 83 [.ref t, .int (iI x)] (MX L t s l) (none, MX L t s1 l) ∧ CSt kd pl nm tn t W s1 (rpPut x z) op ∧ CFR t c s s1 := by
  obtain ⟨s1, e, f1, f2, f3⟩ := sp_83 (d := d) (L := L) (t := t) (l := l) hkt h.rc hr (v := x)
  exact ⟨s1, e, h.ad hkt hcc f1 f2 f3⟩
theorem sp_65 {d L t : Nat} {s l : Nat → Int → Int} {W x : Int} (hW : s 580 6 = W) (hw : 0 ≤ W ∧ W ≤ 44) (hx : 0 ≤ x ∧ x ≤ 44) : mm_Ev mm_ct mm_CM (d + 1) 65 [.ref 580, .int (iI x)] (MX L t s l) (some (.int (iI (bI (rpHr W x = true)))), MX L t s l) := by
  have hc : (mm_CM 65).2.2.2.2.2.2.2 = mm_cf cd_65 := by rw [cm_65]; rfl
  refine ev_of (mx := 2) (by rw [cm_65]; decide) (by rw [cm_65]; rfl) (by show 2 ≤ _; decide) ?_
  show mm_wp _ _ (0, [some (.ref 580), some (.int (iI x))], [], MX L t s l) (fun r => r = (some (.int (iI (bI (rpHr W x = true)))), MX L t s l))
  refine wi_i1 hc rfl rfl ?_
  refine wi_bi hc rfl rfl ?_
  refine wi_clt hc rfl ⟨by omega, by omega⟩ ⟨by decide, by decide⟩ (fun h1_ => ?_) (fun h1_ => ?_)
  · refine wi_i1 hc rfl rfl ?_
    refine wi_bi hc rfl rfl ?_
    refine wi_clt hc rfl ⟨by omega, by omega⟩ ⟨by decide, by decide⟩ (fun h2_ => ?_) (fun h2_ => ?_)
    · refine wi_ic hc rfl ?_
      refine wi_go hc rfl ?_
      refine wi_r1 hc rfl (by rw [cm_65]; rfl) ?_
      have hR : bI (rpHr W x = true) = 1 := by
        unfold rpHr
        by_cases g : 12 ≤ x
        · rw [if_pos g]; exact bI_t (decide_eq_true (by omega))
        · rw [if_neg g]; exact bI_t (decide_eq_true (by omega))
      rw [hR]
    · refine wi_a1 hc rfl rfl ?_
      refine wi_gfv (kz := 6) rfl hc rfl rfl (by decide) (Nat.le_of_ble_eq_true rfl) rfl (v := W) (hW) ?_
      refine wi_bi hc rfl rfl ?_
      refine wi_cne hc rfl ⟨by omega, by omega⟩ ⟨by decide, by decide⟩ (fun h3_ => ?_) (fun h3_ => ?_)
      · refine wi_ic hc rfl ?_
        refine wi_r0 hc rfl (by rw [cm_65]; rfl) ?_
        have hR : bI (rpHr W x = true) = 0 := by
          unfold rpHr
          by_cases g : 12 ≤ x
          · rw [if_pos g]; exact bI_f (fun e => by have := of_decide_eq_true e; omega)
          · rw [if_neg g]; exact bI_f (fun e => by have := of_decide_eq_true e; omega)
        rw [hR]
      · refine wi_ic hc rfl ?_
        refine wi_go hc rfl ?_
        refine wi_r1 hc rfl (by rw [cm_65]; rfl) ?_
        have hR : bI (rpHr W x = true) = 1 := by
          unfold rpHr
          by_cases g : 12 ≤ x
          · rw [if_pos g]; exact bI_t (decide_eq_true (by omega))
          · rw [if_neg g]; exact bI_t (decide_eq_true (by omega))
        rw [hR]
  · refine wi_a1 hc rfl rfl ?_
    refine wi_gfv (kz := 6) rfl hc rfl rfl (by decide) (Nat.le_of_ble_eq_true rfl) rfl (v := W) (hW) ?_
    refine wi_bi hc rfl rfl ?_
    refine wi_cne hc rfl ⟨by omega, by omega⟩ ⟨by decide, by decide⟩ (fun h4_ => ?_) (fun h4_ => ?_)
    · refine wi_ic hc rfl ?_
      refine wi_r0 hc rfl (by rw [cm_65]; rfl) ?_
      have hR : bI (rpHr W x = true) = 0 := by
        unfold rpHr
        by_cases g : 12 ≤ x
        · rw [if_pos g]; exact bI_f (fun e => by have := of_decide_eq_true e; omega)
        · rw [if_neg g]; exact bI_f (fun e => by have := of_decide_eq_true e; omega)
      rw [hR]
    · refine wi_ic hc rfl ?_
      refine wi_go hc rfl ?_
      refine wi_r1 hc rfl (by rw [cm_65]; rfl) ?_
      have hR : bI (rpHr W x = true) = 1 := by
        unfold rpHr
        by_cases g : 12 ≤ x
        · rw [if_pos g]; exact bI_t (decide_eq_true (by omega))
        · rw [if_neg g]; exact bI_t (decide_eq_true (by omega))
      rw [hR]
/-- what is known of the tokens on the class's side -/
def GTC (kd k pl nm : Int → Int) (tn : Int) : Prop := k = kdA kd tn ∧ (∀ a, tn - 1 ≤ a → k a = 43) ∧ (∀ a, 0 ≤ k a ∧ k a ≤ 44) ∧ tn ≤ 301
def cOne (L t : Nat) (kd k pl nm : Int → Int) (tn W : Int) (m : Nat) : Prop := ∀ (s l : Nat → Int → Int) (z : rpS), CSt kd pl nm tn t W s z (8 - m) → ∀ r : rpR, rpOne k nm W m z = r → rpG tn z → ∀ c, c ≤ z.2.2 → ∃ s1, mm_Ev mm_ct mm_CM (2 * m + 5) 64 [.ref 580] (MX L t s l) (some (.int (iI (bI (r.1 = 0)))), MX L t s1 l) ∧ CRs kd pl nm tn t W s s1 r (8 - m) c
def cSum (L t : Nat) (kd k pl nm : Int → Int) (tn W : Int) (m : Nat) : Prop := ∀ (s l : Nat → Int → Int) (z : rpS), CSt kd pl nm tn t W s z (8 - m) → ∀ r : rpR, rpSum k (rpOne k nm W m) z = r → rpG tn z → ∀ c, c ≤ z.2.2 → ∃ s1, mm_Ev mm_ct mm_CM (2 * m + 6) 63 [.ref 580] (MX L t s l) (some (.int (iI (bI (r.1 = 0)))), MX L t s1 l) ∧ CRs kd pl nm tn t W s s1 r (8 - m) c
theorem on_64z {D L t : Nat} {s l : Nat → Int → Int} (hD : 4 ≤ D) (hkt : KT L t t) {kd k pl nm : Int → Int} {tn W : Int} (hGC : GTC kd k pl nm tn) (hW0 : 0 ≤ W ∧ W ≤ 44) {z : rpS} (h : CSt kd pl nm tn t W s z 8) {r : rpR} (hr : rpOne k nm W 0 z = r) (hg : rpG tn z) {c : Int} (hcc : c ≤ z.2.2) : ∃ s1, mm_Ev mm_ct mm_CM (D + 1) 64 [.ref 580] (MX L t s l) (some (.int (iI (bI (r.1 = 0)))), MX L t s1 l) ∧ CRs kd pl nm tn t W s s1 r 8 c := by
  have hc : (mm_CM 64).2.2.2.2.2.2.2 = mm_cf cd_64 := by rw [cm_64]; rfl
  refine ev_xs ?_
  refine ev_to (mx := 2) (by rw [cm_64]; decide) (by rw [cm_64]; rfl) (by show 1 ≤ _; decide) ?_
  show mm_wp _ _ (0, [some (.ref 580), none], [], MX L t s l) (fun res => ∃ s1, res = (some (.int (iI (bI (r.1 = 0)))), MX L t s1 l) ∧ CRs kd pl nm tn t W s s1 r 8 c)
  obtain ⟨hk, hk43, hkr, htn⟩ := id hGC
  have hg9 := hg
  obtain ⟨hg0, hg1, hg2, hg3⟩ := hg9
  have ht6 := hkt.1
  have hnm9 := ((CSt.rR h).2.2 z.1 hg0 (by omega)).2.2.2.2.2
  refine wi_a1 hc rfl rfl ?_
  have hk1_ : mm_Ev mm_ct mm_CM (0 + 1) 53 [.ref 580] (MX L t s l) (some (.int (iI (k z.1))), MX L t s l) := by rw [hk]; exact sp_53 (d := 0) (CSt.rR h) (by have q := CSt.ra h; exact q : s 580 4 = z.1) ⟨by omega, by omega⟩
  have hkr1_ := hkr z.1
  refine wp_cv (b := 580) (As := []) (r := []) hc rfl (by rw [cm_53]; rfl) rfl (Nat.le_of_ble_eq_true rfl) (show 580 < 621 by decide) (by rw [cm_53]; rfl) (ev_mono hk1_ (by omega)) ?_
  show mm_wp _ _ (4, [some (.ref 580), none], [.int (iI (k z.1))], MX L t s l) _
  refine wi_is1 (L' := [some (.ref 580), some (.int (iI (k z.1)))]) hc rfl (Nat.le_of_ble_eq_true rfl) rfl ?_
  refine wi_i1 hc rfl rfl ?_
  refine wi_bi hc rfl rfl ?_
  refine wi_ceq hc rfl ⟨by omega, by omega⟩ ⟨by decide, by decide⟩ (fun h1_ => ?_) (fun h1_ => ?_)
  · skip
    refine wi_i1 hc rfl rfl ?_
    refine wi_bi hc rfl rfl ?_
    refine wi_cne hc rfl ⟨by omega, by omega⟩ ⟨by decide, by decide⟩ (fun h2_ => (by exfalso; omega)) (fun h2_ => ?_)
    have hnx9 : z.1 + 1 < tn := by
      rcases (by omega : z.1 + 1 < tn ∨ tn - 1 ≤ z.1) with g | g
      · exact g
      · exfalso; have := hk43 z.1 g; omega
    refine wi_a1 hc rfl rfl ?_
    refine wi_gr (w := 583) hc rfl rfl (by decide) (Nat.le_of_ble_eq_true rfl) rfl ?_
    refine wi_a1 hc rfl rfl ?_
    refine wi_gfv (kz := 4) rfl hc rfl rfl (by decide) (Nat.le_of_ble_eq_true rfl) rfl (v := z.1) ((by have q := CSt.ra h; exact q : s 580 4 = z.1)) ?_
    refine wi_ildv (N := 301) hc rfl rfl (by decide) (by decide) (by omega) (by omega) (v := nm z.1) (((CSt.rR h).2.2 _ (by omega) (by omega)).2.2.1) ?_
    refine wi_si hc rfl rfl ?_
    refine wi_cle hc rfl ⟨by omega, by omega⟩ ⟨by decide, by decide⟩ (fun h3_ => ?_) (fun h3_ => ?_)
    · refine wi_i1 hc rfl rfl ?_
      refine wi_bi hc rfl rfl ?_
      refine wi_ceq hc rfl ⟨by omega, by omega⟩ ⟨by decide, by decide⟩ (fun h4_ => ?_) (fun h4_ => (by exfalso; omega))
      refine wi_a1 hc rfl rfl ?_
      refine wi_gr (w := t) hc rfl rfl (by decide) (Nat.le_of_ble_eq_true rfl) rfl ?_
      refine wi_i1 hc rfl rfl ?_
      refine wi_bi hc rfl rfl ?_
      refine wi_cne hc rfl ⟨by omega, by omega⟩ ⟨by decide, by decide⟩ (fun h5_ => (by exfalso; omega)) (fun h5_ => ?_)
      refine wi_a1 hc rfl rfl ?_
      refine wi_gr (w := 583) hc rfl rfl (by decide) (Nat.le_of_ble_eq_true rfl) rfl ?_
      refine wi_a1 hc rfl rfl ?_
      refine wi_gfv (kz := 4) rfl hc rfl rfl (by decide) (Nat.le_of_ble_eq_true rfl) rfl (v := z.1) ((by have q := CSt.ra h; exact q : s 580 4 = z.1)) ?_
      refine wi_ildv (N := 301) hc rfl rfl (by decide) (by decide) (by omega) (by omega) (v := nm z.1) (((CSt.rR h).2.2 _ (by omega) (by omega)).2.2.1) ?_
      refine wi_go hc rfl ?_
      obtain ⟨s2_, hE2_, hM2_, hF2_⟩ := ad_83 (d := 0) (L := L) (l := l) (c := c) hkt h (show 0 ≤ z.2.2 ∧ z.2.2 < 300 by omega) (show c ≤ z.2.2 by omega) (nm z.1)
      refine wp_cv (b := t) (As := [.int (iI (nm z.1))]) (r := []) hc rfl (by rw [cm_83]; rfl) rfl (Nat.le_of_ble_eq_true rfl) (show t < 621 by omega) (by rw [cm_83]; exact congrArg Prod.fst hkt.2.1) (ev_mono hE2_ (by omega)) ?_
      have hF2q : CFR t c s s2_ := CFR.rf.tr hF2_ (Int.le_refl c)
      show mm_wp _ _ (94, [some (.ref 580), some (.int (iI (k z.1)))], [], MX L t s2_ l) _
      refine wi_a1 hc rfl rfl ?_
      refine wi_dupr hc rfl ?_
      refine wi_gfv (kz := 4) rfl hc rfl rfl (by decide) (Nat.le_of_ble_eq_true rfl) rfl (v := z.1) ((by have q := CSt.ra hM2_; exact q : s2_ 580 4 = z.1)) ?_
      refine wi_ic hc rfl ?_
      refine wi_add hc rfl ?_
      refine wi_pf (kz := 4) rfl hc rfl rfl (by decide) (Nat.le_of_ble_eq_true rfl) rfl (Nat.le_of_ble_eq_true rfl) ⟨rfl, rfl⟩ rfl ?_
      obtain ⟨s3_, es3_⟩ : ∃ q, q = up s2_ 580 4 (z.1 + 1) := ⟨_, rfl⟩
      rw [← es3_]
      have hMs3_ : CSt kd pl nm tn t W s3_ (rpNx (rpPut (nm z.1) z)) 8 := by rw [es3_]; exact CSt.nx0 hkt hM2_ rfl
      have hFs3_ : CFR t c s s3_ := hF2q.tr (by rw [es3_]; exact CFR.u hkt (by decide)) (Int.le_refl c)
      refine wi_ic hc rfl ?_
      refine wi_r1 hc rfl (by rw [cm_64]; rfl) ?_
      have hr9 : r = (0, rpPut (nm z.1) (rpNx z)) := by
        rw [← hr, rpOne, if_pos (by omega), if_neg (by omega)]
      subst hr9
      exact ⟨s3_, by rw [bI_t (p := ((0, rpPut (nm z.1) (rpNx z)) : rpR).1 = 0) rfl], CRs.ok hMs3_ hFs3_⟩
    · refine wi_a1 hc rfl rfl ?_
      refine wi_ic hc rfl ?_
      obtain ⟨s4_, hE4_, hX4_, hY4_⟩ := sp_54 (d := 0) (L := L) (t := t) (l := l) (CSt.rR h) (by have q := CSt.ra h; exact q : s 580 4 = z.1) ⟨by omega, by omega⟩ (n := 2) ⟨by decide, by decide⟩
      refine wp_cv (b := 580) (As := [.int (iI 2)]) (r := []) hc rfl (by rw [cm_54]; rfl) rfl (Nat.le_of_ble_eq_true rfl) (show 580 < 621 by decide) (by rw [cm_54]; rfl) (ev_mono hE4_ (by omega)) ?_
      have hF4q : CFR t c s s4_ := CFR.rf.tr (CFR.fl hkt hX4_ hY4_) (Int.le_refl c)
      show mm_wp _ _ (43, [some (.ref 580), some (.int (iI (k z.1)))], [.int (iI 0)], MX L t s4_ l) _
      refine wi_r0 hc rfl (by rw [cm_64]; rfl) ?_
      have hr9 : r = (2, z) := by
        rw [← hr, rpOne, if_pos (by omega), if_pos (by omega)]
      subst hr9
      exact ⟨s4_, by rw [bI_f (p := ((2, z) : rpR).1 = 0) (by show ¬ (2 : Int) = 0; decide)], CRs.no (by decide) ((hY4_ 8).trans (by rw [if_neg (by decide), if_pos rfl])) ((hY4_ 9).trans (if_pos rfl)) hF4q⟩
  · refine wi_i1 hc rfl rfl ?_
    refine wi_bi hc rfl rfl ?_
    refine wi_cge hc rfl ⟨by omega, by omega⟩ ⟨by decide, by decide⟩ (fun h6_ => ?_) (fun h6_ => ?_)
    · refine wi_i1 hc rfl rfl ?_
      refine wi_bi hc rfl rfl ?_
      refine wi_ceq hc rfl ⟨by omega, by omega⟩ ⟨by decide, by decide⟩ (fun h7_ => ?_) (fun h7_ => ?_)
      · refine wi_a1 hc rfl rfl ?_
        refine wi_gfv (kz := 7) rfl hc rfl rfl (by decide) (Nat.le_of_ble_eq_true rfl) rfl (v := 8) (CSt.ro h) ?_
        refine wi_bi hc rfl rfl ?_
        refine wi_clt hc rfl ⟨by decide, by decide⟩ ⟨by decide, by decide⟩ (fun q => absurd q (by decide)) (fun _ => ?_)
        refine wi_a1 hc rfl rfl ?_
        refine wi_ic hc rfl ?_
        obtain ⟨s5_, hE5_, hX5_, hY5_⟩ := sp_54 (d := 0) (L := L) (t := t) (l := l) (CSt.rR h) (by have q := CSt.ra h; exact q : s 580 4 = z.1) ⟨by omega, by omega⟩ (n := 3) ⟨by decide, by decide⟩
        refine wp_cv (b := 580) (As := [.int (iI 3)]) (r := []) hc rfl (by rw [cm_54]; rfl) rfl (Nat.le_of_ble_eq_true rfl) (show 580 < 621 by decide) (by rw [cm_54]; rfl) (ev_mono hE5_ (by omega)) ?_
        have hF5q : CFR t c s s5_ := CFR.rf.tr (CFR.fl hkt hX5_ hY5_) (Int.le_refl c)
        show mm_wp _ _ (138, [some (.ref 580), some (.int (iI (k z.1)))], [.int (iI 0)], MX L t s5_ l) _
        refine wi_r0 hc rfl (by rw [cm_64]; rfl) ?_
        have hr9 : r = (3, z) := by
          rw [← hr, rpOne, if_neg (by omega), if_neg (by omega), if_pos (by omega)]
        subst hr9
        exact ⟨s5_, by rw [bI_f (p := ((3, z) : rpR).1 = 0) (by show ¬ (3 : Int) = 0; decide)], CRs.no (by decide) ((hY5_ 8).trans (by rw [if_neg (by decide), if_pos rfl])) ((hY5_ 9).trans (if_pos rfl)) hF5q⟩
      · refine wi_i1 hc rfl rfl ?_
        refine wi_bi hc rfl rfl ?_
        refine wi_ceq hc rfl ⟨by omega, by omega⟩ ⟨by decide, by decide⟩ (fun h9_ => ?_) (fun h9_ => ?_)
        · refine wi_a1 hc rfl rfl ?_
          refine wi_gfv (kz := 7) rfl hc rfl rfl (by decide) (Nat.le_of_ble_eq_true rfl) rfl (v := 8) (CSt.ro h) ?_
          refine wi_bi hc rfl rfl ?_
          refine wi_clt hc rfl ⟨by decide, by decide⟩ ⟨by decide, by decide⟩ (fun q => absurd q (by decide)) (fun _ => ?_)
          refine wi_a1 hc rfl rfl ?_
          refine wi_ic hc rfl ?_
          obtain ⟨s6_, hE6_, hX6_, hY6_⟩ := sp_54 (d := 0) (L := L) (t := t) (l := l) (CSt.rR h) (by have q := CSt.ra h; exact q : s 580 4 = z.1) ⟨by omega, by omega⟩ (n := 3) ⟨by decide, by decide⟩
          refine wp_cv (b := 580) (As := [.int (iI 3)]) (r := []) hc rfl (by rw [cm_54]; rfl) rfl (Nat.le_of_ble_eq_true rfl) (show 580 < 621 by decide) (by rw [cm_54]; rfl) (ev_mono hE6_ (by omega)) ?_
          have hF6q : CFR t c s s6_ := CFR.rf.tr (CFR.fl hkt hX6_ hY6_) (Int.le_refl c)
          show mm_wp _ _ (138, [some (.ref 580), some (.int (iI (k z.1)))], [.int (iI 0)], MX L t s6_ l) _
          refine wi_r0 hc rfl (by rw [cm_64]; rfl) ?_
          have hr9 : r = (3, z) := by
            rw [← hr, rpOne, if_neg (by omega), if_neg (by omega), if_pos (by omega)]
          subst hr9
          exact ⟨s6_, by rw [bI_f (p := ((3, z) : rpR).1 = 0) (by show ¬ (3 : Int) = 0; decide)], CRs.no (by decide) ((hY6_ 8).trans (by rw [if_neg (by decide), if_pos rfl])) ((hY6_ 9).trans (if_pos rfl)) hF6q⟩
        · refine wi_a1 hc rfl rfl ?_
          refine wi_ic hc rfl ?_
          obtain ⟨s7_, hE7_, hX7_, hY7_⟩ := sp_54 (d := 0) (L := L) (t := t) (l := l) (CSt.rR h) (by have q := CSt.ra h; exact q : s 580 4 = z.1) ⟨by omega, by omega⟩ (n := 1) ⟨by decide, by decide⟩
          refine wp_cv (b := 580) (As := [.int (iI 1)]) (r := []) hc rfl (by rw [cm_54]; rfl) rfl (Nat.le_of_ble_eq_true rfl) (show 580 < 621 by decide) (by rw [cm_54]; rfl) (ev_mono hE7_ (by omega)) ?_
          have hF7q : CFR t c s s7_ := CFR.rf.tr (CFR.fl hkt hX7_ hY7_) (Int.le_refl c)
          show mm_wp _ _ (123, [some (.ref 580), some (.int (iI (k z.1)))], [.int (iI 0)], MX L t s7_ l) _
          refine wi_r0 hc rfl (by rw [cm_64]; rfl) ?_
          have hr9 : r = (1, z) := by
            rw [← hr, rpOne, if_neg (by omega), if_neg (by omega), if_neg (by omega)]
          subst hr9
          exact ⟨s7_, by rw [bI_f (p := ((1, z) : rpR).1 = 0) (by show ¬ (1 : Int) = 0; decide)], CRs.no (by decide) ((hY7_ 8).trans (by rw [if_neg (by decide), if_pos rfl])) ((hY7_ 9).trans (if_pos rfl)) hF7q⟩
    · skip
      refine wi_i1 hc rfl rfl ?_
      refine wi_bi hc rfl rfl ?_
      refine wi_cne hc rfl ⟨by omega, by omega⟩ ⟨by decide, by decide⟩ (fun h11_ => ?_) (fun h11_ => (by exfalso; omega))
      refine wi_i1 hc rfl rfl ?_
      refine wi_bi hc rfl rfl ?_
      refine wi_ceq hc rfl ⟨by omega, by omega⟩ ⟨by decide, by decide⟩ (fun h12_ => (by exfalso; omega)) (fun h12_ => ?_)
      have hnx9 : z.1 + 1 < tn := by
        rcases (by omega : z.1 + 1 < tn ∨ tn - 1 ≤ z.1) with g | g
        · exact g
        · exfalso; have := hk43 z.1 g; omega
      refine wi_a1 hc rfl rfl ?_
      refine wi_i1 hc rfl rfl ?_
      refine wp_cv (b := 580) (As := [.int (iI (k z.1))]) (r := []) hc rfl (by rw [cm_65]; rfl) rfl (Nat.le_of_ble_eq_true rfl) (show 580 < 621 by decide) (by rw [cm_65]; rfl) (ev_mono (sp_65 (d := 0) (CSt.rw9 h) hW0 (x := k z.1) ⟨by omega, by omega⟩) (by omega)) ?_
      show mm_wp _ _ (55, [some (.ref 580), some (.int (iI (k z.1)))], [.int (iI (bI (rpHr W (k z.1) = true)))], MX L t s l) _
      refine wi_bne hc rfl (fun h13_ => ?_) (fun h13_ => ?_)
      · skip
        refine wi_a1 hc rfl rfl ?_
        refine wi_gr (w := t) hc rfl rfl (by decide) (Nat.le_of_ble_eq_true rfl) rfl ?_
        refine wi_i1 hc rfl rfl ?_
        refine wi_bi hc rfl rfl ?_
        refine wi_cne hc rfl ⟨by omega, by omega⟩ ⟨by decide, by decide⟩ (fun h14_ => ?_) (fun h14_ => (by exfalso; omega))
        refine wi_si hc rfl rfl ?_
        refine wi_i1 hc rfl rfl ?_
        refine wi_add hc rfl ?_
        obtain ⟨s8_, hE8_, hM8_, hF8_⟩ := ad_83 (d := 0) (L := L) (l := l) (c := c) hkt h (show 0 ≤ z.2.2 ∧ z.2.2 < 300 by omega) (show c ≤ z.2.2 by omega) (10000 + (k z.1))
        refine wp_cv (b := t) (As := [.int (iI (10000 + (k z.1)))]) (r := []) hc rfl (by rw [cm_83]; rfl) rfl (Nat.le_of_ble_eq_true rfl) (show t < 621 by omega) (by rw [cm_83]; exact congrArg Prod.fst hkt.2.1) (ev_mono hE8_ (by omega)) ?_
        have hF8q : CFR t c s s8_ := CFR.rf.tr hF8_ (Int.le_refl c)
        show mm_wp _ _ (94, [some (.ref 580), some (.int (iI (k z.1)))], [], MX L t s8_ l) _
        refine wi_a1 hc rfl rfl ?_
        refine wi_dupr hc rfl ?_
        refine wi_gfv (kz := 4) rfl hc rfl rfl (by decide) (Nat.le_of_ble_eq_true rfl) rfl (v := z.1) ((by have q := CSt.ra hM8_; exact q : s8_ 580 4 = z.1)) ?_
        refine wi_ic hc rfl ?_
        refine wi_add hc rfl ?_
        refine wi_pf (kz := 4) rfl hc rfl rfl (by decide) (Nat.le_of_ble_eq_true rfl) rfl (Nat.le_of_ble_eq_true rfl) ⟨rfl, rfl⟩ rfl ?_
        obtain ⟨s9_, es9_⟩ : ∃ q, q = up s8_ 580 4 (z.1 + 1) := ⟨_, rfl⟩
        rw [← es9_]
        have hMs9_ : CSt kd pl nm tn t W s9_ (rpNx (rpPut (10000 + (k z.1)) z)) 8 := by rw [es9_]; exact CSt.nx0 hkt hM8_ rfl
        have hFs9_ : CFR t c s s9_ := hF8q.tr (by rw [es9_]; exact CFR.u hkt (by decide)) (Int.le_refl c)
        refine wi_ic hc rfl ?_
        refine wi_r1 hc rfl (by rw [cm_64]; rfl) ?_
        have hr9 : r = (0, rpPut (10000 + k z.1) (rpNx z)) := by
          rw [← hr, rpOne, if_neg (by omega), if_pos (by omega), if_pos h13_]
        subst hr9
        exact ⟨s9_, by rw [bI_t (p := ((0, rpPut (10000 + k z.1) (rpNx z)) : rpR).1 = 0) rfl], CRs.ok hMs9_ hFs9_⟩
      · skip
        refine wi_a1 hc rfl rfl ?_
        refine wi_ic hc rfl ?_
        obtain ⟨s10_, hE10_, hX10_, hY10_⟩ := sp_54 (d := 0) (L := L) (t := t) (l := l) (CSt.rR h) (by have q := CSt.ra h; exact q : s 580 4 = z.1) ⟨by omega, by omega⟩ (n := 5) ⟨by decide, by decide⟩
        refine wp_cv (b := 580) (As := [.int (iI 5)]) (r := []) hc rfl (by rw [cm_54]; rfl) rfl (Nat.le_of_ble_eq_true rfl) (show 580 < 621 by decide) (by rw [cm_54]; rfl) (ev_mono hE10_ (by omega)) ?_
        have hF10q : CFR t c s s10_ := CFR.rf.tr (CFR.fl hkt hX10_ hY10_) (Int.le_refl c)
        show mm_wp _ _ (63, [some (.ref 580), some (.int (iI (k z.1)))], [.int (iI 0)], MX L t s10_ l) _
        refine wi_r0 hc rfl (by rw [cm_64]; rfl) ?_
        have hr9 : r = (5, z) := by
          rw [← hr, rpOne, if_neg (by omega), if_pos (by omega), if_neg h13_]
        subst hr9
        exact ⟨s10_, by rw [bI_f (p := ((5, z) : rpR).1 = 0) (by show ¬ (5 : Int) = 0; decide)], CRs.no (by decide) ((hY10_ 8).trans (by rw [if_neg (by decide), if_pos rfl])) ((hY10_ 9).trans (if_pos rfl)) hF10q⟩
theorem on_64s {D L t : Nat} {s l : Nat → Int → Int} {m : Nat} (hD : 2 * m + 6 ≤ D) (hkt : KT L t t) {kd k pl nm : Int → Int} {tn W : Int} (hGC : GTC kd k pl nm tn) (hW0 : 0 ≤ W ∧ W ≤ 44) (hm : m + 1 ≤ 8) (ih1 : cOne L t kd k pl nm tn W m) (ihs : cSum L t kd k pl nm tn W m) {z : rpS} (h : CSt kd pl nm tn t W s z (8 - ((m + 1 : Nat) : Int))) {r : rpR} (hr : rpOne k nm W (m + 1) z = r) (hg : rpG tn z) {c : Int} (hcc : c ≤ z.2.2) : ∃ s1, mm_Ev mm_ct mm_CM (D + 1) 64 [.ref 580] (MX L t s l) (some (.int (iI (bI (r.1 = 0)))), MX L t s1 l) ∧ CRs kd pl nm tn t W s s1 r (8 - ((m + 1 : Nat) : Int)) c := by
  have hc : (mm_CM 64).2.2.2.2.2.2.2 = mm_cf cd_64 := by rw [cm_64]; rfl
  refine ev_xs ?_
  refine ev_to (mx := 2) (by rw [cm_64]; decide) (by rw [cm_64]; rfl) (by show 1 ≤ _; decide) ?_
  show mm_wp _ _ (0, [some (.ref 580), none], [], MX L t s l) (fun res => ∃ s1, res = (some (.int (iI (bI (r.1 = 0)))), MX L t s1 l) ∧ CRs kd pl nm tn t W s s1 r (8 - ((m + 1 : Nat) : Int)) c)
  obtain ⟨hk, hk43, hkr, htn⟩ := id hGC
  have hg9 := hg
  obtain ⟨hg0, hg1, hg2, hg3⟩ := hg9
  have ht6 := hkt.1
  have hnm9 := ((CSt.rR h).2.2 z.1 hg0 (by omega)).2.2.2.2.2
  refine wi_a1 hc rfl rfl ?_
  have hk1_ : mm_Ev mm_ct mm_CM (0 + 1) 53 [.ref 580] (MX L t s l) (some (.int (iI (k z.1))), MX L t s l) := by rw [hk]; exact sp_53 (d := 0) (CSt.rR h) (by have q := CSt.ra h; exact q : s 580 4 = z.1) ⟨by omega, by omega⟩
  have hkr1_ := hkr z.1
  refine wp_cv (b := 580) (As := []) (r := []) hc rfl (by rw [cm_53]; rfl) rfl (Nat.le_of_ble_eq_true rfl) (show 580 < 621 by decide) (by rw [cm_53]; rfl) (ev_mono hk1_ (by omega)) ?_
  show mm_wp _ _ (4, [some (.ref 580), none], [.int (iI (k z.1))], MX L t s l) _
  refine wi_is1 (L' := [some (.ref 580), some (.int (iI (k z.1)))]) hc rfl (Nat.le_of_ble_eq_true rfl) rfl ?_
  refine wi_i1 hc rfl rfl ?_
  refine wi_bi hc rfl rfl ?_
  refine wi_ceq hc rfl ⟨by omega, by omega⟩ ⟨by decide, by decide⟩ (fun h1_ => ?_) (fun h1_ => ?_)
  · skip
    refine wi_i1 hc rfl rfl ?_
    refine wi_bi hc rfl rfl ?_
    refine wi_cne hc rfl ⟨by omega, by omega⟩ ⟨by decide, by decide⟩ (fun h2_ => (by exfalso; omega)) (fun h2_ => ?_)
    have hnx9 : z.1 + 1 < tn := by
      rcases (by omega : z.1 + 1 < tn ∨ tn - 1 ≤ z.1) with g | g
      · exact g
      · exfalso; have := hk43 z.1 g; omega
    refine wi_a1 hc rfl rfl ?_
    refine wi_gr (w := 583) hc rfl rfl (by decide) (Nat.le_of_ble_eq_true rfl) rfl ?_
    refine wi_a1 hc rfl rfl ?_
    refine wi_gfv (kz := 4) rfl hc rfl rfl (by decide) (Nat.le_of_ble_eq_true rfl) rfl (v := z.1) ((by have q := CSt.ra h; exact q : s 580 4 = z.1)) ?_
    refine wi_ildv (N := 301) hc rfl rfl (by decide) (by decide) (by omega) (by omega) (v := nm z.1) (((CSt.rR h).2.2 _ (by omega) (by omega)).2.2.1) ?_
    refine wi_si hc rfl rfl ?_
    refine wi_cle hc rfl ⟨by omega, by omega⟩ ⟨by decide, by decide⟩ (fun h3_ => ?_) (fun h3_ => ?_)
    · refine wi_i1 hc rfl rfl ?_
      refine wi_bi hc rfl rfl ?_
      refine wi_ceq hc rfl ⟨by omega, by omega⟩ ⟨by decide, by decide⟩ (fun h4_ => ?_) (fun h4_ => (by exfalso; omega))
      refine wi_a1 hc rfl rfl ?_
      refine wi_gr (w := t) hc rfl rfl (by decide) (Nat.le_of_ble_eq_true rfl) rfl ?_
      refine wi_i1 hc rfl rfl ?_
      refine wi_bi hc rfl rfl ?_
      refine wi_cne hc rfl ⟨by omega, by omega⟩ ⟨by decide, by decide⟩ (fun h5_ => (by exfalso; omega)) (fun h5_ => ?_)
      refine wi_a1 hc rfl rfl ?_
      refine wi_gr (w := 583) hc rfl rfl (by decide) (Nat.le_of_ble_eq_true rfl) rfl ?_
      refine wi_a1 hc rfl rfl ?_
      refine wi_gfv (kz := 4) rfl hc rfl rfl (by decide) (Nat.le_of_ble_eq_true rfl) rfl (v := z.1) ((by have q := CSt.ra h; exact q : s 580 4 = z.1)) ?_
      refine wi_ildv (N := 301) hc rfl rfl (by decide) (by decide) (by omega) (by omega) (v := nm z.1) (((CSt.rR h).2.2 _ (by omega) (by omega)).2.2.1) ?_
      refine wi_go hc rfl ?_
      obtain ⟨s2_, hE2_, hM2_, hF2_⟩ := ad_83 (d := 0) (L := L) (l := l) (c := c) hkt h (show 0 ≤ z.2.2 ∧ z.2.2 < 300 by omega) (show c ≤ z.2.2 by omega) (nm z.1)
      refine wp_cv (b := t) (As := [.int (iI (nm z.1))]) (r := []) hc rfl (by rw [cm_83]; rfl) rfl (Nat.le_of_ble_eq_true rfl) (show t < 621 by omega) (by rw [cm_83]; exact congrArg Prod.fst hkt.2.1) (ev_mono hE2_ (by omega)) ?_
      have hF2q : CFR t c s s2_ := CFR.rf.tr hF2_ (Int.le_refl c)
      show mm_wp _ _ (94, [some (.ref 580), some (.int (iI (k z.1)))], [], MX L t s2_ l) _
      refine wi_a1 hc rfl rfl ?_
      refine wi_dupr hc rfl ?_
      refine wi_gfv (kz := 4) rfl hc rfl rfl (by decide) (Nat.le_of_ble_eq_true rfl) rfl (v := z.1) ((by have q := CSt.ra hM2_; exact q : s2_ 580 4 = z.1)) ?_
      refine wi_ic hc rfl ?_
      refine wi_add hc rfl ?_
      refine wi_pf (kz := 4) rfl hc rfl rfl (by decide) (Nat.le_of_ble_eq_true rfl) rfl (Nat.le_of_ble_eq_true rfl) ⟨rfl, rfl⟩ rfl ?_
      obtain ⟨s3_, es3_⟩ : ∃ q, q = up s2_ 580 4 (z.1 + 1) := ⟨_, rfl⟩
      rw [← es3_]
      have hMs3_ : CSt kd pl nm tn t W s3_ (rpNx (rpPut (nm z.1) z)) (8 - ((m + 1 : Nat) : Int)) := by rw [es3_]; exact CSt.nx0 hkt hM2_ rfl
      have hFs3_ : CFR t c s s3_ := hF2q.tr (by rw [es3_]; exact CFR.u hkt (by decide)) (Int.le_refl c)
      refine wi_ic hc rfl ?_
      refine wi_r1 hc rfl (by rw [cm_64]; rfl) ?_
      have hr9 : r = (0, rpPut (nm z.1) (rpNx z)) := by
        rw [← hr, rpOne, if_pos (by omega), if_neg (by omega)]
      subst hr9
      exact ⟨s3_, by rw [bI_t (p := ((0, rpPut (nm z.1) (rpNx z)) : rpR).1 = 0) rfl], CRs.ok hMs3_ hFs3_⟩
    · refine wi_a1 hc rfl rfl ?_
      refine wi_ic hc rfl ?_
      obtain ⟨s4_, hE4_, hX4_, hY4_⟩ := sp_54 (d := 0) (L := L) (t := t) (l := l) (CSt.rR h) (by have q := CSt.ra h; exact q : s 580 4 = z.1) ⟨by omega, by omega⟩ (n := 2) ⟨by decide, by decide⟩
      refine wp_cv (b := 580) (As := [.int (iI 2)]) (r := []) hc rfl (by rw [cm_54]; rfl) rfl (Nat.le_of_ble_eq_true rfl) (show 580 < 621 by decide) (by rw [cm_54]; rfl) (ev_mono hE4_ (by omega)) ?_
      have hF4q : CFR t c s s4_ := CFR.rf.tr (CFR.fl hkt hX4_ hY4_) (Int.le_refl c)
      show mm_wp _ _ (43, [some (.ref 580), some (.int (iI (k z.1)))], [.int (iI 0)], MX L t s4_ l) _
      refine wi_r0 hc rfl (by rw [cm_64]; rfl) ?_
      have hr9 : r = (2, z) := by
        rw [← hr, rpOne, if_pos (by omega), if_pos (by omega)]
      subst hr9
      exact ⟨s4_, by rw [bI_f (p := ((2, z) : rpR).1 = 0) (by show ¬ (2 : Int) = 0; decide)], CRs.no (by decide) ((hY4_ 8).trans (by rw [if_neg (by decide), if_pos rfl])) ((hY4_ 9).trans (if_pos rfl)) hF4q⟩
  · refine wi_i1 hc rfl rfl ?_
    refine wi_bi hc rfl rfl ?_
    refine wi_cge hc rfl ⟨by omega, by omega⟩ ⟨by decide, by decide⟩ (fun h6_ => ?_) (fun h6_ => ?_)
    · refine wi_i1 hc rfl rfl ?_
      refine wi_bi hc rfl rfl ?_
      refine wi_ceq hc rfl ⟨by omega, by omega⟩ ⟨by decide, by decide⟩ (fun h7_ => ?_) (fun h7_ => ?_)
      · skip
        refine wi_a1 hc rfl rfl ?_
        refine wi_gfv (kz := 7) rfl hc rfl rfl (by decide) (Nat.le_of_ble_eq_true rfl) rfl (v := (8 - ((m + 1 : Nat) : Int))) (CSt.ro h) ?_
        refine wi_bi hc rfl rfl ?_
        refine wi_clt hc rfl ⟨by omega, by omega⟩ ⟨by decide, by decide⟩ (fun h8_ => ?_) (fun h8_ => (by exfalso; omega))
        have hnx9 : z.1 + 1 < tn := by
          rcases (by omega : z.1 + 1 < tn ∨ tn - 1 ≤ z.1) with g | g
          · exact g
          · exfalso; have := hk43 z.1 g; omega
        refine wi_a1 hc rfl rfl ?_
        refine wi_dupr hc rfl ?_
        refine wi_gfv (kz := 7) rfl hc rfl rfl (by decide) (Nat.le_of_ble_eq_true rfl) rfl (v := (8 - ((m + 1 : Nat) : Int))) (CSt.ro h) ?_
        refine wi_ic hc rfl ?_
        refine wi_add hc rfl ?_
        refine wi_pf (kz := 7) rfl hc rfl rfl (by decide) (Nat.le_of_ble_eq_true rfl) rfl (Nat.le_of_ble_eq_true rfl) ⟨rfl, rfl⟩ rfl ?_
        obtain ⟨s5_, es5_⟩ : ∃ q, q = up s 580 7 ((8 - ((m + 1 : Nat) : Int)) + 1) := ⟨_, rfl⟩
        rw [← es5_]
        have hMs5_ : CSt kd pl nm tn t W s5_ z ((8 - ((m + 1 : Nat) : Int)) + 1) := by rw [es5_]; exact CSt.so0 hkt h
        have hFs5_ : CFR t c s s5_ := CFR.rf.tr (by rw [es5_]; exact CFR.u hkt (by decide)) (Int.le_refl c)
        have hO6_ : CSt kd pl nm tn t W s5_ z (8 - (m : Int)) := by rw [show (8 - (m : Int)) = (8 - ((m + 1 : Nat) : Int)) + 1 by omega]; exact hMs5_
        refine wi_a1 hc rfl rfl ?_
        refine wi_dupr hc rfl ?_
        refine wi_gfv (kz := 4) rfl hc rfl rfl (by decide) (Nat.le_of_ble_eq_true rfl) rfl (v := z.1) ((by have q := CSt.ra hO6_; exact q : s5_ 580 4 = z.1)) ?_
        refine wi_ic hc rfl ?_
        refine wi_add hc rfl ?_
        refine wi_pf (kz := 4) rfl hc rfl rfl (by decide) (Nat.le_of_ble_eq_true rfl) rfl (Nat.le_of_ble_eq_true rfl) ⟨rfl, rfl⟩ rfl ?_
        obtain ⟨s7_, es7_⟩ : ∃ q, q = up s5_ 580 4 (z.1 + 1) := ⟨_, rfl⟩
        rw [← es7_]
        have hMs7_ : CSt kd pl nm tn t W s7_ (rpNx z) (8 - (m : Int)) := by rw [es7_]; exact CSt.nx0 hkt hO6_ rfl
        have hFs7_ : CFR t c s s7_ := hFs5_.tr (by rw [es7_]; exact CFR.u hkt (by decide)) (Int.le_refl c)
        refine wi_i1 hc rfl rfl ?_
        refine wi_bi hc rfl rfl ?_
        refine wi_cne hc rfl ⟨by omega, by omega⟩ ⟨by decide, by decide⟩ (fun h9_ => (by exfalso; omega)) (fun h9_ => ?_)
        refine wi_a1 hc rfl rfl ?_
        obtain ⟨f8_, y8_, hy8_⟩ : ∃ f y, rpSum k (rpOne k nm W m) (rpNx z) = (f, y) := ⟨_, _, rfl⟩
        obtain ⟨s8_, hE8_, hC8_⟩ := ihs s7_ l (rpNx z) hMs7_ _ hy8_ (show rpG tn (rpNx z) from ⟨by show 0 ≤ z.1 + 1; omega, by show z.1 + 1 + 1 ≤ tn; omega, by show 0 ≤ z.2.2; omega, by show z.2.2 ≤ z.1 + 1; omega⟩) c (by show c ≤ z.2.2; omega)
        refine wp_cv (b := 580) (As := []) (r := []) hc rfl (by rw [cm_63]; rfl) rfl (Nat.le_of_ble_eq_true rfl) (show 580 < 621 by decide) (by rw [cm_63]; rfl) (ev_mono hE8_ (by omega)) ?_
        have hF8q : CFR t c s s8_ := hFs7_.tr hC8_.2.2 (Int.le_refl c)
        show mm_wp _ _ (169, [some (.ref 580), some (.int (iI (k z.1)))], [.int (iI (bI (f8_ = 0)))], MX L t s8_ l) _
        refine wi_bne hc rfl (fun h10_ => ?_) (fun h10_ => ?_)
        · subst h10_
          have hM8_ := hC8_.1 rfl
          have hK8_ := (rpSum_K (rpOne_K hk43 m) hy8_).1
          obtain ⟨hk1_8, hk2_8, hk3_8, hk4_8, hk5_8⟩ := hK8_
          have hk1_8 : z.1 + 1 + 1 ≤ y8_.1 := hk1_8
          have hk2_8 : z.2.2 + 1 ≤ y8_.2.2 := hk2_8
          have hk3_8 : y8_.2.2 - z.2.2 ≤ y8_.1 - (z.1 + 1) := hk3_8
          refine wi_a1 hc rfl rfl ?_
          refine wi_dupr hc rfl ?_
          refine wi_gfv (kz := 7) rfl hc rfl rfl (by decide) (Nat.le_of_ble_eq_true rfl) rfl (v := (8 - (m : Int))) (CSt.ro hM8_) ?_
          refine wi_ic hc rfl ?_
          refine wi_sub hc rfl ?_
          refine wi_pf (kz := 7) rfl hc rfl rfl (by decide) (Nat.le_of_ble_eq_true rfl) rfl (Nat.le_of_ble_eq_true rfl) ⟨rfl, rfl⟩ rfl ?_
          obtain ⟨s9_, es9_⟩ : ∃ q, q = up s8_ 580 7 ((8 - (m : Int)) - 1) := ⟨_, rfl⟩
          rw [← es9_]
          have hMs9_ : CSt kd pl nm tn t W s9_ y8_ ((8 - (m : Int)) - 1) := by rw [es9_]; exact CSt.so0 hkt hM8_
          have hFs9_ : CFR t c s s9_ := hF8q.tr (by rw [es9_]; exact CFR.u hkt (by decide)) (Int.le_refl c)
          have hO10_ : CSt kd pl nm tn t W s9_ y8_ (8 - ((m + 1 : Nat) : Int)) := by rw [show (8 - ((m + 1 : Nat) : Int)) = (8 - (m : Int)) - 1 by omega]; exact hMs9_
          refine wi_i1 hc rfl rfl ?_
          refine wi_bi hc rfl rfl ?_
          refine wi_cne hc rfl ⟨by omega, by omega⟩ ⟨by decide, by decide⟩ (fun h11_ => ?_) (fun h11_ => (by exfalso; omega))
          refine wi_a1 hc rfl rfl ?_
          have hk11_ : mm_Ev mm_ct mm_CM (0 + 1) 53 [.ref 580] (MX L t s9_ l) (some (.int (iI (k y8_.1))), MX L t s9_ l) := by rw [hk]; exact sp_53 (d := 0) (CSt.rR hO10_) (by have q := CSt.ra hO10_; exact q : s9_ 580 4 = y8_.1) ⟨by omega, by omega⟩
          have hkr11_ := hkr y8_.1
          refine wp_cv (b := 580) (As := []) (r := []) hc rfl (by rw [cm_53]; rfl) rfl (Nat.le_of_ble_eq_true rfl) (show 580 < 621 by decide) (by rw [cm_53]; rfl) (ev_mono hk11_ (by omega)) ?_
          show mm_wp _ _ (216, [some (.ref 580), some (.int (iI (k z.1)))], [.int (iI (k y8_.1))], MX L t s9_ l) _
          refine wi_bi hc rfl rfl ?_
          refine wi_ceq hc rfl ⟨by omega, by omega⟩ ⟨by decide, by decide⟩ (fun h12_ => ?_) (fun h12_ => ?_)
          · refine wi_a1 hc rfl rfl ?_
            refine wi_dupr hc rfl ?_
            refine wi_gfv (kz := 4) rfl hc rfl rfl (by decide) (Nat.le_of_ble_eq_true rfl) rfl (v := y8_.1) ((by have q := CSt.ra hO10_; exact q : s9_ 580 4 = y8_.1)) ?_
            refine wi_ic hc rfl ?_
            refine wi_add hc rfl ?_
            refine wi_pf (kz := 4) rfl hc rfl rfl (by decide) (Nat.le_of_ble_eq_true rfl) rfl (Nat.le_of_ble_eq_true rfl) ⟨rfl, rfl⟩ rfl ?_
            obtain ⟨s12_, es12_⟩ : ∃ q, q = up s9_ 580 4 (y8_.1 + 1) := ⟨_, rfl⟩
            rw [← es12_]
            have hMs12_ : CSt kd pl nm tn t W s12_ (rpNx y8_) (8 - ((m + 1 : Nat) : Int)) := by rw [es12_]; exact CSt.nx0 hkt hO10_ rfl
            have hFs12_ : CFR t c s s12_ := hFs9_.tr (by rw [es12_]; exact CFR.u hkt (by decide)) (Int.le_refl c)
            refine wi_ic hc rfl ?_
            refine wi_r1 hc rfl (by rw [cm_64]; rfl) ?_
            have hr9 : r = (0, (rpNx y8_)) := by
              rw [← hr, rpOne, if_neg (by omega), if_neg (by omega), if_pos (by omega), hy8_]
              show (if k y8_.1 = 38 then _ else _) = _
              rw [if_pos (by omega)]
            subst hr9
            exact ⟨s12_, by rw [bI_t (p := ((0, (rpNx y8_)) : rpR).1 = 0) rfl], CRs.ok hMs12_ hFs12_⟩
          · refine wi_a1 hc rfl rfl ?_
            refine wi_ic hc rfl ?_
            obtain ⟨s13_, hE13_, hX13_, hY13_⟩ := sp_54 (d := 0) (L := L) (t := t) (l := l) (CSt.rR hO10_) (by have q := CSt.ra hO10_; exact q : s9_ 580 4 = y8_.1) ⟨by omega, by omega⟩ (n := 1) ⟨by decide, by decide⟩
            refine wp_cv (b := 580) (As := [.int (iI 1)]) (r := []) hc rfl (by rw [cm_54]; rfl) rfl (Nat.le_of_ble_eq_true rfl) (show 580 < 621 by decide) (by rw [cm_54]; rfl) (ev_mono hE13_ (by omega)) ?_
            have hF13q : CFR t c s s13_ := hFs9_.tr (CFR.fl hkt hX13_ hY13_) (Int.le_refl c)
            show mm_wp _ _ (226, [some (.ref 580), some (.int (iI (k z.1)))], [.int (iI 0)], MX L t s13_ l) _
            refine wi_r0 hc rfl (by rw [cm_64]; rfl) ?_
            have hr9 : r = (1, y8_) := by
              rw [← hr, rpOne, if_neg (by omega), if_neg (by omega), if_pos (by omega), hy8_]
              show (if k y8_.1 = 38 then _ else _) = _
              rw [if_neg (by omega)]
            subst hr9
            exact ⟨s13_, by rw [bI_f (p := ((1, y8_) : rpR).1 = 0) (by show ¬ (1 : Int) = 0; decide)], CRs.no (by decide) ((hY13_ 8).trans (by rw [if_neg (by decide), if_pos rfl])) ((hY13_ 9).trans (if_pos rfl)) hF13q⟩
        · skip
          refine wi_go hc rfl ?_
          refine wi_ic hc rfl ?_
          refine wi_r0 hc rfl (by rw [cm_64]; rfl) ?_
          have hr9 : r = (f8_, y8_) := by
            rw [← hr, rpOne, if_neg (by omega), if_neg (by omega), if_pos (by omega), hy8_, rpB, if_neg h10_]
          subst hr9
          exact ⟨s8_, by rw [bI_f (p := ((f8_, y8_) : rpR).1 = 0) h10_], CRs.no h10_ (hC8_.2.1 h10_).1 (hC8_.2.1 h10_).2 hF8q⟩
      · refine wi_i1 hc rfl rfl ?_
        refine wi_bi hc rfl rfl ?_
        refine wi_ceq hc rfl ⟨by omega, by omega⟩ ⟨by decide, by decide⟩ (fun h13_ => ?_) (fun h13_ => ?_)
        · skip
          refine wi_a1 hc rfl rfl ?_
          refine wi_gfv (kz := 7) rfl hc rfl rfl (by decide) (Nat.le_of_ble_eq_true rfl) rfl (v := (8 - ((m + 1 : Nat) : Int))) (CSt.ro h) ?_
          refine wi_bi hc rfl rfl ?_
          refine wi_clt hc rfl ⟨by omega, by omega⟩ ⟨by decide, by decide⟩ (fun h14_ => ?_) (fun h14_ => (by exfalso; omega))
          have hnx9 : z.1 + 1 < tn := by
            rcases (by omega : z.1 + 1 < tn ∨ tn - 1 ≤ z.1) with g | g
            · exact g
            · exfalso; have := hk43 z.1 g; omega
          refine wi_a1 hc rfl rfl ?_
          refine wi_dupr hc rfl ?_
          refine wi_gfv (kz := 7) rfl hc rfl rfl (by decide) (Nat.le_of_ble_eq_true rfl) rfl (v := (8 - ((m + 1 : Nat) : Int))) (CSt.ro h) ?_
          refine wi_ic hc rfl ?_
          refine wi_add hc rfl ?_
          refine wi_pf (kz := 7) rfl hc rfl rfl (by decide) (Nat.le_of_ble_eq_true rfl) rfl (Nat.le_of_ble_eq_true rfl) ⟨rfl, rfl⟩ rfl ?_
          obtain ⟨s14_, es14_⟩ : ∃ q, q = up s 580 7 ((8 - ((m + 1 : Nat) : Int)) + 1) := ⟨_, rfl⟩
          rw [← es14_]
          have hMs14_ : CSt kd pl nm tn t W s14_ z ((8 - ((m + 1 : Nat) : Int)) + 1) := by rw [es14_]; exact CSt.so0 hkt h
          have hFs14_ : CFR t c s s14_ := CFR.rf.tr (by rw [es14_]; exact CFR.u hkt (by decide)) (Int.le_refl c)
          have hO15_ : CSt kd pl nm tn t W s14_ z (8 - (m : Int)) := by rw [show (8 - (m : Int)) = (8 - ((m + 1 : Nat) : Int)) + 1 by omega]; exact hMs14_
          refine wi_a1 hc rfl rfl ?_
          refine wi_dupr hc rfl ?_
          refine wi_gfv (kz := 4) rfl hc rfl rfl (by decide) (Nat.le_of_ble_eq_true rfl) rfl (v := z.1) ((by have q := CSt.ra hO15_; exact q : s14_ 580 4 = z.1)) ?_
          refine wi_ic hc rfl ?_
          refine wi_add hc rfl ?_
          refine wi_pf (kz := 4) rfl hc rfl rfl (by decide) (Nat.le_of_ble_eq_true rfl) rfl (Nat.le_of_ble_eq_true rfl) ⟨rfl, rfl⟩ rfl ?_
          obtain ⟨s16_, es16_⟩ : ∃ q, q = up s14_ 580 4 (z.1 + 1) := ⟨_, rfl⟩
          rw [← es16_]
          have hMs16_ : CSt kd pl nm tn t W s16_ (rpNx z) (8 - (m : Int)) := by rw [es16_]; exact CSt.nx0 hkt hO15_ rfl
          have hFs16_ : CFR t c s s16_ := hFs14_.tr (by rw [es16_]; exact CFR.u hkt (by decide)) (Int.le_refl c)
          refine wi_i1 hc rfl rfl ?_
          refine wi_bi hc rfl rfl ?_
          refine wi_cne hc rfl ⟨by omega, by omega⟩ ⟨by decide, by decide⟩ (fun h15_ => ?_) (fun h15_ => (by exfalso; omega))
          refine wi_a1 hc rfl rfl ?_
          obtain ⟨f17_, y17_, hy17_⟩ : ∃ f y, rpOne k nm W m (rpNx z) = (f, y) := ⟨_, _, rfl⟩
          obtain ⟨s17_, hE17_, hC17_⟩ := ih1 s16_ l (rpNx z) hMs16_ _ hy17_ (show rpG tn (rpNx z) from ⟨by show 0 ≤ z.1 + 1; omega, by show z.1 + 1 + 1 ≤ tn; omega, by show 0 ≤ z.2.2; omega, by show z.2.2 ≤ z.1 + 1; omega⟩) c (by show c ≤ z.2.2; omega)
          refine wp_cv (b := 580) (As := []) (r := []) hc rfl (by rw [cm_64]; rfl) rfl (Nat.le_of_ble_eq_true rfl) (show 580 < 621 by decide) (by rw [cm_64]; rfl) (ev_mono hE17_ (by omega)) ?_
          have hF17q : CFR t c s s17_ := hFs16_.tr hC17_.2.2 (Int.le_refl c)
          show mm_wp _ _ (179, [some (.ref 580), some (.int (iI (k z.1)))], [.int (iI (bI (f17_ = 0)))], MX L t s17_ l) _
          refine wi_bne hc rfl (fun h16_ => ?_) (fun h16_ => ?_)
          · subst h16_
            have hM17_ := hC17_.1 rfl
            have hK17_ := rpOne_K hk43 m _ _ hy17_
            obtain ⟨hk1_17, hk2_17, hk3_17, hk4_17, hk5_17⟩ := hK17_
            have hk1_17 : z.1 + 1 + 1 ≤ y17_.1 := hk1_17
            have hk2_17 : z.2.2 + 1 ≤ y17_.2.2 := hk2_17
            have hk3_17 : y17_.2.2 - z.2.2 ≤ y17_.1 - (z.1 + 1) := hk3_17
            refine wi_a1 hc rfl rfl ?_
            refine wi_dupr hc rfl ?_
            refine wi_gfv (kz := 7) rfl hc rfl rfl (by decide) (Nat.le_of_ble_eq_true rfl) rfl (v := (8 - (m : Int))) (CSt.ro hM17_) ?_
            refine wi_ic hc rfl ?_
            refine wi_sub hc rfl ?_
            refine wi_pf (kz := 7) rfl hc rfl rfl (by decide) (Nat.le_of_ble_eq_true rfl) rfl (Nat.le_of_ble_eq_true rfl) ⟨rfl, rfl⟩ rfl ?_
            obtain ⟨s18_, es18_⟩ : ∃ q, q = up s17_ 580 7 ((8 - (m : Int)) - 1) := ⟨_, rfl⟩
            rw [← es18_]
            have hMs18_ : CSt kd pl nm tn t W s18_ y17_ ((8 - (m : Int)) - 1) := by rw [es18_]; exact CSt.so0 hkt hM17_
            have hFs18_ : CFR t c s s18_ := hF17q.tr (by rw [es18_]; exact CFR.u hkt (by decide)) (Int.le_refl c)
            have hO19_ : CSt kd pl nm tn t W s18_ y17_ (8 - ((m + 1 : Nat) : Int)) := by rw [show (8 - ((m + 1 : Nat) : Int)) = (8 - (m : Int)) - 1 by omega]; exact hMs18_
            refine wi_i1 hc rfl rfl ?_
            refine wi_bi hc rfl rfl ?_
            refine wi_cne hc rfl ⟨by omega, by omega⟩ ⟨by decide, by decide⟩ (fun h17_ => (by exfalso; omega)) (fun h17_ => ?_)
            refine wi_a1 hc rfl rfl ?_
            refine wi_gr (w := t) hc rfl rfl (by decide) (Nat.le_of_ble_eq_true rfl) rfl ?_
            refine wi_si hc rfl rfl ?_
            obtain ⟨s20_, hE20_, hM20_, hF20_⟩ := ad_83 (d := 0) (L := L) (l := l) (c := c) hkt hO19_ (show 0 ≤ y17_.2.2 ∧ y17_.2.2 < 300 by omega) (show c ≤ y17_.2.2 by omega) (10045)
            refine wp_cv (b := t) (As := [.int (iI 10045)]) (r := []) hc rfl (by rw [cm_83]; rfl) rfl (Nat.le_of_ble_eq_true rfl) (show t < 621 by omega) (by rw [cm_83]; exact congrArg Prod.fst hkt.2.1) (ev_mono hE20_ (by omega)) ?_
            have hF20q : CFR t c s s20_ := hFs18_.tr hF20_ (Int.le_refl c)
            show mm_wp _ _ (210, [some (.ref 580), some (.int (iI (k z.1)))], [], MX L t s20_ l) _
            refine wi_ic hc rfl ?_
            refine wi_r1 hc rfl (by rw [cm_64]; rfl) ?_
            have hr9 : r = (0, (rpPut (10045) y17_)) := by
              rw [← hr, rpOne, if_neg (by omega), if_neg (by omega), if_neg (by omega), if_pos (by omega), hy17_]
              rfl
            subst hr9
            exact ⟨s20_, by rw [bI_t (p := ((0, (rpPut (10045) y17_)) : rpR).1 = 0) rfl], CRs.ok hM20_ hF20q⟩
          · skip
            refine wi_ic hc rfl ?_
            refine wi_r0 hc rfl (by rw [cm_64]; rfl) ?_
            have hr9 : r = (f17_, y17_) := by
              rw [← hr, rpOne, if_neg (by omega), if_neg (by omega), if_neg (by omega), if_pos (by omega), hy17_, rpB, if_neg h16_]
            subst hr9
            exact ⟨s17_, by rw [bI_f (p := ((f17_, y17_) : rpR).1 = 0) h16_], CRs.no h16_ (hC17_.2.1 h16_).1 (hC17_.2.1 h16_).2 hF17q⟩
        · refine wi_a1 hc rfl rfl ?_
          refine wi_ic hc rfl ?_
          obtain ⟨s21_, hE21_, hX21_, hY21_⟩ := sp_54 (d := 0) (L := L) (t := t) (l := l) (CSt.rR h) (by have q := CSt.ra h; exact q : s 580 4 = z.1) ⟨by omega, by omega⟩ (n := 1) ⟨by decide, by decide⟩
          refine wp_cv (b := 580) (As := [.int (iI 1)]) (r := []) hc rfl (by rw [cm_54]; rfl) rfl (Nat.le_of_ble_eq_true rfl) (show 580 < 621 by decide) (by rw [cm_54]; rfl) (ev_mono hE21_ (by omega)) ?_
          have hF21q : CFR t c s s21_ := CFR.rf.tr (CFR.fl hkt hX21_ hY21_) (Int.le_refl c)
          show mm_wp _ _ (123, [some (.ref 580), some (.int (iI (k z.1)))], [.int (iI 0)], MX L t s21_ l) _
          refine wi_r0 hc rfl (by rw [cm_64]; rfl) ?_
          have hr9 : r = (1, z) := by
            rw [← hr, rpOne, if_neg (by omega), if_neg (by omega), if_neg (by omega), if_neg (by omega)]
          subst hr9
          exact ⟨s21_, by rw [bI_f (p := ((1, z) : rpR).1 = 0) (by show ¬ (1 : Int) = 0; decide)], CRs.no (by decide) ((hY21_ 8).trans (by rw [if_neg (by decide), if_pos rfl])) ((hY21_ 9).trans (if_pos rfl)) hF21q⟩
    · skip
      refine wi_i1 hc rfl rfl ?_
      refine wi_bi hc rfl rfl ?_
      refine wi_cne hc rfl ⟨by omega, by omega⟩ ⟨by decide, by decide⟩ (fun h18_ => ?_) (fun h18_ => (by exfalso; omega))
      refine wi_i1 hc rfl rfl ?_
      refine wi_bi hc rfl rfl ?_
      refine wi_ceq hc rfl ⟨by omega, by omega⟩ ⟨by decide, by decide⟩ (fun h19_ => (by exfalso; omega)) (fun h19_ => ?_)
      have hnx9 : z.1 + 1 < tn := by
        rcases (by omega : z.1 + 1 < tn ∨ tn - 1 ≤ z.1) with g | g
        · exact g
        · exfalso; have := hk43 z.1 g; omega
      refine wi_a1 hc rfl rfl ?_
      refine wi_i1 hc rfl rfl ?_
      refine wp_cv (b := 580) (As := [.int (iI (k z.1))]) (r := []) hc rfl (by rw [cm_65]; rfl) rfl (Nat.le_of_ble_eq_true rfl) (show 580 < 621 by decide) (by rw [cm_65]; rfl) (ev_mono (sp_65 (d := 0) (CSt.rw9 h) hW0 (x := k z.1) ⟨by omega, by omega⟩) (by omega)) ?_
      show mm_wp _ _ (55, [some (.ref 580), some (.int (iI (k z.1)))], [.int (iI (bI (rpHr W (k z.1) = true)))], MX L t s l) _
      refine wi_bne hc rfl (fun h20_ => ?_) (fun h20_ => ?_)
      · skip
        refine wi_a1 hc rfl rfl ?_
        refine wi_gr (w := t) hc rfl rfl (by decide) (Nat.le_of_ble_eq_true rfl) rfl ?_
        refine wi_i1 hc rfl rfl ?_
        refine wi_bi hc rfl rfl ?_
        refine wi_cne hc rfl ⟨by omega, by omega⟩ ⟨by decide, by decide⟩ (fun h21_ => ?_) (fun h21_ => (by exfalso; omega))
        refine wi_si hc rfl rfl ?_
        refine wi_i1 hc rfl rfl ?_
        refine wi_add hc rfl ?_
        obtain ⟨s22_, hE22_, hM22_, hF22_⟩ := ad_83 (d := 0) (L := L) (l := l) (c := c) hkt h (show 0 ≤ z.2.2 ∧ z.2.2 < 300 by omega) (show c ≤ z.2.2 by omega) (10000 + (k z.1))
        refine wp_cv (b := t) (As := [.int (iI (10000 + (k z.1)))]) (r := []) hc rfl (by rw [cm_83]; rfl) rfl (Nat.le_of_ble_eq_true rfl) (show t < 621 by omega) (by rw [cm_83]; exact congrArg Prod.fst hkt.2.1) (ev_mono hE22_ (by omega)) ?_
        have hF22q : CFR t c s s22_ := CFR.rf.tr hF22_ (Int.le_refl c)
        show mm_wp _ _ (94, [some (.ref 580), some (.int (iI (k z.1)))], [], MX L t s22_ l) _
        refine wi_a1 hc rfl rfl ?_
        refine wi_dupr hc rfl ?_
        refine wi_gfv (kz := 4) rfl hc rfl rfl (by decide) (Nat.le_of_ble_eq_true rfl) rfl (v := z.1) ((by have q := CSt.ra hM22_; exact q : s22_ 580 4 = z.1)) ?_
        refine wi_ic hc rfl ?_
        refine wi_add hc rfl ?_
        refine wi_pf (kz := 4) rfl hc rfl rfl (by decide) (Nat.le_of_ble_eq_true rfl) rfl (Nat.le_of_ble_eq_true rfl) ⟨rfl, rfl⟩ rfl ?_
        obtain ⟨s23_, es23_⟩ : ∃ q, q = up s22_ 580 4 (z.1 + 1) := ⟨_, rfl⟩
        rw [← es23_]
        have hMs23_ : CSt kd pl nm tn t W s23_ (rpNx (rpPut (10000 + (k z.1)) z)) (8 - ((m + 1 : Nat) : Int)) := by rw [es23_]; exact CSt.nx0 hkt hM22_ rfl
        have hFs23_ : CFR t c s s23_ := hF22q.tr (by rw [es23_]; exact CFR.u hkt (by decide)) (Int.le_refl c)
        refine wi_ic hc rfl ?_
        refine wi_r1 hc rfl (by rw [cm_64]; rfl) ?_
        have hr9 : r = (0, rpPut (10000 + k z.1) (rpNx z)) := by
          rw [← hr, rpOne, if_neg (by omega), if_pos (by omega), if_pos h20_]
        subst hr9
        exact ⟨s23_, by rw [bI_t (p := ((0, rpPut (10000 + k z.1) (rpNx z)) : rpR).1 = 0) rfl], CRs.ok hMs23_ hFs23_⟩
      · skip
        refine wi_a1 hc rfl rfl ?_
        refine wi_ic hc rfl ?_
        obtain ⟨s24_, hE24_, hX24_, hY24_⟩ := sp_54 (d := 0) (L := L) (t := t) (l := l) (CSt.rR h) (by have q := CSt.ra h; exact q : s 580 4 = z.1) ⟨by omega, by omega⟩ (n := 5) ⟨by decide, by decide⟩
        refine wp_cv (b := 580) (As := [.int (iI 5)]) (r := []) hc rfl (by rw [cm_54]; rfl) rfl (Nat.le_of_ble_eq_true rfl) (show 580 < 621 by decide) (by rw [cm_54]; rfl) (ev_mono hE24_ (by omega)) ?_
        have hF24q : CFR t c s s24_ := CFR.rf.tr (CFR.fl hkt hX24_ hY24_) (Int.le_refl c)
        show mm_wp _ _ (63, [some (.ref 580), some (.int (iI (k z.1)))], [.int (iI 0)], MX L t s24_ l) _
        refine wi_r0 hc rfl (by rw [cm_64]; rfl) ?_
        have hr9 : r = (5, z) := by
          rw [← hr, rpOne, if_neg (by omega), if_pos (by omega), if_neg h20_]
        subst hr9
        exact ⟨s24_, by rw [bI_f (p := ((5, z) : rpR).1 = 0) (by show ¬ (5 : Int) = 0; decide)], CRs.no (by decide) ((hY24_ 8).trans (by rw [if_neg (by decide), if_pos rfl])) ((hY24_ 9).trans (if_pos rfl)) hF24q⟩
theorem wf_ind {P : Nat → Prop} (h : ∀ n, (∀ m, m < n → P m) → P n) (n : Nat) : P n := Nat.strongRecOn n h
theorem rpB_n {r : rpR} {f : rpS → rpR} (h : r.1 ≠ 0) : rpB r f = r := if_neg h
theorem su_63 {D L t : Nat} {s l : Nat → Int → Int} {m : Nat} (hD : 2 * m + 5 ≤ D) (hkt : KT L t t) {kd k pl nm : Int → Int} {tn W : Int} (hGC : GTC kd k pl nm tn) (hW0 : 0 ≤ W ∧ W ≤ 44) (hm : m ≤ 8) (ih1 : cOne L t kd k pl nm tn W m) {z : rpS} (h : CSt kd pl nm tn t W s z (8 - (m : Int))) {r : rpR} (hr : rpSum k (rpOne k nm W m) z = r) (hg : rpG tn z) {c : Int} (hcc : c ≤ z.2.2) : ∃ s1, mm_Ev mm_ct mm_CM (D + 1) 63 [.ref 580] (MX L t s l) (some (.int (iI (bI (r.1 = 0)))), MX L t s1 l) ∧ CRs kd pl nm tn t W s s1 r (8 - (m : Int)) c := by
  have hc : (mm_CM 63).2.2.2.2.2.2.2 = mm_cf cd_63 := by rw [cm_63]; rfl
  refine ev_xs ?_
  refine ev_to (mx := 5) (by rw [cm_63]; decide) (by rw [cm_63]; rfl) (by show 1 ≤ _; decide) ?_
  show mm_wp _ _ (0, [some (.ref 580), none, none, none, none], [], MX L t s l) (fun res => ∃ s1, res = (some (.int (iI (bI (r.1 = 0)))), MX L t s1 l) ∧ CRs kd pl nm tn t W s s1 r (8 - (m : Int)) c)
  obtain ⟨hk, hk43, hkr, htn⟩ := id hGC
  have hg9 := hg
  obtain ⟨hg0, hg1, hg2, hg3⟩ := hg9
  have ht6 := hkt.1
  refine wi_bi hc rfl rfl ?_
  refine wi_is1 (L' := [some (.ref 580), some (.int (iI 44)), none, none, none]) hc rfl (Nat.le_of_ble_eq_true rfl) rfl ?_
  refine wi_ic hc rfl ?_
  refine wi_is1 (L' := [some (.ref 580), some (.int (iI 44)), some (.int (iI 0)), none, none]) hc rfl (Nat.le_of_ble_eq_true rfl) rfl ?_
  have loop5_ : ∀ N : Nat, ∀ (y1 : rpS) (s1 : Nat → Int → Int) (i op9 : Int) (n : Nat) (o3 o4 : Option Value), (302 - y1.1).toNat ≤ N → CSt kd pl nm tn t W s1 y1 (8 - (m : Int)) → CFR t c s s1 → 0 ≤ i → 2 * i ≤ y1.1 → (n : Int) + i = 301 → 0 ≤ y1.1 → y1.1 + 1 ≤ tn → c ≤ y1.2.2 → 0 ≤ y1.2.2 → y1.2.2 ≤ y1.1 → (0 < i → y1.2.2 + 1 ≤ y1.1) → 0 ≤ op9 → op9 ≤ 44 → rpB (rpPrd k (rpOne k nm W m) y1) (fun x => rpAdd k (rpOne k nm W m) n (if 0 < i then rpPut (10000 + op9) x else x)) = r → mm_wp (mm_Ev mm_ct mm_CM D) 63 (5, [some (.ref 580), some (.int (iI op9)), some (.int (iI i)), o3, o4], [], MX L t s1 l) (fun res => ∃ s1, res = (some (.int (iI (bI (r.1 = 0)))), MX L t s1 l) ∧ CRs kd pl nm tn t W s s1 r (8 - (m : Int)) c) := by
    refine wf_ind ?_
    intro N ih y1 s1 i op9 n o3 o4 hN hM1 hF1 i0 hi2 hni hy0 hy1 hy2 hy3 hy4 hy5 hp0 hp1 hR1
    obtain ⟨n5, rfl⟩ : ∃ q, n = q + 1 := ⟨n - 1, by omega⟩
    refine wi_i1 hc rfl rfl ?_
    refine wi_si hc rfl rfl ?_
    refine wi_cge hc rfl ⟨by omega, by omega⟩ ⟨by decide, by decide⟩ (fun h1_ => (by exfalso; omega)) (fun h1_ => ?_)
    refine wi_a1 hc rfl rfl ?_
    obtain ⟨f1_, y1_, hy1_⟩ : ∃ f y, rpOne k nm W m y1 = (f, y) := ⟨_, _, rfl⟩
    obtain ⟨s1_, hE1_, hC1_⟩ := ih1 s1 l y1 hM1 _ hy1_ (show rpG tn y1 from ⟨by show 0 ≤ y1.1; omega, by show y1.1 + 1 ≤ tn; omega, by show 0 ≤ y1.2.2; omega, by show y1.2.2 ≤ y1.1; omega⟩) c (by show c ≤ y1.2.2; omega)
    refine wp_cv (b := 580) (As := []) (r := []) hc rfl (by rw [cm_64]; rfl) rfl (Nat.le_of_ble_eq_true rfl) (show 580 < 621 by decide) (by rw [cm_64]; rfl) (ev_mono hE1_ (by omega)) ?_
    have hF1q : CFR t c s s1_ := hF1.tr hC1_.2.2 (Int.le_refl c)
    show mm_wp _ _ (16, [some (.ref 580), some (.int (iI op9)), some (.int (iI i)), o3, o4], [.int (iI (bI (f1_ = 0)))], MX L t s1_ l) _
    refine wi_bne hc rfl (fun h2_ => ?_) (fun h2_ => ?_)
    · subst h2_
      have hM1_ := hC1_.1 rfl
      have hK1_ := rpOne_K hk43 m _ _ hy1_
      obtain ⟨hk1_1, hk2_1, hk3_1, hk4_1, hk5_1⟩ := hK1_
      have hk1_1 : y1.1 + 1 ≤ y1_.1 := hk1_1
      have hk2_1 : y1.2.2 + 1 ≤ y1_.2.2 := hk2_1
      have hk3_1 : y1_.2.2 - y1.2.2 ≤ y1_.1 - (y1.1) := hk3_1
      refine wi_ic hc rfl ?_
      refine wi_is1 (L' := [some (.ref 580), some (.int (iI op9)), some (.int (iI i)), some (.int (iI 0)), o4]) hc rfl (Nat.le_of_ble_eq_true rfl) rfl ?_
      have loop23_ : ∀ N2 : Nat, ∀ (y2 : rpS) (s2 : Nat → Int → Int) (j : Int) (n2 : Nat) (o4 : Option Value), (302 - y2.1).toNat ≤ N2 → CSt kd pl nm tn t W s2 y2 (8 - (m : Int)) → CFR t c s s2 → 0 ≤ j → 2 * j ≤ y2.1 → (n2 : Int) + j = 301 → y1.1 + 1 ≤ y2.1 → y2.1 + 1 ≤ tn → c ≤ y2.2.2 → 0 ≤ y2.2.2 → y2.2.2 - y1.2.2 ≤ y2.1 - y1.1 → rpB (rpFac k (rpOne k nm W m) n2 y2) (fun x => rpAdd k (rpOne k nm W m) (n5 + 1) (if 0 < i then rpPut (10000 + op9) x else x)) = r → mm_wp (mm_Ev mm_ct mm_CM D) 63 (23, [some (.ref 580), some (.int (iI op9)), some (.int (iI i)), some (.int (iI j)), o4], [], MX L t s2 l) (fun res => ∃ s1, res = (some (.int (iI (bI (r.1 = 0)))), MX L t s1 l) ∧ CRs kd pl nm tn t W s s1 r (8 - (m : Int)) c) := by
        refine wf_ind ?_
        intro N2 ih2 y2 s2 j n2 o4 hN2 hM2 hF2 j0 hj2 hnj hz0 hz1 hz2 hz3 hz4 hR2
        obtain ⟨n3, rfl⟩ : ∃ q, n2 = q + 1 := ⟨n2 - 1, by omega⟩
        refine wi_i1 hc rfl rfl ?_
        refine wi_si hc rfl rfl ?_
        refine wi_cge hc rfl ⟨by omega, by omega⟩ ⟨by decide, by decide⟩ (fun h3_ => (by exfalso; omega)) (fun h3_ => ?_)
        refine wi_a1 hc rfl rfl ?_
        have hk2_ : mm_Ev mm_ct mm_CM (0 + 1) 53 [.ref 580] (MX L t s2 l) (some (.int (iI (k y2.1))), MX L t s2 l) := by rw [hk]; exact sp_53 (d := 0) (CSt.rR hM2) (by have q := CSt.ra hM2; exact q : s2 580 4 = y2.1) ⟨by omega, by omega⟩
        have hkr2_ := hkr y2.1
        refine wp_cv (b := 580) (As := []) (r := []) hc rfl (by rw [cm_53]; rfl) rfl (Nat.le_of_ble_eq_true rfl) (show 580 < 621 by decide) (by rw [cm_53]; rfl) (ev_mono hk2_ (by omega)) ?_
        show mm_wp _ _ (34, [some (.ref 580), some (.int (iI op9)), some (.int (iI i)), some (.int (iI j)), o4], [.int (iI (k y2.1))], MX L t s2 l) _
        refine wi_bi hc rfl rfl ?_
        refine wi_ceq hc rfl ⟨by omega, by omega⟩ ⟨by decide, by decide⟩ (fun h4_ => ?_) (fun h4_ => ?_)
        · have hnx9 : y2.1 + 1 < tn := by
            rcases (by omega : y2.1 + 1 < tn ∨ tn - 1 ≤ y2.1) with g | g
            · exact g
            · exfalso; have := hk43 y2.1 g; omega
          refine wi_a1 hc rfl rfl ?_
          have hk3_ : mm_Ev mm_ct mm_CM (0 + 1) 53 [.ref 580] (MX L t s2 l) (some (.int (iI (k y2.1))), MX L t s2 l) := by rw [hk]; exact sp_53 (d := 0) (CSt.rR hM2) (by have q := CSt.ra hM2; exact q : s2 580 4 = y2.1) ⟨by omega, by omega⟩
          have hkr3_ := hkr y2.1
          refine wp_cv (b := 580) (As := []) (r := []) hc rfl (by rw [cm_53]; rfl) rfl (Nat.le_of_ble_eq_true rfl) (show 580 < 621 by decide) (by rw [cm_53]; rfl) (ev_mono hk3_ (by omega)) ?_
          show mm_wp _ _ (52, [some (.ref 580), some (.int (iI op9)), some (.int (iI i)), some (.int (iI j)), o4], [.int (iI (k y2.1))], MX L t s2 l) _
          refine wi_is2 (L' := [some (.ref 580), some (.int (iI op9)), some (.int (iI i)), some (.int (iI j)), some (.int (iI (k y2.1)))]) hc rfl (Nat.le_of_ble_eq_true rfl) rfl ?_
          refine wi_a1 hc rfl rfl ?_
          refine wi_dupr hc rfl ?_
          refine wi_gfv (kz := 4) rfl hc rfl rfl (by decide) (Nat.le_of_ble_eq_true rfl) rfl (v := y2.1) ((by have q := CSt.ra hM2; exact q : s2 580 4 = y2.1)) ?_
          refine wi_ic hc rfl ?_
          refine wi_add hc rfl ?_
          refine wi_pf (kz := 4) rfl hc rfl rfl (by decide) (Nat.le_of_ble_eq_true rfl) rfl (Nat.le_of_ble_eq_true rfl) ⟨rfl, rfl⟩ rfl ?_
          obtain ⟨s4_, es4_⟩ : ∃ q, q = up s2 580 4 (y2.1 + 1) := ⟨_, rfl⟩
          rw [← es4_]
          have hMs4_ : CSt kd pl nm tn t W s4_ (rpNx y2) (8 - (m : Int)) := by rw [es4_]; exact CSt.nx0 hkt hM2 rfl
          have hFs4_ : CFR t c s s4_ := hF2.tr (by rw [es4_]; exact CFR.u hkt (by decide)) (Int.le_refl c)
          refine wi_a1 hc rfl rfl ?_
          obtain ⟨f5_, y5_, hy5_⟩ : ∃ f y, rpOne k nm W m (rpNx y2) = (f, y) := ⟨_, _, rfl⟩
          obtain ⟨s5_, hE5_, hC5_⟩ := ih1 s4_ l (rpNx y2) hMs4_ _ hy5_ (show rpG tn (rpNx y2) from ⟨by show 0 ≤ y2.1 + 1; omega, by show y2.1 + 1 + 1 ≤ tn; omega, by show 0 ≤ y2.2.2; omega, by show y2.2.2 ≤ y2.1 + 1; omega⟩) c (by show c ≤ y2.2.2; omega)
          refine wp_cv (b := 580) (As := []) (r := []) hc rfl (by rw [cm_64]; rfl) rfl (Nat.le_of_ble_eq_true rfl) (show 580 < 621 by decide) (by rw [cm_64]; rfl) (ev_mono hE5_ (by omega)) ?_
          have hF5q : CFR t c s s5_ := hFs4_.tr hC5_.2.2 (Int.le_refl c)
          show mm_wp _ _ (68, [some (.ref 580), some (.int (iI op9)), some (.int (iI i)), some (.int (iI j)), some (.int (iI (k y2.1)))], [.int (iI (bI (f5_ = 0)))], MX L t s5_ l) _
          refine wi_bne hc rfl (fun h5_ => ?_) (fun h5_ => ?_)
          · subst h5_
            have hM5_ := hC5_.1 rfl
            have hK5_ := rpOne_K hk43 m _ _ hy5_
            obtain ⟨hk1_5, hk2_5, hk3_5, hk4_5, hk5_5⟩ := hK5_
            have hk1_5 : y2.1 + 1 + 1 ≤ y5_.1 := hk1_5
            have hk2_5 : y2.2.2 + 1 ≤ y5_.2.2 := hk2_5
            have hk3_5 : y5_.2.2 - y2.2.2 ≤ y5_.1 - (y2.1 + 1) := hk3_5
            refine wi_a1 hc rfl rfl ?_
            refine wi_gr (w := t) hc rfl rfl (by decide) (Nat.le_of_ble_eq_true rfl) rfl ?_
            refine wi_si hc rfl rfl ?_
            refine wi_i2 hc rfl rfl ?_
            refine wi_add hc rfl ?_
            obtain ⟨s6_, hE6_, hM6_, hF6_⟩ := ad_83 (d := 0) (L := L) (l := l) (c := c) hkt hM5_ (show 0 ≤ y5_.2.2 ∧ y5_.2.2 < 300 by omega) (show c ≤ y5_.2.2 by omega) (10000 + (k y2.1))
            refine wp_cv (b := t) (As := [.int (iI (10000 + (k y2.1)))]) (r := []) hc rfl (by rw [cm_83]; rfl) rfl (Nat.le_of_ble_eq_true rfl) (show t < 621 by omega) (by rw [cm_83]; exact congrArg Prod.fst hkt.2.1) (ev_mono hE6_ (by omega)) ?_
            have hF6q : CFR t c s s6_ := hF5q.tr hF6_ (Int.le_refl c)
            show mm_wp _ _ (86, [some (.ref 580), some (.int (iI op9)), some (.int (iI i)), some (.int (iI j)), some (.int (iI (k y2.1)))], [], MX L t s6_ l) _
            refine wi_inc (L' := [some (.ref 580), some (.int (iI op9)), some (.int (iI i)), some (.int (iI (j + 1))), some (.int (iI (k y2.1)))]) hc rfl rfl rfl ?_
            refine wi_go hc rfl ?_
            exact ih2 (302 - y5_.1).toNat (by omega) (rpPut (10000 + (k y2.1)) y5_) s6_ (j + 1) n3 (some (.int (iI (k y2.1)))) (Nat.le_refl _) hM6_ hF6q (by omega) (by show 2 * (j + 1) ≤ y5_.1; omega) (by omega) (by show y1.1 + 1 ≤ y5_.1; omega) (by show y5_.1 + 1 ≤ tn; omega) (by show c ≤ y5_.2.2 + 1; omega) (by show 0 ≤ y5_.2.2 + 1; omega) (by show y5_.2.2 + 1 - y1.2.2 ≤ y5_.1 - y1.1; omega) (by rw [← hR2, rpFac, if_pos (show k y2.1 = 35 ∨ k y2.1 = 36 by omega), hy5_]; rfl)
          · skip
            refine wi_ic hc rfl ?_
            refine wi_r0 hc rfl (by rw [cm_63]; rfl) ?_
            have hr9 : r = (f5_, y5_) := by
              rw [← hR2, rpFac, if_pos (show k y2.1 = 35 ∨ k y2.1 = 36 by omega), hy5_, rpB_n (r := (f5_, y5_)) h5_, rpB_n (r := (f5_, y5_)) h5_]
            subst hr9
            exact ⟨s5_, by rw [bI_f (p := ((f5_, y5_) : rpR).1 = 0) h5_], CRs.no h5_ (hC5_.2.1 h5_).1 (hC5_.2.1 h5_).2 hF5q⟩
        · refine wi_a1 hc rfl rfl ?_
          have hk7_ : mm_Ev mm_ct mm_CM (0 + 1) 53 [.ref 580] (MX L t s2 l) (some (.int (iI (k y2.1))), MX L t s2 l) := by rw [hk]; exact sp_53 (d := 0) (CSt.rR hM2) (by have q := CSt.ra hM2; exact q : s2 580 4 = y2.1) ⟨by omega, by omega⟩
          have hkr7_ := hkr y2.1
          refine wp_cv (b := 580) (As := []) (r := []) hc rfl (by rw [cm_53]; rfl) rfl (Nat.le_of_ble_eq_true rfl) (show 580 < 621 by decide) (by rw [cm_53]; rfl) (ev_mono hk7_ (by omega)) ?_
          show mm_wp _ _ (43, [some (.ref 580), some (.int (iI op9)), some (.int (iI i)), some (.int (iI j)), o4], [.int (iI (k y2.1))], MX L t s2 l) _
          refine wi_bi hc rfl rfl ?_
          refine wi_cne hc rfl ⟨by omega, by omega⟩ ⟨by decide, by decide⟩ (fun h6_ => ?_) (fun h6_ => ?_)
          · have hR3 : rpAdd k (rpOne k nm W m) (n5 + 1) (if 0 < i then rpPut (10000 + op9) y2 else y2) = r := by rw [← hR2, rpFac, if_neg (show ¬ (k y2.1 = 35 ∨ k y2.1 = 36) by omega)]; rfl
            refine wi_i1 hc rfl rfl ?_
            refine wi_zle hc rfl ⟨by omega, by omega⟩ (fun h7_ => ?_) (fun h7_ => ?_)
            · have hR4 : rpAdd k (rpOne k nm W m) (n5 + 1) y2 = r := by rw [← hR3, if_neg (by omega)]
              refine wi_a1 hc rfl rfl ?_
              have hk8_ : mm_Ev mm_ct mm_CM (0 + 1) 53 [.ref 580] (MX L t s2 l) (some (.int (iI (k y2.1))), MX L t s2 l) := by rw [hk]; exact sp_53 (d := 0) (CSt.rR hM2) (by have q := CSt.ra hM2; exact q : s2 580 4 = y2.1) ⟨by omega, by omega⟩
              have hkr8_ := hkr y2.1
              refine wp_cv (b := 580) (As := []) (r := []) hc rfl (by rw [cm_53]; rfl) rfl (Nat.le_of_ble_eq_true rfl) (show 580 < 621 by decide) (by rw [cm_53]; rfl) (ev_mono hk8_ (by omega)) ?_
              show mm_wp _ _ (112, [some (.ref 580), some (.int (iI op9)), some (.int (iI i)), some (.int (iI j)), o4], [.int (iI (k y2.1))], MX L t s2 l) _
              refine wi_is1 (L' := [some (.ref 580), some (.int (iI (k y2.1))), some (.int (iI i)), some (.int (iI j)), o4]) hc rfl (Nat.le_of_ble_eq_true rfl) rfl ?_
              refine wi_i1 hc rfl rfl ?_
              refine wi_bi hc rfl rfl ?_
              refine wi_ceq hc rfl ⟨by omega, by omega⟩ ⟨by decide, by decide⟩ (fun h8_ => ?_) (fun h8_ => ?_)
              · have hnx9 : y2.1 + 1 < tn := by
                  rcases (by omega : y2.1 + 1 < tn ∨ tn - 1 ≤ y2.1) with g | g
                  · exact g
                  · exfalso; have := hk43 y2.1 g; omega
                refine wi_a1 hc rfl rfl ?_
                refine wi_dupr hc rfl ?_
                refine wi_gfv (kz := 4) rfl hc rfl rfl (by decide) (Nat.le_of_ble_eq_true rfl) rfl (v := y2.1) ((by have q := CSt.ra hM2; exact q : s2 580 4 = y2.1)) ?_
                refine wi_ic hc rfl ?_
                refine wi_add hc rfl ?_
                refine wi_pf (kz := 4) rfl hc rfl rfl (by decide) (Nat.le_of_ble_eq_true rfl) rfl (Nat.le_of_ble_eq_true rfl) ⟨rfl, rfl⟩ rfl ?_
                obtain ⟨s9_, es9_⟩ : ∃ q, q = up s2 580 4 (y2.1 + 1) := ⟨_, rfl⟩
                rw [← es9_]
                have hMs9_ : CSt kd pl nm tn t W s9_ (rpNx y2) (8 - (m : Int)) := by rw [es9_]; exact CSt.nx0 hkt hM2 rfl
                have hFs9_ : CFR t c s s9_ := hF2.tr (by rw [es9_]; exact CFR.u hkt (by decide)) (Int.le_refl c)
                refine wi_inc (L' := [some (.ref 580), some (.int (iI (k y2.1))), some (.int (iI (i + 1))), some (.int (iI j)), o4]) hc rfl rfl rfl ?_
                refine wi_go hc rfl ?_
                exact ih (302 - (y2.1 + 1)).toNat (by omega) (rpNx y2) s9_ (i + 1) (k y2.1) n5 (some (.int (iI j))) o4 (Nat.le_refl _) hMs9_ hFs9_ (by omega) (by show 2 * (i + 1) ≤ y2.1 + 1; omega) (by omega) (by show 0 ≤ y2.1 + 1; omega) (by show y2.1 + 1 + 1 ≤ tn; omega) (by show c ≤ y2.2.2; omega) (by show 0 ≤ y2.2.2; omega) (by show y2.2.2 ≤ y2.1 + 1; omega) (fun _ => by show y2.2.2 + 1 ≤ y2.1 + 1; omega) (by omega) (by omega) (by rw [← hR4, rpAdd, if_pos (show k y2.1 = 33 ∨ k y2.1 = 34 from (by omega : k y2.1 = 33 ∨ k y2.1 = 34))]; exact congrArg (rpB _) (funext fun x => congrArg (rpAdd _ _ _) (if_pos (show (0 : Int) < i + 1 by omega))))
              · refine wi_i1 hc rfl rfl ?_
                refine wi_bi hc rfl rfl ?_
                refine wi_ceq hc rfl ⟨by omega, by omega⟩ ⟨by decide, by decide⟩ (fun h9_ => ?_) (fun h9_ => ?_)
                · have hnx9 : y2.1 + 1 < tn := by
                    rcases (by omega : y2.1 + 1 < tn ∨ tn - 1 ≤ y2.1) with g | g
                    · exact g
                    · exfalso; have := hk43 y2.1 g; omega
                  refine wi_a1 hc rfl rfl ?_
                  refine wi_dupr hc rfl ?_
                  refine wi_gfv (kz := 4) rfl hc rfl rfl (by decide) (Nat.le_of_ble_eq_true rfl) rfl (v := y2.1) ((by have q := CSt.ra hM2; exact q : s2 580 4 = y2.1)) ?_
                  refine wi_ic hc rfl ?_
                  refine wi_add hc rfl ?_
                  refine wi_pf (kz := 4) rfl hc rfl rfl (by decide) (Nat.le_of_ble_eq_true rfl) rfl (Nat.le_of_ble_eq_true rfl) ⟨rfl, rfl⟩ rfl ?_
                  obtain ⟨s10_, es10_⟩ : ∃ q, q = up s2 580 4 (y2.1 + 1) := ⟨_, rfl⟩
                  rw [← es10_]
                  have hMs10_ : CSt kd pl nm tn t W s10_ (rpNx y2) (8 - (m : Int)) := by rw [es10_]; exact CSt.nx0 hkt hM2 rfl
                  have hFs10_ : CFR t c s s10_ := hF2.tr (by rw [es10_]; exact CFR.u hkt (by decide)) (Int.le_refl c)
                  refine wi_inc (L' := [some (.ref 580), some (.int (iI (k y2.1))), some (.int (iI (i + 1))), some (.int (iI j)), o4]) hc rfl rfl rfl ?_
                  refine wi_go hc rfl ?_
                  exact ih (302 - (y2.1 + 1)).toNat (by omega) (rpNx y2) s10_ (i + 1) (k y2.1) n5 (some (.int (iI j))) o4 (Nat.le_refl _) hMs10_ hFs10_ (by omega) (by show 2 * (i + 1) ≤ y2.1 + 1; omega) (by omega) (by show 0 ≤ y2.1 + 1; omega) (by show y2.1 + 1 + 1 ≤ tn; omega) (by show c ≤ y2.2.2; omega) (by show 0 ≤ y2.2.2; omega) (by show y2.2.2 ≤ y2.1 + 1; omega) (fun _ => by show y2.2.2 + 1 ≤ y2.1 + 1; omega) (by omega) (by omega) (by rw [← hR4, rpAdd, if_pos (show k y2.1 = 33 ∨ k y2.1 = 34 from (by omega : k y2.1 = 33 ∨ k y2.1 = 34))]; exact congrArg (rpB _) (funext fun x => congrArg (rpAdd _ _ _) (if_pos (show (0 : Int) < i + 1 by omega))))
                · refine wi_ic hc rfl ?_
                  refine wi_r1 hc rfl (by rw [cm_63]; rfl) ?_
                  have hr9 : r = (0, y2) := by
                    rw [← hR4, rpAdd, if_neg (show ¬ (k y2.1 = 33 ∨ k y2.1 = 34) from (by omega : ¬ (k y2.1 = 33 ∨ k y2.1 = 34)))]
                  subst hr9
                  exact ⟨s2, by rw [bI_t (p := ((0, y2) : rpR).1 = 0) rfl], CRs.ok hM2 hF2⟩
            · have hR4 : rpAdd k (rpOne k nm W m) (n5 + 1) (rpPut (10000 + op9) y2) = r := by rw [← hR3, if_pos (by omega)]
              refine wi_a1 hc rfl rfl ?_
              refine wi_gr (w := t) hc rfl rfl (by decide) (Nat.le_of_ble_eq_true rfl) rfl ?_
              refine wi_si hc rfl rfl ?_
              refine wi_i1 hc rfl rfl ?_
              refine wi_add hc rfl ?_
              obtain ⟨s11_, hE11_, hM11_, hF11_⟩ := ad_83 (d := 0) (L := L) (l := l) (c := c) hkt hM2 (show 0 ≤ y2.2.2 ∧ y2.2.2 < 300 by omega) (show c ≤ y2.2.2 by omega) (10000 + op9)
              refine wp_cv (b := t) (As := [.int (iI (10000 + op9))]) (r := []) hc rfl (by rw [cm_83]; rfl) rfl (Nat.le_of_ble_eq_true rfl) (show t < 621 by omega) (by rw [cm_83]; exact congrArg Prod.fst hkt.2.1) (ev_mono hE11_ (by omega)) ?_
              have hF11q : CFR t c s s11_ := hF2.tr hF11_ (Int.le_refl c)
              show mm_wp _ _ (108, [some (.ref 580), some (.int (iI op9)), some (.int (iI i)), some (.int (iI j)), o4], [], MX L t s11_ l) _
              refine wi_a1 hc rfl rfl ?_
              have hk12_ : mm_Ev mm_ct mm_CM (0 + 1) 53 [.ref 580] (MX L t s11_ l) (some (.int (iI (k y2.1))), MX L t s11_ l) := by rw [hk]; exact sp_53 (d := 0) (CSt.rR hM11_) (by have q := CSt.ra hM11_; exact q : s11_ 580 4 = y2.1) ⟨by omega, by omega⟩
              have hkr12_ := hkr y2.1
              refine wp_cv (b := 580) (As := []) (r := []) hc rfl (by rw [cm_53]; rfl) rfl (Nat.le_of_ble_eq_true rfl) (show 580 < 621 by decide) (by rw [cm_53]; rfl) (ev_mono hk12_ (by omega)) ?_
              show mm_wp _ _ (112, [some (.ref 580), some (.int (iI op9)), some (.int (iI i)), some (.int (iI j)), o4], [.int (iI (k y2.1))], MX L t s11_ l) _
              refine wi_is1 (L' := [some (.ref 580), some (.int (iI (k y2.1))), some (.int (iI i)), some (.int (iI j)), o4]) hc rfl (Nat.le_of_ble_eq_true rfl) rfl ?_
              refine wi_i1 hc rfl rfl ?_
              refine wi_bi hc rfl rfl ?_
              refine wi_ceq hc rfl ⟨by omega, by omega⟩ ⟨by decide, by decide⟩ (fun h10_ => ?_) (fun h10_ => ?_)
              · have hnx9 : y2.1 + 1 < tn := by
                  rcases (by omega : y2.1 + 1 < tn ∨ tn - 1 ≤ y2.1) with g | g
                  · exact g
                  · exfalso; have := hk43 y2.1 g; omega
                refine wi_a1 hc rfl rfl ?_
                refine wi_dupr hc rfl ?_
                refine wi_gfv (kz := 4) rfl hc rfl rfl (by decide) (Nat.le_of_ble_eq_true rfl) rfl (v := y2.1) ((by have q := CSt.ra hM11_; exact q : s11_ 580 4 = y2.1)) ?_
                refine wi_ic hc rfl ?_
                refine wi_add hc rfl ?_
                refine wi_pf (kz := 4) rfl hc rfl rfl (by decide) (Nat.le_of_ble_eq_true rfl) rfl (Nat.le_of_ble_eq_true rfl) ⟨rfl, rfl⟩ rfl ?_
                obtain ⟨s13_, es13_⟩ : ∃ q, q = up s11_ 580 4 (y2.1 + 1) := ⟨_, rfl⟩
                rw [← es13_]
                have hMs13_ : CSt kd pl nm tn t W s13_ (rpNx (rpPut (10000 + op9) y2)) (8 - (m : Int)) := by rw [es13_]; exact CSt.nx0 hkt hM11_ rfl
                have hFs13_ : CFR t c s s13_ := hF11q.tr (by rw [es13_]; exact CFR.u hkt (by decide)) (Int.le_refl c)
                refine wi_inc (L' := [some (.ref 580), some (.int (iI (k y2.1))), some (.int (iI (i + 1))), some (.int (iI j)), o4]) hc rfl rfl rfl ?_
                refine wi_go hc rfl ?_
                exact ih (302 - (y2.1 + 1)).toNat (by omega) (rpNx (rpPut (10000 + op9) y2)) s13_ (i + 1) (k y2.1) n5 (some (.int (iI j))) o4 (Nat.le_refl _) hMs13_ hFs13_ (by omega) (by show 2 * (i + 1) ≤ y2.1 + 1; omega) (by omega) (by show 0 ≤ y2.1 + 1; omega) (by show y2.1 + 1 + 1 ≤ tn; omega) (by show c ≤ y2.2.2 + 1; omega) (by show 0 ≤ y2.2.2 + 1; omega) (by show y2.2.2 + 1 ≤ y2.1 + 1; omega) (fun _ => by show y2.2.2 + 1 + 1 ≤ y2.1 + 1; omega) (by omega) (by omega) (by rw [← hR4, rpAdd, if_pos (show k (rpPut (10000 + op9) y2).1 = 33 ∨ k (rpPut (10000 + op9) y2).1 = 34 from (by omega : k y2.1 = 33 ∨ k y2.1 = 34))]; exact congrArg (rpB _) (funext fun x => congrArg (rpAdd _ _ _) (if_pos (show (0 : Int) < i + 1 by omega))))
              · refine wi_i1 hc rfl rfl ?_
                refine wi_bi hc rfl rfl ?_
                refine wi_ceq hc rfl ⟨by omega, by omega⟩ ⟨by decide, by decide⟩ (fun h11_ => ?_) (fun h11_ => ?_)
                · have hnx9 : y2.1 + 1 < tn := by
                    rcases (by omega : y2.1 + 1 < tn ∨ tn - 1 ≤ y2.1) with g | g
                    · exact g
                    · exfalso; have := hk43 y2.1 g; omega
                  refine wi_a1 hc rfl rfl ?_
                  refine wi_dupr hc rfl ?_
                  refine wi_gfv (kz := 4) rfl hc rfl rfl (by decide) (Nat.le_of_ble_eq_true rfl) rfl (v := y2.1) ((by have q := CSt.ra hM11_; exact q : s11_ 580 4 = y2.1)) ?_
                  refine wi_ic hc rfl ?_
                  refine wi_add hc rfl ?_
                  refine wi_pf (kz := 4) rfl hc rfl rfl (by decide) (Nat.le_of_ble_eq_true rfl) rfl (Nat.le_of_ble_eq_true rfl) ⟨rfl, rfl⟩ rfl ?_
                  obtain ⟨s14_, es14_⟩ : ∃ q, q = up s11_ 580 4 (y2.1 + 1) := ⟨_, rfl⟩
                  rw [← es14_]
                  have hMs14_ : CSt kd pl nm tn t W s14_ (rpNx (rpPut (10000 + op9) y2)) (8 - (m : Int)) := by rw [es14_]; exact CSt.nx0 hkt hM11_ rfl
                  have hFs14_ : CFR t c s s14_ := hF11q.tr (by rw [es14_]; exact CFR.u hkt (by decide)) (Int.le_refl c)
                  refine wi_inc (L' := [some (.ref 580), some (.int (iI (k y2.1))), some (.int (iI (i + 1))), some (.int (iI j)), o4]) hc rfl rfl rfl ?_
                  refine wi_go hc rfl ?_
                  exact ih (302 - (y2.1 + 1)).toNat (by omega) (rpNx (rpPut (10000 + op9) y2)) s14_ (i + 1) (k y2.1) n5 (some (.int (iI j))) o4 (Nat.le_refl _) hMs14_ hFs14_ (by omega) (by show 2 * (i + 1) ≤ y2.1 + 1; omega) (by omega) (by show 0 ≤ y2.1 + 1; omega) (by show y2.1 + 1 + 1 ≤ tn; omega) (by show c ≤ y2.2.2 + 1; omega) (by show 0 ≤ y2.2.2 + 1; omega) (by show y2.2.2 + 1 ≤ y2.1 + 1; omega) (fun _ => by show y2.2.2 + 1 + 1 ≤ y2.1 + 1; omega) (by omega) (by omega) (by rw [← hR4, rpAdd, if_pos (show k (rpPut (10000 + op9) y2).1 = 33 ∨ k (rpPut (10000 + op9) y2).1 = 34 from (by omega : k y2.1 = 33 ∨ k y2.1 = 34))]; exact congrArg (rpB _) (funext fun x => congrArg (rpAdd _ _ _) (if_pos (show (0 : Int) < i + 1 by omega))))
                · refine wi_ic hc rfl ?_
                  refine wi_r1 hc rfl (by rw [cm_63]; rfl) ?_
                  have hr9 : r = (0, (rpPut (10000 + op9) y2)) := by
                    rw [← hR4, rpAdd, if_neg (show ¬ (k (rpPut (10000 + op9) y2).1 = 33 ∨ k (rpPut (10000 + op9) y2).1 = 34) from (by omega : ¬ (k y2.1 = 33 ∨ k y2.1 = 34)))]
                  subst hr9
                  exact ⟨s11_, by rw [bI_t (p := ((0, (rpPut (10000 + op9) y2)) : rpR).1 = 0) rfl], CRs.ok hM11_ hF11q⟩
          · have hnx9 : y2.1 + 1 < tn := by
              rcases (by omega : y2.1 + 1 < tn ∨ tn - 1 ≤ y2.1) with g | g
              · exact g
              · exfalso; have := hk43 y2.1 g; omega
            refine wi_a1 hc rfl rfl ?_
            have hk15_ : mm_Ev mm_ct mm_CM (0 + 1) 53 [.ref 580] (MX L t s2 l) (some (.int (iI (k y2.1))), MX L t s2 l) := by rw [hk]; exact sp_53 (d := 0) (CSt.rR hM2) (by have q := CSt.ra hM2; exact q : s2 580 4 = y2.1) ⟨by omega, by omega⟩
            have hkr15_ := hkr y2.1
            refine wp_cv (b := 580) (As := []) (r := []) hc rfl (by rw [cm_53]; rfl) rfl (Nat.le_of_ble_eq_true rfl) (show 580 < 621 by decide) (by rw [cm_53]; rfl) (ev_mono hk15_ (by omega)) ?_
            show mm_wp _ _ (52, [some (.ref 580), some (.int (iI op9)), some (.int (iI i)), some (.int (iI j)), o4], [.int (iI (k y2.1))], MX L t s2 l) _
            refine wi_is2 (L' := [some (.ref 580), some (.int (iI op9)), some (.int (iI i)), some (.int (iI j)), some (.int (iI (k y2.1)))]) hc rfl (Nat.le_of_ble_eq_true rfl) rfl ?_
            refine wi_a1 hc rfl rfl ?_
            refine wi_dupr hc rfl ?_
            refine wi_gfv (kz := 4) rfl hc rfl rfl (by decide) (Nat.le_of_ble_eq_true rfl) rfl (v := y2.1) ((by have q := CSt.ra hM2; exact q : s2 580 4 = y2.1)) ?_
            refine wi_ic hc rfl ?_
            refine wi_add hc rfl ?_
            refine wi_pf (kz := 4) rfl hc rfl rfl (by decide) (Nat.le_of_ble_eq_true rfl) rfl (Nat.le_of_ble_eq_true rfl) ⟨rfl, rfl⟩ rfl ?_
            obtain ⟨s16_, es16_⟩ : ∃ q, q = up s2 580 4 (y2.1 + 1) := ⟨_, rfl⟩
            rw [← es16_]
            have hMs16_ : CSt kd pl nm tn t W s16_ (rpNx y2) (8 - (m : Int)) := by rw [es16_]; exact CSt.nx0 hkt hM2 rfl
            have hFs16_ : CFR t c s s16_ := hF2.tr (by rw [es16_]; exact CFR.u hkt (by decide)) (Int.le_refl c)
            refine wi_a1 hc rfl rfl ?_
            obtain ⟨f17_, y17_, hy17_⟩ : ∃ f y, rpOne k nm W m (rpNx y2) = (f, y) := ⟨_, _, rfl⟩
            obtain ⟨s17_, hE17_, hC17_⟩ := ih1 s16_ l (rpNx y2) hMs16_ _ hy17_ (show rpG tn (rpNx y2) from ⟨by show 0 ≤ y2.1 + 1; omega, by show y2.1 + 1 + 1 ≤ tn; omega, by show 0 ≤ y2.2.2; omega, by show y2.2.2 ≤ y2.1 + 1; omega⟩) c (by show c ≤ y2.2.2; omega)
            refine wp_cv (b := 580) (As := []) (r := []) hc rfl (by rw [cm_64]; rfl) rfl (Nat.le_of_ble_eq_true rfl) (show 580 < 621 by decide) (by rw [cm_64]; rfl) (ev_mono hE17_ (by omega)) ?_
            have hF17q : CFR t c s s17_ := hFs16_.tr hC17_.2.2 (Int.le_refl c)
            show mm_wp _ _ (68, [some (.ref 580), some (.int (iI op9)), some (.int (iI i)), some (.int (iI j)), some (.int (iI (k y2.1)))], [.int (iI (bI (f17_ = 0)))], MX L t s17_ l) _
            refine wi_bne hc rfl (fun h12_ => ?_) (fun h12_ => ?_)
            · subst h12_
              have hM17_ := hC17_.1 rfl
              have hK17_ := rpOne_K hk43 m _ _ hy17_
              obtain ⟨hk1_17, hk2_17, hk3_17, hk4_17, hk5_17⟩ := hK17_
              have hk1_17 : y2.1 + 1 + 1 ≤ y17_.1 := hk1_17
              have hk2_17 : y2.2.2 + 1 ≤ y17_.2.2 := hk2_17
              have hk3_17 : y17_.2.2 - y2.2.2 ≤ y17_.1 - (y2.1 + 1) := hk3_17
              refine wi_a1 hc rfl rfl ?_
              refine wi_gr (w := t) hc rfl rfl (by decide) (Nat.le_of_ble_eq_true rfl) rfl ?_
              refine wi_si hc rfl rfl ?_
              refine wi_i2 hc rfl rfl ?_
              refine wi_add hc rfl ?_
              obtain ⟨s18_, hE18_, hM18_, hF18_⟩ := ad_83 (d := 0) (L := L) (l := l) (c := c) hkt hM17_ (show 0 ≤ y17_.2.2 ∧ y17_.2.2 < 300 by omega) (show c ≤ y17_.2.2 by omega) (10000 + (k y2.1))
              refine wp_cv (b := t) (As := [.int (iI (10000 + (k y2.1)))]) (r := []) hc rfl (by rw [cm_83]; rfl) rfl (Nat.le_of_ble_eq_true rfl) (show t < 621 by omega) (by rw [cm_83]; exact congrArg Prod.fst hkt.2.1) (ev_mono hE18_ (by omega)) ?_
              have hF18q : CFR t c s s18_ := hF17q.tr hF18_ (Int.le_refl c)
              show mm_wp _ _ (86, [some (.ref 580), some (.int (iI op9)), some (.int (iI i)), some (.int (iI j)), some (.int (iI (k y2.1)))], [], MX L t s18_ l) _
              refine wi_inc (L' := [some (.ref 580), some (.int (iI op9)), some (.int (iI i)), some (.int (iI (j + 1))), some (.int (iI (k y2.1)))]) hc rfl rfl rfl ?_
              refine wi_go hc rfl ?_
              exact ih2 (302 - y17_.1).toNat (by omega) (rpPut (10000 + (k y2.1)) y17_) s18_ (j + 1) n3 (some (.int (iI (k y2.1)))) (Nat.le_refl _) hM18_ hF18q (by omega) (by show 2 * (j + 1) ≤ y17_.1; omega) (by omega) (by show y1.1 + 1 ≤ y17_.1; omega) (by show y17_.1 + 1 ≤ tn; omega) (by show c ≤ y17_.2.2 + 1; omega) (by show 0 ≤ y17_.2.2 + 1; omega) (by show y17_.2.2 + 1 - y1.2.2 ≤ y17_.1 - y1.1; omega) (by rw [← hR2, rpFac, if_pos (show k y2.1 = 35 ∨ k y2.1 = 36 by omega), hy17_]; rfl)
            · skip
              refine wi_ic hc rfl ?_
              refine wi_r0 hc rfl (by rw [cm_63]; rfl) ?_
              have hr9 : r = (f17_, y17_) := by
                rw [← hR2, rpFac, if_pos (show k y2.1 = 35 ∨ k y2.1 = 36 by omega), hy17_, rpB_n (r := (f17_, y17_)) h12_, rpB_n (r := (f17_, y17_)) h12_]
              subst hr9
              exact ⟨s17_, by rw [bI_f (p := ((f17_, y17_) : rpR).1 = 0) h12_], CRs.no h12_ (hC17_.2.1 h12_).1 (hC17_.2.1 h12_).2 hF17q⟩
      exact loop23_ (302 - y1_.1).toNat y1_ s1_ 0 301 o4 (Nat.le_refl _) hM1_ hF1q (by omega) (by omega) (by omega) (by omega) (by omega) (by omega) (by omega) (by omega) (by rw [← hR1, rpPrd, hy1_]; rfl)
    · skip
      refine wi_ic hc rfl ?_
      refine wi_r0 hc rfl (by rw [cm_63]; rfl) ?_
      have hr9 : r = (f1_, y1_) := by
        rw [← hR1, rpPrd, hy1_, rpB_n (r := (f1_, y1_)) h2_, rpB_n (r := (f1_, y1_)) h2_]
      subst hr9
      exact ⟨s1_, by rw [bI_f (p := ((f1_, y1_) : rpR).1 = 0) h2_], CRs.no h2_ (hC1_.2.1 h2_).1 (hC1_.2.1 h2_).2 hF1q⟩
  exact loop5_ (302 - z.1).toNat z s 0 44 301 none none (Nat.le_refl _) h CFR.rf (by omega) (by omega) (by omega) (by omega) (by omega) hcc (by omega) (by omega) (by omega) (by omega) (by omega) (by rw [← hr]; rfl)
theorem c_all {L t : Nat} (hkt : KT L t t) {kd k pl nm : Int → Int} {tn W : Int} (hGC : GTC kd k pl nm tn) (hW0 : 0 ≤ W ∧ W ≤ 44) : ∀ m : Nat, m ≤ 8 → cOne L t kd k pl nm tn W m ∧ cSum L t kd k pl nm tn W m := by
  have hS : ∀ m : Nat, m ≤ 8 → cOne L t kd k pl nm tn W m → cSum L t kd k pl nm tn W m := fun m hm h1 s l z h r hr hg c hcc => by
    obtain ⟨s1, e, g⟩ := su_63 (D := 2 * m + 5) (l := l) (Nat.le_refl _) hkt hGC hW0 hm h1 h hr hg hcc
    exact ⟨s1, e, g⟩
  intro m
  induction m with
  | zero =>
    intro _
    have h1 : cOne L t kd k pl nm tn W 0 := fun s l z h r hr hg c hcc => by
      obtain ⟨s1, e, g⟩ := on_64z (D := 4) (l := l) (Nat.le_refl _) hkt hGC hW0 h hr hg hcc
      exact ⟨s1, e, g⟩
    exact ⟨h1, hS 0 (by decide) h1⟩
  | succ m ih =>
    intro hm
    obtain ⟨i1, i2⟩ := ih (by omega)
    have h1 : cOne L t kd k pl nm tn W (m + 1) := fun s l z h r hr hg c hcc => by
      obtain ⟨s1, e, g⟩ := on_64s (D := 2 * m + 6) (l := l) (Nat.le_refl _) hkt hGC hW0 hm i1 i2 h hr hg hcc
      exact ⟨s1, ev_mono e (by omega), g⟩
    exact ⟨h1, hS (m + 1) hm h1⟩
