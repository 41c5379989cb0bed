/-! The model's GAME itself. -/
theorem dg_mem {m : Nat} (hm : m < 7) {n e : Int} (n0 : 0 ≤ n) (n1 : n < fct m) (e0 : 0 ≤ e) (e1 : e < m) : ∃ p, 0 ≤ p ∧ p < (m : Int) ∧ dgI m n p = e := by
  have db := dg_ok hm n0 n1
  obtain ⟨q, hq, h⟩ := surj_inj (n := m) (f := fun i => dgI m n i) (fun i hi => db.1 i (by omega) (by omega)) (fun x y hxy hy => db.2.1 x y (by omega) (by omega) (by omega)) (k := e.toNat) (by omega)
  have h : dgI m n q = ((e.toNat : Nat) : Int) := h
  exact ⟨q, by omega, by omega, by omega⟩
theorem isat_iff {S : Int} {m : Nat} (hm9 : (blN S.toNat 10).length = m) (hm : m < 7) {n e p b : Int} (n0 : 0 ≤ n) (n1 : n < fct m) (e0 : 0 ≤ e) (e1 : e < m) (eb : elF S e = b) (p0 : 0 ≤ p) (p1 : p < (m : Int)) : elF S (dgI m n p) = b ↔ p = psF (dgI m n) m e := by
  have db := dg_ok hm n0 n1
  have h := psF_ok db.2.1 (dg_mem hm n0 n1 e0 e1)
  have g := db.1 p p0 p1
  rw [← h.2.2.2 p p0 p1]
  constructor
  · intro z
    rcases Int.lt_trichotomy (dgI m n p) e with y | y | y
    · have := elF_mono hm9 g.1 y e1; omega
    · exact y
    · have := elF_mono hm9 e0 y g.2; omega
  · intro z; rw [z, eb]
def lfI (u : Int) : Int := if u % 2 = 0 then 1 else 0
theorem lfI_s (u : Int) : lfI (u + 1) = 1 - lfI u := by
  unfold lfI
  by_cases h : u % 2 = 0
  · rw [if_pos h, if_neg (by omega)]; rfl
  · rw [if_neg h, if_pos (by omega)]; rfl
theorem lfI_01 (u : Int) : lfI u = 0 ∨ lfI u = 1 := by
  unfold lfI
  split
  · exact Or.inr rfl
  · exact Or.inl rfl
theorem bo_gm {c : Int → Int → Int} {S eb : Int} {m r : Nat} {n k lf : Int} {W : Int → Int} (hm : m < 7) (n0 : 0 ≤ n) (n1 : n < fct m) (h : ∀ q, 0 ≤ q → q < ((fct m : Nat) : Int) → W q = gmV (cE c S) m eb r (dgI m q) (k + 1) (1 - lf)) : gmS (fun p => W (ldO c S m n p (k % 2))) lf (if lf = 1 then (m : Int) else -1) m = gmV (cE c S) m eb (r + 1) (dgI m n) k lf := by
  rw [gmV, Int.toNat_natCast]
  refine gmS_congr _ (fun p p0 p1 => ?_)
  have hl := ld_ok (c := c) (S := S) hm n0 n1 (p := p) (k := k % 2) (by omega) (Int.emod_nonneg _ (by decide))
  show W (ldO c S m n p (k % 2)) = _
  rw [h _ hl.1.1 hl.1.2]
  exact gmV_congr r _ _ _ _ hl.2
/-- what an order is worth with r moves left -/
def gvI (c : Int → Int → Int) (S : Int) (m : Nat) (eb : Int) (r : Nat) (k lf q : Int) : Int := gmV (cE c S) m eb r (dgI m q) k lf
theorem gvI_r {c : Int → Int → Int} {S eb : Int} {m : Nat} (hm : m < 7) (hne : 1 ≤ (m : Int)) (e0 : 0 ≤ eb) (e1 : eb < m) (r : Nat) (k lf : Int) : ∀ q, 0 ≤ q → q < ((fct m : Nat) : Int) → 0 ≤ gvI c S m eb r k lf q ∧ gvI c S m eb r k lf q < (m : Int) := fun q q0 q1 => gmV_r hne r _ _ _ (dg_ok hm q0 q1).2.1 (dg_mem hm q0 q1 e0 e1)
/-- from the model's orders to the shelf's books -/
theorem gm_sh {A : Int → Int} {c : Int → Int → Int} (hB : okB A) {x b : Int} (x0 : 0 ≤ x) (x1 : x < 3) (h6 : A (13 + x) ≤ 6) {eb : Int} (e0 : 0 ≤ eb) (e1 : eb < A (13 + x)) (hb : elF (sSx A x) eb = b) (r : Nat) (k lf : Int) : gmV c (A (13 + x)) b r (shF A x) k lf = gvI c (sSx A x) (mS (sSx A x)) eb r k lf (sKx A x) := by
  have gm := hB.2.1 x x0 x1
  have h := sx_ok hB x0 x1 h6
  have hm := h.2.1
  have hk := h.2.2.1
  have hd := dg_ok (m := (A (13 + x)).toNat) (by omega) hk.1 hk.2
  unfold gvI
  have eN : A (13 + x) = (((A (13 + x)).toNat : Nat) : Int) := by omega
  rw [hm, ← gmV_el (c := c) (S := sSx A x) (e := eb) (m := (A (13 + x)).toNat) hm e0 (by omega) r _ k lf (fun q a b9 => hd.1 q a b9), hb, ← eN]
  exact gmV_congr r _ _ _ _ (fun q q0 q1 => ((h.2.2.2 q q0 q1).2).symm)
theorem nF_sh {A : Int → Int} {c : Int → Int → Int} (hB : okB A) {x b : Int} (x0 : 0 ≤ x) (x1 : x < 3) (h6 : A (13 + x) ≤ 6) {eb : Int} (e0 : 0 ≤ eb) (e1 : eb < A (13 + x)) (hb : elF (sSx A x) eb = b) (r : Nat) (k p : Int) (hp : p = -1 ∨ (0 ≤ p ∧ p + 1 < A (13 + x))) : gmV c (A (13 + x)) b r (nF c (A (13 + x)) (k % 2) (mvF (shF A x) p)) (k + 1) 0 = gvI c (sSx A x) (mS (sSx A x)) eb r (k + 1) 0 (ldO c (sSx A x) (mS (sSx A x)) (sKx A x) p (k % 2)) := by
  have gm := hB.2.1 x x0 x1
  have h := sx_ok hB x0 x1 h6
  have hm := h.2.1
  have hk := h.2.2.1
  have hd := dg_ok (m := (A (13 + x)).toNat) (by omega) hk.1 hk.2
  have eN : A (13 + x) = (((A (13 + x)).toNat : Nat) : Int) := by omega
  unfold gvI
  rw [hm]
  have hl := ld_ok (c := c) (S := sSx A x) (m := (A (13 + x)).toNat) (by omega) hk.1 hk.2 (p := p) (k := k % 2) (by omega) (Int.emod_nonneg _ (by decide))
  have hld := dg_ok (m := (A (13 + x)).toNat) (by omega) hl.1.1 hl.1.2
  rw [← gmV_el (c := c) (S := sSx A x) (e := eb) (m := (A (13 + x)).toNat) hm e0 (by omega) r _ _ _ (fun q a b9 => hld.1 q a b9), hb, ← eN]
  refine gmV_congr r _ _ _ _ (fun q q0 q1 => ?_)
  rw [hl.2 q q0 (by omega), ← nF_el]
  rw [← eN]
  refine nF_congr (fun q q0 q1 => ?_) (fun _ _ _ => rfl) (Int.emod_nonneg _ (by decide)) q0 q1
  rw [← mvF_el]
  exact mvF_congr (fun q q0 q1 => ((h.2.2.2 q q0 q1).2).symm) hp q q0 q1
theorem sp_270 {d L t : Nat} {s l : Nat → Int → Int} {A T : Int → Int} (hJ : JM s A T) (hK : KA A T) {b x p : Int} (hb : rI b) (hx : 0 ≤ x ∧ x < 3) (hp : rI p) : mm_Ev mm_ct mm_CM (d + 4) 270 [.ref 598, .int (iI b), .int (iI x), .int (iI p)] (MX L t s l) (some (.int (iI (bI (((0 ≤ b ∧ b < A 0) ∧ A (46 + 6 * b + 5) = x) ∧ (0 ≤ p ∧ p < A (13 + x)))))), MX L t s l) := by
  have hc : (mm_CM 270).2.2.2.2.2.2.2 = mm_cf cd_270 := by rw [cm_270]; rfl
  refine ev_of (mx := 4) (by rw [cm_270]; decide) (by rw [cm_270]; rfl) (by show 4 ≤ _; decide) ?_
  show mm_wp _ _ (0, [some (.ref 598), some (.int (iI b)), some (.int (iI x)), some (.int (iI p))], [], MX L t s l) (fun r => r = (some (.int (iI (bI (((0 ≤ b ∧ b < A 0) ∧ A (46 + 6 * b + 5) = x) ∧ (0 ≤ p ∧ p < A (13 + x)))))), MX L t s l))
  have hV := hK.1
  have hB := hK.2.1
  have g0 := hB.1
  have gm := hB.2.1 x (by omega) (by omega)
  refine wi_a1 hc rfl rfl ?_
  refine wi_i1 hc rfl rfl ?_
  refine wp_cv (b := 598) (As := [.int (iI b)]) (r := []) hc rfl (by rw [cm_156]; rfl) rfl (Nat.le_of_ble_eq_true rfl) (show 598 < 621 by decide) (by rw [cm_156]; rfl) (ev_mono (sp_156 (d := 0) hJ hK.2.1 hb) (by omega)) ?_
  show mm_wp _ _ (5, [some (.ref 598), some (.int (iI b)), some (.int (iI x)), some (.int (iI p))], [.int (iI (bI ((0 ≤ b ∧ b < A 0) ∧ A (46 + 6 * b + 5) < 3)))], MX L t s l) _
  refine wi_beq hc rfl (fun h1_ => ?_) (fun h1_ => ?_)
  · refine wi_ic hc rfl ?_
    refine wi_r0 hc rfl (by rw [cm_270]; rfl) ?_
    rw [bI_f (p := ((0 ≤ b ∧ b < A 0) ∧ A (46 + 6 * b + 5) = x) ∧ (0 ≤ p ∧ p < A (13 + x))) (by omega)]
  · have gw := (hB.2.2.2.2 b (by omega) (by omega)).1
    refine wi_a1 hc rfl rfl ?_
    refine wi_i1 hc rfl rfl ?_
    refine wi_ic hc rfl ?_
    refine wp_cv (b := 598) (As := [.int (iI b), .int (iI 5)]) (r := []) hc rfl (by rw [cm_153]; rfl) rfl (Nat.le_of_ble_eq_true rfl) (show 598 < 621 by decide) (by rw [cm_153]; rfl) (ev_mono (sg_153 (d := 0) (hJ.1) (by omega) (by omega) (by omega) (by omega)) (by omega)) ?_
    show mm_wp _ _ (14, [some (.ref 598), some (.int (iI b)), some (.int (iI x)), some (.int (iI p))], [.int (iI (A (46 + 6 * b + 5)))], MX L t s l) _
    refine wi_i1 hc rfl rfl ?_
    refine wi_cne hc rfl ⟨by omega, by omega⟩ ⟨by omega, by omega⟩ (fun h2_ => ?_) (fun h2_ => ?_)
    · refine wi_ic hc rfl ?_
      refine wi_r0 hc rfl (by rw [cm_270]; rfl) ?_
      rw [bI_f (p := ((0 ≤ b ∧ b < A 0) ∧ A (46 + 6 * b + 5) = x) ∧ (0 ≤ p ∧ p < A (13 + x))) (by omega)]
    · refine wi_i1 hc rfl rfl ?_
      refine wi_ic hc rfl ?_
      refine wi_a1 hc rfl rfl ?_
      refine wi_gr (w := 599) hc rfl rfl (by decide) (Nat.le_of_ble_eq_true rfl) rfl ?_
      refine wi_bi hc rfl rfl ?_
      refine wi_i1 hc rfl rfl ?_
      refine wi_add hc rfl ?_
      refine wi_ildv (N := 3642) hc rfl rfl (by decide) (by decide) (by omega) (by omega) (v := A (13 + x)) (congrFun (hJ.1) _) ?_
      refine wi_ic hc rfl ?_
      refine wi_sub hc rfl ?_
      refine wp_cs (As := [.int (iI p), .int (iI 0), .int (iI ((A (13 + x)) - 1))]) (r := []) hc rfl (by rw [cm_148]; rfl) rfl (Nat.le_of_ble_eq_true rfl) (ev_mono (sp_148 (d := 0) hp ⟨by decide, by decide⟩ ⟨by omega, by omega⟩) (by omega)) ?_
      show mm_wp _ _ (34, [some (.ref 598), some (.int (iI b)), some (.int (iI x)), some (.int (iI p))], [.int (iI (bI (0 ≤ p ∧ p ≤ (A (13 + x)) - 1)))], MX L t s l) _
      refine wi_b01 hc rfl rfl rfl rfl (bI_01 _) ?_
      refine wi_rb hc rfl (by rw [cm_270]; rfl) ?_
      rw [show bI (0 ≤ p ∧ p ≤ (A (13 + x)) - 1) = bI (((0 ≤ b ∧ b < A 0) ∧ A (46 + 6 * b + 5) = x) ∧ (0 ≤ p ∧ p < A (13 + x))) by unfold bI; congr 1; exact propext ⟨fun h => by omega, fun h => by omega⟩]
/-- some place from p on has the value v -/
def exG (g : Int → Int) (v M p : Int) : Prop := ∃ q, p ≤ q ∧ q + 1 < M ∧ g q = v
theorem exG_1 {g : Int → Int} {v M p : Int} (h : exG g v M p) : p + 1 < M := by obtain ⟨q, a, b, _⟩ := h; omega
theorem exG_2 {g : Int → Int} {v M p : Int} (h : exG g v M p) (e : g p ≠ v) : exG g v M (p + 1) := by
  obtain ⟨q, a, b, c⟩ := h
  refine ⟨q, ?_, b, c⟩
  rcases (by omega : q = p ∨ p + 1 ≤ q) with z | z
  · exact absurd (by rw [← z]; exact c) e
  · exact z
theorem sx_eb {A : Int → Int} (hB : okB A) {x b : Int} (x0 : 0 ≤ x) (x1 : x < 3) (h6 : A (13 + x) ≤ 6) (b0 : 0 ≤ b) (b1 : b < A 0) (hb : A (46 + 6 * b + 5) = x) : ∃ eb, 0 ≤ eb ∧ eb < A (13 + x) ∧ elF (sSx A x) eb = b := by
  have gm := hB.2.1 x x0 x1
  have h := sx_ok hB x0 x1 h6
  have hd := dg_ok (m := (A (13 + x)).toNat) (by omega) h.2.2.1.1 h.2.2.1.2
  have hat := shF_at hB (b := b) b0 b1 (by omega)
  rw [hb] at hat
  obtain ⟨p, p0, p1, e⟩ := hat
  have hp := h.2.2.2 p p0 p1
  have hq := hd.1 p p0 (by omega)
  exact ⟨dgI (A (13 + x)).toNat (sKx A x) p, hq.1, by omega, by rw [hp.2]; exact e⟩
theorem sp_274 {d L t : Nat} {s l : Nat → Int → Int} {A T : Int → Int} (hJ : JM s A T) (hK : KA A T) {x b n first : Int} (hx : rI x) (hb : rI b) (hn : rI n) (hf : first = 0 ∨ first = 1) : ∃ s1 l1, mm_Ev mm_ct mm_CM (d + 10) 274 [.ref 598, .int (iI x), .int (iI b), .int (iI n), .int (iI first)] (MX L t s l) (some (.int (iI (gameP A T x b n first))), MX L t s1 l1) ∧ (∀ c, c ≠ 598 ∧ c ≠ 604 ∧ c ≠ 606 ∧ c ≠ 607 ∧ c ≠ 610 ∧ c ≠ 611 ∧ c ≠ 612 ∧ c ≠ 613 ∧ c ≠ 614 ∧ c ≠ 617 ∧ c ≠ 618 → s1 c = s c) ∧ (∀ c, c ≠ 605 → l1 c = l c) ∧ (∀ k, k ≠ 34 → k ≠ 35 → s1 598 k = s 598 k) ∧ JM s1 A T := by
  have hc : (mm_CM 274).2.2.2.2.2.2.2 = mm_cf cd_274 := by rw [cm_274]; rfl
  refine ev_xsl ?_
  refine ev_to (mx := 9) (by rw [cm_274]; decide) (by rw [cm_274]; rfl) (by show 5 ≤ _; decide) ?_
  show mm_wp _ _ (0, [some (.ref 598), some (.int (iI x)), some (.int (iI b)), some (.int (iI n)), some (.int (iI first)), none, none, none, none], [], MX L t s l) (fun res => ∃ s1 l1, res = (some (.int (iI (gameP A T x b n first))), MX L t s1 l1) ∧ (∀ c, c ≠ 598 ∧ c ≠ 604 ∧ c ≠ 606 ∧ c ≠ 607 ∧ c ≠ 610 ∧ c ≠ 611 ∧ c ≠ 612 ∧ c ≠ 613 ∧ c ≠ 614 ∧ c ≠ 617 ∧ c ≠ 618 → s1 c = s c) ∧ (∀ c, c ≠ 605 → l1 c = l c) ∧ (∀ k, k ≠ 34 → k ≠ 35 → s1 598 k = s 598 k) ∧ JM s1 A T)
  have hV := hK.1
  have hB := hK.2.1
  have g0 := hB.1
  have h1 := hK.2.2.1.1
  have hpw := pw_10 g0.1 g0.2
  refine wi_i1 hc rfl rfl ?_
  refine wp_cs (As := [.int (iI x)]) (r := []) hc rfl (by rw [cm_152]; rfl) rfl (Nat.le_of_ble_eq_true rfl) (ev_mono (sp_152 (d := 0) hx) (by omega)) ?_
  show mm_wp _ _ (4, [some (.ref 598), some (.int (iI x)), some (.int (iI b)), some (.int (iI n)), some (.int (iI first)), none, none, none, none], [.int (iI (bI (0 ≤ x ∧ x ≤ 2)))], MX L t s l) _
  refine wi_beq hc rfl (fun h1_ => ?_) (fun h1_ => ?_)
  · refine wi_bi hc rfl rfl ?_
    refine wi_ri hc rfl (by rw [cm_274]; rfl) ?_
    have hR : gameP A T x b n first = -2 := by unfold gameP; rw [if_neg (by omega)]
    rw [hR]
    exact ⟨s, l, rfl, fun c _ => rfl, fun c _ => rfl, fun k _ _ => rfl, hJ⟩
  · have gm0 := hB.2.1 x (by omega) (by omega)
    refine wi_a1 hc rfl rfl ?_
    refine wi_gr (w := 599) hc rfl rfl (by decide) (Nat.le_of_ble_eq_true rfl) rfl ?_
    refine wi_bi hc rfl rfl ?_
    refine wi_i1 hc rfl rfl ?_
    refine wi_add hc rfl ?_
    refine wi_ildv (N := 3642) hc rfl rfl (by decide) (by decide) (by omega) (by omega) (v := A (13 + x)) (congrFun (hJ.1) _) ?_
    refine wi_ic hc rfl ?_
    refine wi_ic hc rfl ?_
    refine wp_cs (As := [.int (iI (A (13 + x))), .int (iI 2), .int (iI 5)]) (r := []) hc rfl (by rw [cm_148]; rfl) rfl (Nat.le_of_ble_eq_true rfl) (ev_mono (sp_148 (d := 0) ⟨by omega, by omega⟩ ⟨by decide, by decide⟩ ⟨by decide, by decide⟩) (by omega)) ?_
    show mm_wp _ _ (21, [some (.ref 598), some (.int (iI x)), some (.int (iI b)), some (.int (iI n)), some (.int (iI first)), none, none, none, none], [.int (iI (bI (2 ≤ A (13 + x) ∧ A (13 + x) ≤ 5)))], MX L t s l) _
    refine wi_beq hc rfl (fun h2_ => ?_) (fun h2_ => ?_)
    · refine wi_bi hc rfl rfl ?_
      refine wi_ri hc rfl (by rw [cm_274]; rfl) ?_
      have hR : gameP A T x b n first = -2 := by unfold gameP; rw [if_neg (by omega)]
      rw [hR]
      exact ⟨s, l, rfl, fun c _ => rfl, fun c _ => rfl, fun k _ _ => rfl, hJ⟩
    · refine wi_a1 hc rfl rfl ?_
      refine wi_i1 hc rfl rfl ?_
      refine wi_i1 hc rfl rfl ?_
      refine wi_ic hc rfl ?_
      refine wp_cv (b := 598) (As := [.int (iI b), .int (iI x), .int (iI 0)]) (r := []) hc rfl (by rw [cm_270]; rfl) rfl (Nat.le_of_ble_eq_true rfl) (show 598 < 621 by decide) (by rw [cm_270]; rfl) (ev_mono (sp_270 (d := 0) hJ hK (b := b) (x := x) (p := 0) hb (by omega) ⟨by decide, by decide⟩) (by omega)) ?_
      show mm_wp _ _ (31, [some (.ref 598), some (.int (iI x)), some (.int (iI b)), some (.int (iI n)), some (.int (iI first)), none, none, none, none], [.int (iI (bI (((0 ≤ b ∧ b < A 0) ∧ A (46 + 6 * b + 5) = x) ∧ (0 ≤ 0 ∧ 0 < A (13 + x)))))], MX L t s l) _
      refine wi_beq hc rfl (fun h3_ => ?_) (fun h3_ => ?_)
      · refine wi_bi hc rfl rfl ?_
        refine wi_ri hc rfl (by rw [cm_274]; rfl) ?_
        have hR : gameP A T x b n first = -2 := by unfold gameP; rw [if_neg (by omega)]
        rw [hR]
        exact ⟨s, l, rfl, fun c _ => rfl, fun c _ => rfl, fun k _ _ => rfl, hJ⟩
      · refine wi_i1 hc rfl rfl ?_
        refine wi_ic hc rfl ?_
        refine wi_ic hc rfl ?_
        refine wp_cs (As := [.int (iI n), .int (iI 1), .int (iI 5)]) (r := []) hc rfl (by rw [cm_148]; rfl) rfl (Nat.le_of_ble_eq_true rfl) (ev_mono (sp_148 (d := 0) hn ⟨by decide, by decide⟩ ⟨by decide, by decide⟩) (by omega)) ?_
        show mm_wp _ _ (40, [some (.ref 598), some (.int (iI x)), some (.int (iI b)), some (.int (iI n)), some (.int (iI first)), none, none, none, none], [.int (iI (bI (1 ≤ n ∧ n ≤ 5)))], MX L t s l) _
        refine wi_bne hc rfl (fun h4_ => ?_) (fun h4_ => ?_)
        · refine wi_a1 hc rfl rfl ?_
          refine wi_i1 hc rfl rfl ?_
          have hx9 : 0 ≤ x ∧ x < 3 := by omega
          have gm := hB.2.1 x hx9.1 hx9.2
          have hsx := sx_ok hB hx9.1 hx9.2 (by omega)
          have hm7 : mS (sSx A x) < 7 := by omega
          have hmN : ((mS (sSx A x) : Nat) : Int) = A (13 + x) := by omega
          have hfm := fct_r (mS (sSx A x))
          have hk0 : 0 ≤ sKx A x ∧ sKx A x < ((fct (mS (sSx A x)) : Nat) : Int) := by have h := hsx.2.2.1; rw [← hsx.2.1] at h; exact h
          obtain ⟨eb, eb0, eb1, hebb⟩ := sx_eb hB (x := x) (b := b) hx9.1 hx9.2 (by omega) (by omega) (by omega) (by omega)
          have eb2 : eb < ((mS (sSx A x) : Nat) : Int) := by omega
          have hne : 1 ≤ ((mS (sSx A x) : Nat) : Int) := by omega
          obtain ⟨s1_, l1_, hE1_, hF1_, hG1_, hk1_, hJ1_, hO9, hM9, hL9, hC9⟩ := sp_267 (d := 0) (L := L) (t := t) (l := l) hJ hK (x := x) hx9.1 hx9.2 (by omega)
          refine wp_cv (b := 598) (As := [.int (iI x)]) (r := []) hc rfl (by rw [cm_267]; rfl) rfl (Nat.le_of_ble_eq_true rfl) (show 598 < 621 by decide) (by rw [cm_267]; rfl) (ev_mono hE1_ (by omega)) ?_
          show mm_wp _ _ (51, [some (.ref 598), some (.int (iI x)), some (.int (iI b)), some (.int (iI n)), some (.int (iI first)), none, none, none, none], [.int (iI (sKx A x))], MX L t s1_ l1_) _
          refine wi_is2 (L' := [some (.ref 598), some (.int (iI x)), some (.int (iI b)), some (.int (iI n)), some (.int (iI first)), some (.int (iI (sKx A x))), none, none, none]) hc rfl (Nat.le_of_ble_eq_true rfl) rfl ?_
          refine wi_ic hc rfl ?_
          refine wi_is2 (L' := [some (.ref 598), some (.int (iI x)), some (.int (iI b)), some (.int (iI n)), some (.int (iI first)), some (.int (iI (sKx A x))), some (.int (iI 0)), none, none]) hc rfl (Nat.le_of_ble_eq_true rfl) rfl ?_
          have loop56_ : ∀ k : Int, k ≤ ((fct (mS (sSx A x)) : Nat) : Int) → 0 ≤ k → ∀ (o7 : Option Value) (s3 : Nat → Int → Int), (∀ c, c ≠ 617 → s3 c = s1_ c) → (∀ q, 0 ≤ q → q < k → s3 617 q = psF (dgI (mS (sSx A x)) q) ((mS (sSx A x) : Nat) : Int) eb) → mm_wp (mm_Ev mm_ct mm_CM (d + 9)) 274 (56, [some (.ref 598), some (.int (iI x)), some (.int (iI b)), some (.int (iI n)), some (.int (iI first)), some (.int (iI (sKx A x))), some (.int (iI k)), o7, none], [], MX L t s3 l1_) (fun res => ∃ s1 l1, res = (some (.int (iI (gameP A T x b n first))), MX L t s1 l1) ∧ (∀ c, c ≠ 598 ∧ c ≠ 604 ∧ c ≠ 606 ∧ c ≠ 607 ∧ c ≠ 610 ∧ c ≠ 611 ∧ c ≠ 612 ∧ c ≠ 613 ∧ c ≠ 614 ∧ c ≠ 617 ∧ c ≠ 618 → s1 c = s c) ∧ (∀ c, c ≠ 605 → l1 c = l c) ∧ (∀ k, k ≠ 34 → k ≠ 35 → s1 598 k = s 598 k) ∧ JM s1 A T) := by
            refine up_ind ?_
            intro k hk9 ih k0 o7 s3 hF3 hw3
            have hJ_s3 := hJ1_.of (hF3 599 (by decide)) (hF3 601 (by decide)) (hF3 604 (by decide))
            have hO_s3 := hO9.of (hF3 598 (by decide)) (hF3 610 (by decide))
            have hM_s3 := hM9.of (hF3 613 (by decide))
            have hL_s3 := hL9.of (hF3 611 (by decide)) (hF3 612 (by decide))
            refine wi_i2 hc rfl rfl ?_
            refine wi_a1 hc rfl rfl ?_
            refine wi_gfv (kz := 35) rfl hc rfl rfl (by decide) (Nat.le_of_ble_eq_true rfl) rfl (v := ((fct (mS (sSx A x)) : Nat) : Int)) (hO_s3.2.1) ?_
            refine wi_cge hc rfl ⟨by omega, by omega⟩ ⟨by omega, by omega⟩ (fun h5_ => ?_) (fun h5_ => ?_)
            · refine wi_i1 hc rfl rfl ?_
              refine wi_ic hc rfl ?_
              refine wi_sub hc rfl ?_
              refine wi_is2 (L' := [some (.ref 598), some (.int (iI x)), some (.int (iI b)), some (.int (iI n)), some (.int (iI first)), some (.int (iI (sKx A x))), some (.int (iI (n - 1))), o7, none]) hc rfl (Nat.le_of_ble_eq_true rfl) rfl ?_
              have loop115_ : ∀ j : Int, j ≤ n - 1 → 0 ≤ j → ∀ (mv : Int), mv = n - 1 - j → ∀ (o7 : Option Value) (s5 : Nat → Int → Int), (∀ c, c ≠ 614 ∧ c ≠ 617 ∧ c ≠ 618 → s5 c = s1_ c) → (∀ q, 0 ≤ q → q < ((fct (mS (sSx A x)) : Nat) : Int) → s5 617 q = gvI (cF A T) (sSx A x) (mS (sSx A x)) eb j.toNat (A 1 + mv + 1) (lfI (mv + 1)) q) → mm_wp (mm_Ev mm_ct mm_CM (d + 9)) 274 (115, [some (.ref 598), some (.int (iI x)), some (.int (iI b)), some (.int (iI n)), some (.int (iI first)), some (.int (iI (sKx A x))), some (.int (iI mv)), o7, none], [], MX L t s5 l1_) (fun res => ∃ s1 l1, res = (some (.int (iI (gameP A T x b n first))), MX L t s1 l1) ∧ (∀ c, c ≠ 598 ∧ c ≠ 604 ∧ c ≠ 606 ∧ c ≠ 607 ∧ c ≠ 610 ∧ c ≠ 611 ∧ c ≠ 612 ∧ c ≠ 613 ∧ c ≠ 614 ∧ c ≠ 617 ∧ c ≠ 618 → s1 c = s c) ∧ (∀ c, c ≠ 605 → l1 c = l c) ∧ (∀ k, k ≠ 34 → k ≠ 35 → s1 598 k = s 598 k) ∧ JM s1 A T) := by
                refine up_ind ?_
                intro j hj9 ihj j0 mv hmv o7 s5 hF5 hw5
                have hJ_s5 := hJ1_.of (hF5 599 (by decide)) (hF5 601 (by decide)) (hF5 604 (by decide))
                have hO_s5 := hO9.of (hF5 598 (by decide)) (hF5 610 (by decide))
                have hM_s5 := hM9.of (hF5 613 (by decide))
                have hL_s5 := hL9.of (hF5 611 (by decide)) (hF5 612 (by decide))
                refine wi_i2 hc rfl rfl ?_
                refine wi_zle hc rfl ⟨by omega, by omega⟩ (fun h6_ => ?_) (fun h6_ => ?_)
                · refine wi_a1 hc rfl rfl ?_
                  refine wi_gr (w := 599) hc rfl rfl (by decide) (Nat.le_of_ble_eq_true rfl) rfl ?_
                  refine wi_ic hc rfl ?_
                  refine wi_ildv (N := 3642) hc rfl rfl (by decide) (by decide) (by omega) (by omega) (v := A 1) (congrFun (hJ_s5.1) _) ?_
                  refine wi_ic hc rfl ?_
                  refine wi_remp hc rfl ⟨by omega, by omega⟩ ⟨by decide, by decide⟩ (by omega) (by omega) ?_
                  refine wi_is2 (L' := [some (.ref 598), some (.int (iI x)), some (.int (iI b)), some (.int (iI n)), some (.int (iI first)), some (.int (iI (sKx A x))), some (.int (iI ((A 1) % 2))), o7, none]) hc rfl (Nat.le_of_ble_eq_true rfl) rfl ?_
                  refine wi_a1 hc rfl rfl ?_
                  refine wi_i2 hc rfl rfl ?_
                  refine wi_i2 hc rfl rfl ?_
                  refine wi_ic hc rfl ?_
                  have hw0 : ∀ q, 0 ≤ q → q < ((fct (mS (sSx A x)) : Nat) : Int) → s5 617 q = gvI (cF A T) (sSx A x) (mS (sSx A x)) eb j.toNat (A 1 + 1) 0 q := fun q q0 q1 => by
                    have h := hw5 q q0 q1
                    rw [show mv = 0 by omega, show A 1 + 0 + 1 = A 1 + 1 by omega] at h
                    exact h
                  have hbo := sp_273 (d := 0) (L := L) (t := t) (l := l1_) (W := gvI (cF A T) (sSx A x) (mS (sSx A x)) eb j.toNat (A 1 + 1) 0) hm7 hO_s5 hM_s5 hL_s5 (fun q q0 q1 => hw0 q q0 q1) (gvI_r hm7 hne eb0 eb2 _ _ _) hne (n := sKx A x) (k := (A 1) % 2) (lf := 1) (by omega) (by omega) (by omega) (by omega) (by omega)
                  have hbg := bo_gm (c := cF A T) (S := sSx A x) (eb := eb) (r := j.toNat) (n := sKx A x) (k := A 1) (lf := 1) (W := gvI (cF A T) (sSx A x) (mS (sSx A x)) eb j.toNat (A 1 + 1) 0) hm7 (by omega) (by omega) (fun q _ _ => rfl)
                  rw [hbg, show j.toNat + 1 = n.toNat by omega] at hbo
                  obtain ⟨s2_, hE2_, hF2_⟩ := hbo
                  refine wp_cv (b := 598) (As := [.int (iI (sKx A x)), .int (iI ((A 1) % 2)), .int (iI 1)]) (r := []) hc rfl (by rw [cm_273]; rfl) rfl (Nat.le_of_ble_eq_true rfl) (show 598 < 621 by decide) (by rw [cm_273]; rfl) (ev_mono hE2_ (by omega)) ?_
                  show mm_wp _ _ (231, [some (.ref 598), some (.int (iI x)), some (.int (iI b)), some (.int (iI n)), some (.int (iI first)), some (.int (iI (sKx A x))), some (.int (iI ((A 1) % 2))), o7, none], [.int (iI (gvI (cF A T) (sSx A x) (mS (sSx A x)) eb n.toNat (A 1) 1 (sKx A x)))], MX L t s2_ l1_) _
                  refine wi_is2 (L' := [some (.ref 598), some (.int (iI x)), some (.int (iI b)), some (.int (iI n)), some (.int (iI first)), some (.int (iI (sKx A x))), some (.int (iI ((A 1) % 2))), some (.int (iI (gvI (cF A T) (sSx A x) (mS (sSx A x)) eb n.toNat (A 1) 1 (sKx A x)))), none]) hc rfl (Nat.le_of_ble_eq_true rfl) rfl ?_
                  refine wi_i2 hc rfl rfl ?_
                  refine wi_zne hc rfl ⟨by omega, by omega⟩ (fun h7_ => ?_) (fun h7_ => ?_)
                  · refine wi_ic hc rfl ?_
                    refine wi_is2 (L' := [some (.ref 598), some (.int (iI x)), some (.int (iI b)), some (.int (iI n)), some (.int (iI first)), some (.int (iI (sKx A x))), some (.int (iI ((A 1) % 2))), some (.int (iI (gvI (cF A T) (sSx A x) (mS (sSx A x)) eb n.toNat (A 1) 1 (sKx A x)))), some (.int (iI (-1)))]) hc rfl (Nat.le_of_ble_eq_true rfl) rfl ?_
                    have loop244_ : ∀ p : Int, p ≤ ((mS (sSx A x) : Nat) : Int) → -1 ≤ p → ∀ (s8 : Nat → Int → Int), (∀ c, c ≠ 614 → s8 c = s2_ c) → exG (fun p => gvI (cF A T) (sSx A x) (mS (sSx A x)) eb j.toNat (A 1 + 1) 0 (ldO (cF A T) (sSx A x) (mS (sSx A x)) (sKx A x) p (A 1 % 2))) (gvI (cF A T) (sSx A x) (mS (sSx A x)) eb n.toNat (A 1) 1 (sKx A x)) ((mS (sSx A x) : Nat) : Int) p → fmV (cF A T) (A (13 + x)) b (n - 1).toNat (shF A x) (A 1) (gvI (cF A T) (sSx A x) (mS (sSx A x)) eb n.toNat (A 1) 1 (sKx A x)) = fmS (fun p => gvI (cF A T) (sSx A x) (mS (sSx A x)) eb j.toNat (A 1 + 1) 0 (ldO (cF A T) (sSx A x) (mS (sSx A x)) (sKx A x) p (A 1 % 2))) (gvI (cF A T) (sSx A x) (mS (sSx A x)) eb n.toNat (A 1) 1 (sKx A x)) (((mS (sSx A x) : Nat) : Int) - 1 - p).toNat p → mm_wp (mm_Ev mm_ct mm_CM (d + 9)) 274 (244, [some (.ref 598), some (.int (iI x)), some (.int (iI b)), some (.int (iI n)), some (.int (iI first)), some (.int (iI (sKx A x))), some (.int (iI ((A 1) % 2))), some (.int (iI (gvI (cF A T) (sSx A x) (mS (sSx A x)) eb n.toNat (A 1) 1 (sKx A x)))), some (.int (iI p))], [], MX L t s8 l1_) (fun res => ∃ s1 l1, res = (some (.int (iI (gameP A T x b n first))), MX L t s1 l1) ∧ (∀ c, c ≠ 598 ∧ c ≠ 604 ∧ c ≠ 606 ∧ c ≠ 607 ∧ c ≠ 610 ∧ c ≠ 611 ∧ c ≠ 612 ∧ c ≠ 613 ∧ c ≠ 614 ∧ c ≠ 617 ∧ c ≠ 618 → s1 c = s c) ∧ (∀ c, c ≠ 605 → l1 c = l c) ∧ (∀ k, k ≠ 34 → k ≠ 35 → s1 598 k = s 598 k) ∧ JM s1 A T) := by
                      refine up_ind ?_
                      intro p hp9 ihp p0 s8 hF8 hex hfm8
                      have hp8 := exG_1 hex
                      have hJ_s8 := hJ1_.of ((hF8 599 (by decide)).trans ((hF2_ 599 (by decide)).trans (hF5 599 (by decide)))) ((hF8 601 (by decide)).trans ((hF2_ 601 (by decide)).trans (hF5 601 (by decide)))) ((hF8 604 (by decide)).trans ((hF2_ 604 (by decide)).trans (hF5 604 (by decide))))
                      have hO_s8 := hO9.of ((hF8 598 (by decide)).trans ((hF2_ 598 (by decide)).trans (hF5 598 (by decide)))) ((hF8 610 (by decide)).trans ((hF2_ 610 (by decide)).trans (hF5 610 (by decide))))
                      have hM_s8 := hM9.of ((hF8 613 (by decide)).trans ((hF2_ 613 (by decide)).trans (hF5 613 (by decide))))
                      have hL_s8 := hL9.of ((hF8 611 (by decide)).trans ((hF2_ 611 (by decide)).trans (hF5 611 (by decide)))) ((hF8 612 (by decide)).trans ((hF2_ 612 (by decide)).trans (hF5 612 (by decide))))
                      refine wi_a1 hc rfl rfl ?_
                      refine wi_gr (w := 617) hc rfl rfl (by decide) (Nat.le_of_ble_eq_true rfl) rfl ?_
                      refine wi_a1 hc rfl rfl ?_
                      refine wi_i2 hc rfl rfl ?_
                      refine wi_i2 hc rfl rfl ?_
                      refine wi_i2 hc rfl rfl ?_
                      have hp8 := exG_1 hex
                      obtain ⟨s3_, hE3_, hF3_⟩ := sp_272 (d := 0) (L := L) (t := t) (l := l1_) hm7 hO_s8 hM_s8 hL_s8 (n := sKx A x) (p := p) (k := A 1 % 2) (by omega) (by omega) (by omega) (by omega) (by omega)
                      refine wp_cv (b := 598) (As := [.int (iI (sKx A x)), .int (iI p), .int (iI ((A 1) % 2))]) (r := [.ref 617]) hc rfl (by rw [cm_272]; rfl) rfl (Nat.le_of_ble_eq_true rfl) (show 598 < 621 by decide) (by rw [cm_272]; rfl) (ev_mono hE3_ (by omega)) ?_
                      have hlr := (ld_ok (c := cF A T) (S := sSx A x) hm7 (n := sKx A x) (p := p) (k := A 1 % 2) (by omega) (by omega) (by omega) (by omega)).1
                      have hgr1 := gvI_r (c := cF A T) (S := sSx A x) hm7 hne eb0 eb2 j.toNat (A 1 + 1) 0 _ hlr.1 hlr.2
                      have hgr2 := gvI_r (c := cF A T) (S := sSx A x) hm7 hne eb0 eb2 n.toNat (A 1) 1 (sKx A x) (by omega) (by omega)
                      show mm_wp _ _ (258, [some (.ref 598), some (.int (iI x)), some (.int (iI b)), some (.int (iI n)), some (.int (iI first)), some (.int (iI (sKx A x))), some (.int (iI ((A 1) % 2))), some (.int (iI (gvI (cF A T) (sSx A x) (mS (sSx A x)) eb n.toNat (A 1) 1 (sKx A x)))), some (.int (iI p))], [.int (iI (ldO (cF A T) (sSx A x) (mS (sSx A x)) (sKx A x) p (A 1 % 2))), .ref 617], MX L t s3_ l1_) _
                      refine wi_ildv (N := 720) hc rfl rfl (by decide) (by decide) (by omega) (by omega) (v := gvI (cF A T) (sSx A x) (mS (sSx A x)) eb j.toNat (A 1 + 1) 0 (ldO (cF A T) (sSx A x) (mS (sSx A x)) (sKx A x) p (A 1 % 2))) ((congrFun ((hF3_ 617 (by decide)).trans ((hF8 617 (by decide)).trans (hF2_ 617 (by decide)))) _).trans (hw0 _ (by omega) (by omega))) ?_
                      refine wi_i2 hc rfl rfl ?_
                      refine wi_ceq hc rfl ⟨by omega, by omega⟩ ⟨by omega, by omega⟩ (fun h8_ => ?_) (fun h8_ => ?_)
                      · refine wi_i2 hc rfl rfl ?_
                        refine wi_ri hc rfl (by rw [cm_274]; rfl) ?_
                        have hgs := gm_sh (c := cF A T) hB hx9.1 hx9.2 (by omega) eb0 eb1 hebb n.toNat (A 1) 1
                        have hR : gameP A T x b n first = p := by
                          unfold gameP
                          rw [if_pos ⟨by omega, by omega, by omega, by omega, by omega⟩, if_pos (by omega), hgs, hfm8, fmS_s hp8]
                          exact if_pos (by assumption)
                        rw [hR]
                        exact ⟨s3_, l1_, rfl, fun c hc9_ => (hF3_ c (by omega)).trans ((hF8 c (by omega)).trans ((hF2_ c (by omega)).trans ((hF5 c (by omega)).trans (hF1_ c (by omega))))), fun c hc9_ => hG1_ c (by omega), fun k a b => (congrFun ((hF3_ 598 (by decide)).trans ((hF8 598 (by decide)).trans ((hF2_ 598 (by decide)).trans (hF5 598 (by decide))))) k).trans (hk1_ k a b), (hJ_s8.of (hF3_ 599 (by decide)) (hF3_ 601 (by decide)) (hF3_ 604 (by decide)))⟩
                      · refine wi_inc (L' := [some (.ref 598), some (.int (iI x)), some (.int (iI b)), some (.int (iI n)), some (.int (iI first)), some (.int (iI (sKx A x))), some (.int (iI ((A 1) % 2))), some (.int (iI (gvI (cF A T) (sSx A x) (mS (sSx A x)) eb n.toNat (A 1) 1 (sKx A x)))), some (.int (iI (p + 1)))]) hc rfl rfl rfl ?_
                        refine wi_go hc rfl ?_
                        have hnq : (fun p => gvI (cF A T) (sSx A x) (mS (sSx A x)) eb j.toNat (A 1 + 1) 0 (ldO (cF A T) (sSx A x) (mS (sSx A x)) (sKx A x) p (A 1 % 2))) p ≠ gvI (cF A T) (sSx A x) (mS (sSx A x)) eb n.toNat (A 1) 1 (sKx A x) := by assumption
                        refine ihp (by omega) (by omega) s3_ (fun c hc9_ => (hF3_ c (by omega)).trans (hF8 c (by omega))) (exG_2 hex hnq) ?_
                        rw [hfm8, fmS_s hp8, if_neg hnq]
                    have hfv : fmV (cF A T) (A (13 + x)) b (n - 1).toNat (shF A x) (A 1) (gvI (cF A T) (sSx A x) (mS (sSx A x)) eb n.toNat (A 1) 1 (sKx A x)) = fmS (fun p => gvI (cF A T) (sSx A x) (mS (sSx A x)) eb j.toNat (A 1 + 1) 0 (ldO (cF A T) (sSx A x) (mS (sSx A x)) (sKx A x) p (A 1 % 2))) (gvI (cF A T) (sSx A x) (mS (sSx A x)) eb n.toNat (A 1) 1 (sKx A x)) (((mS (sSx A x) : Nat) : Int) - 1 - -1).toNat (-1) := by
                      unfold fmV
                      rw [show (((mS (sSx A x) : Nat) : Int) - 1 - -1).toNat = (A (13 + x)).toNat by omega]
                      refine fmS_congr _ _ (fun q q0 q1 => ?_)
                      have h := nF_sh (c := cF A T) hB hx9.1 hx9.2 (by omega) eb0 eb1 hebb (n - 1).toNat (A 1) q (by omega)
                      rw [show (n - 1).toNat = j.toNat by omega] at h ⊢
                      exact h
                    have hea := gmS_at (g := (fun p => gvI (cF A T) (sSx A x) (mS (sSx A x)) eb j.toNat (A 1 + 1) 0 (ldO (cF A T) (sSx A x) (mS (sSx A x)) (sKx A x) p (A 1 % 2)))) hne (fun p p1 p2 => gvI_r hm7 hne eb0 eb2 _ _ _ _ (ld_ok hm7 (by omega) (by omega) (p := p) (by omega) (by omega)).1.1 (ld_ok hm7 (by omega) (by omega) (p := p) (by omega) (by omega)).1.2) (mS (sSx A x)) (by omega) (Int.le_refl _)
                    have hbg := hbg
                    rw [if_pos rfl, show j.toNat + 1 = n.toNat by omega] at hbg
                    have hex : exG (fun p => gvI (cF A T) (sSx A x) (mS (sSx A x)) eb j.toNat (A 1 + 1) 0 (ldO (cF A T) (sSx A x) (mS (sSx A x)) (sKx A x) p (A 1 % 2))) (gvI (cF A T) (sSx A x) (mS (sSx A x)) eb n.toNat (A 1) 1 (sKx A x)) ((mS (sSx A x) : Nat) : Int) (-1) := by
                      obtain ⟨p, p0, p1, e⟩ := hea
                      exact ⟨p, p0, p1, e.trans hbg⟩
                    exact loop244_ (-1) (by omega) (by omega) s2_ (fun c _ => rfl) hex hfv
                  · refine wi_i2 hc rfl rfl ?_
                    refine wi_ri hc rfl (by rw [cm_274]; rfl) ?_
                    have hgs := gm_sh (c := cF A T) hB hx9.1 hx9.2 (by omega) eb0 eb1 hebb n.toNat (A 1) 1
                    have hR : gameP A T x b n first = gvI (cF A T) (sSx A x) (mS (sSx A x)) eb n.toNat (A 1) 1 (sKx A x) := by
                      unfold gameP
                      rw [if_pos ⟨by omega, by omega, by omega, by omega, by omega⟩, if_neg (by omega), hgs]
                    rw [hR]
                    exact ⟨s2_, l1_, rfl, fun c hc9_ => (hF2_ c (by omega)).trans ((hF5 c (by omega)).trans (hF1_ c (by omega))), fun c hc9_ => hG1_ c (by omega), fun k a b => (congrFun ((hF2_ 598 (by decide)).trans (hF5 598 (by decide))) k).trans (hk1_ k a b), (hJ_s5.of (hF2_ 599 (by decide)) (hF2_ 601 (by decide)) (hF2_ 604 (by decide)))⟩
                · refine wi_ic hc rfl ?_
                  refine wi_is2 (L' := [some (.ref 598), some (.int (iI x)), some (.int (iI b)), some (.int (iI n)), some (.int (iI first)), some (.int (iI (sKx A x))), some (.int (iI mv)), some (.int (iI 0)), none]) hc rfl (Nat.le_of_ble_eq_true rfl) rfl ?_
                  have loop123_ : ∀ u : Int, u ≤ ((fct (mS (sSx A x)) : Nat) : Int) → 0 ≤ u → ∀ (s6 : Nat → Int → Int), (∀ c, c ≠ 614 ∧ c ≠ 618 → s6 c = s5 c) → (∀ q, 0 ≤ q → q < u → s6 618 q = gvI (cF A T) (sSx A x) (mS (sSx A x)) eb (j + 1).toNat (A 1 + mv) (lfI mv) q) → mm_wp (mm_Ev mm_ct mm_CM (d + 9)) 274 (123, [some (.ref 598), some (.int (iI x)), some (.int (iI b)), some (.int (iI n)), some (.int (iI first)), some (.int (iI (sKx A x))), some (.int (iI mv)), some (.int (iI u)), none], [], MX L t s6 l1_) (fun res => ∃ s1 l1, res = (some (.int (iI (gameP A T x b n first))), MX L t s1 l1) ∧ (∀ c, c ≠ 598 ∧ c ≠ 604 ∧ c ≠ 606 ∧ c ≠ 607 ∧ c ≠ 610 ∧ c ≠ 611 ∧ c ≠ 612 ∧ c ≠ 613 ∧ c ≠ 614 ∧ c ≠ 617 ∧ c ≠ 618 → s1 c = s c) ∧ (∀ c, c ≠ 605 → l1 c = l c) ∧ (∀ k, k ≠ 34 → k ≠ 35 → s1 598 k = s 598 k) ∧ JM s1 A T) := by
                    refine up_ind ?_
                    intro u hu9 ihu u0 s6 hF6 hw6
                    have hJ_s6 := hJ1_.of ((hF6 599 (by decide)).trans (hF5 599 (by decide))) ((hF6 601 (by decide)).trans (hF5 601 (by decide))) ((hF6 604 (by decide)).trans (hF5 604 (by decide)))
                    have hO_s6 := hO9.of ((hF6 598 (by decide)).trans (hF5 598 (by decide))) ((hF6 610 (by decide)).trans (hF5 610 (by decide)))
                    have hM_s6 := hM9.of ((hF6 613 (by decide)).trans (hF5 613 (by decide)))
                    have hL_s6 := hL9.of ((hF6 611 (by decide)).trans (hF5 611 (by decide))) ((hF6 612 (by decide)).trans (hF5 612 (by decide)))
                    refine wi_i2 hc rfl rfl ?_
                    refine wi_a1 hc rfl rfl ?_
                    refine wi_gfv (kz := 35) rfl hc rfl rfl (by decide) (Nat.le_of_ble_eq_true rfl) rfl (v := ((fct (mS (sSx A x)) : Nat) : Int)) (hO_s6.2.1) ?_
                    refine wi_cge hc rfl ⟨by omega, by omega⟩ ⟨by omega, by omega⟩ (fun h9_ => ?_) (fun h9_ => ?_)
                    · refine wi_ic hc rfl ?_
                      refine wi_is2 (L' := [some (.ref 598), some (.int (iI x)), some (.int (iI b)), some (.int (iI n)), some (.int (iI first)), some (.int (iI (sKx A x))), some (.int (iI mv)), some (.int (iI 0)), none]) hc rfl (Nat.le_of_ble_eq_true rfl) rfl ?_
                      have loop177_ : ∀ y : Int, y ≤ ((fct (mS (sSx A x)) : Nat) : Int) → 0 ≤ y → ∀ (s7 : Nat → Int → Int), (∀ c, c ≠ 617 → s7 c = s6 c) → (∀ q, 0 ≤ q → q < y → s7 617 q = gvI (cF A T) (sSx A x) (mS (sSx A x)) eb (j + 1).toNat (A 1 + mv) (lfI mv) q) → mm_wp (mm_Ev mm_ct mm_CM (d + 9)) 274 (177, [some (.ref 598), some (.int (iI x)), some (.int (iI b)), some (.int (iI n)), some (.int (iI first)), some (.int (iI (sKx A x))), some (.int (iI mv)), some (.int (iI y)), none], [], MX L t s7 l1_) (fun res => ∃ s1 l1, res = (some (.int (iI (gameP A T x b n first))), MX L t s1 l1) ∧ (∀ c, c ≠ 598 ∧ c ≠ 604 ∧ c ≠ 606 ∧ c ≠ 607 ∧ c ≠ 610 ∧ c ≠ 611 ∧ c ≠ 612 ∧ c ≠ 613 ∧ c ≠ 614 ∧ c ≠ 617 ∧ c ≠ 618 → s1 c = s c) ∧ (∀ c, c ≠ 605 → l1 c = l c) ∧ (∀ k, k ≠ 34 → k ≠ 35 → s1 598 k = s 598 k) ∧ JM s1 A T) := by
                        refine up_ind ?_
                        intro y hy9 ihy y0 s7 hF7 hw7
                        have hJ_s7 := hJ1_.of ((hF7 599 (by decide)).trans ((hF6 599 (by decide)).trans (hF5 599 (by decide)))) ((hF7 601 (by decide)).trans ((hF6 601 (by decide)).trans (hF5 601 (by decide)))) ((hF7 604 (by decide)).trans ((hF6 604 (by decide)).trans (hF5 604 (by decide))))
                        have hO_s7 := hO9.of ((hF7 598 (by decide)).trans ((hF6 598 (by decide)).trans (hF5 598 (by decide)))) ((hF7 610 (by decide)).trans ((hF6 610 (by decide)).trans (hF5 610 (by decide))))
                        have hM_s7 := hM9.of ((hF7 613 (by decide)).trans ((hF6 613 (by decide)).trans (hF5 613 (by decide))))
                        have hL_s7 := hL9.of ((hF7 611 (by decide)).trans ((hF6 611 (by decide)).trans (hF5 611 (by decide)))) ((hF7 612 (by decide)).trans ((hF6 612 (by decide)).trans (hF5 612 (by decide))))
                        refine wi_i2 hc rfl rfl ?_
                        refine wi_a1 hc rfl rfl ?_
                        refine wi_gfv (kz := 35) rfl hc rfl rfl (by decide) (Nat.le_of_ble_eq_true rfl) rfl (v := ((fct (mS (sSx A x)) : Nat) : Int)) (hO_s7.2.1) ?_
                        refine wi_cge hc rfl ⟨by omega, by omega⟩ ⟨by omega, by omega⟩ (fun h10_ => ?_) (fun h10_ => ?_)
                        · refine wi_inc (L' := [some (.ref 598), some (.int (iI x)), some (.int (iI b)), some (.int (iI n)), some (.int (iI first)), some (.int (iI (sKx A x))), some (.int (iI (mv + (-1)))), some (.int (iI y)), none]) hc rfl rfl rfl ?_
                          refine wi_go hc rfl ?_
                          refine ihj (by omega) (by omega) _ (by omega) _ s7 (fun c hc9_ => (hF7 c (by omega)).trans ((hF6 c (by omega)).trans (hF5 c (by omega)))) (fun q q0 q1 => ?_)
                          rw [hw7 q q0 (by omega)]
                          rw [show A 1 + (mv + (-1)) + 1 = A 1 + mv by omega, show (mv + (-1)) + 1 = mv by omega]
                        · refine wi_a1 hc rfl rfl ?_
                          refine wi_gr (w := 617) hc rfl rfl (by decide) (Nat.le_of_ble_eq_true rfl) rfl ?_
                          refine wi_i2 hc rfl rfl ?_
                          refine wi_a1 hc rfl rfl ?_
                          refine wi_gr (w := 618) hc rfl rfl (by decide) (Nat.le_of_ble_eq_true rfl) rfl ?_
                          refine wi_i2 hc rfl rfl ?_
                          refine wi_ildv (N := 720) hc rfl rfl (by decide) (by decide) (by omega) (by omega) (v := gvI (cF A T) (sSx A x) (mS (sSx A x)) eb (j + 1).toNat (A 1 + mv) (lfI mv) y) ((congrFun (hF7 618 (by decide)) _).trans (hw6 _ (by omega) (by omega))) ?_
                          refine wi_ist (N := 720) hc rfl rfl (by decide) (by decide) (by omega) (by omega) ?_
                          obtain ⟨s4_, es4_⟩ : ∃ q, q = up s7 617 y (gvI (cF A T) (sSx A x) (mS (sSx A x)) eb (j + 1).toNat (A 1 + mv) (lfI mv) y) := ⟨_, rfl⟩
                          rw [← es4_]
                          refine wi_inc (L' := [some (.ref 598), some (.int (iI x)), some (.int (iI b)), some (.int (iI n)), some (.int (iI first)), some (.int (iI (sKx A x))), some (.int (iI mv)), some (.int (iI (y + 1))), none]) hc rfl rfl rfl ?_
                          refine wi_go hc rfl ?_
                          refine ihy (by omega) (by omega) s4_ (fun c hc9_ => ((congrFun es4_ c).trans (up_cc (by omega))).trans (hF7 c (by omega))) (fun q q0 q1 => ?_)
                          rw [es4_, up_ite]
                          by_cases z9 : q = y
                          · rw [if_pos z9, z9]
                          · rw [if_neg z9]; exact hw7 q q0 (by omega)
                      exact loop177_ 0 (by omega) (by omega) s6 (fun c _ => rfl) (fun q q0 q1 => by omega)
                    · refine wi_a1 hc rfl rfl ?_
                      refine wi_gr (w := 618) hc rfl rfl (by decide) (Nat.le_of_ble_eq_true rfl) rfl ?_
                      refine wi_i2 hc rfl rfl ?_
                      refine wi_a1 hc rfl rfl ?_
                      refine wi_i2 hc rfl rfl ?_
                      refine wi_a1 hc rfl rfl ?_
                      refine wi_gr (w := 599) hc rfl rfl (by decide) (Nat.le_of_ble_eq_true rfl) rfl ?_
                      refine wi_ic hc rfl ?_
                      refine wi_ildv (N := 3642) hc rfl rfl (by decide) (by decide) (by omega) (by omega) (v := A 1) (congrFun (hJ_s6.1) _) ?_
                      refine wi_i2 hc rfl rfl ?_
                      refine wi_add hc rfl ?_
                      refine wi_ic hc rfl ?_
                      refine wi_remp hc rfl ⟨by omega, by omega⟩ ⟨by decide, by decide⟩ (by omega) (by omega) ?_
                      refine wi_i2 hc rfl rfl ?_
                      refine wi_ic hc rfl ?_
                      refine wi_remp hc rfl ⟨by omega, by omega⟩ ⟨by decide, by decide⟩ (by omega) (by omega) ?_
                      refine wi_zne hc rfl ⟨by omega, by omega⟩ (fun h11_ => ?_) (fun h11_ => ?_)
                      · refine wi_ic hc rfl ?_
                        have join164_ : ∀ v9 : Int, v9 = lfI mv → mm_wp (mm_Ev mm_ct mm_CM (d + 9)) 274 (164, [some (.ref 598), some (.int (iI x)), some (.int (iI b)), some (.int (iI n)), some (.int (iI first)), some (.int (iI (sKx A x))), some (.int (iI mv)), some (.int (iI u)), none], [.int (iI v9), .int (iI (((A 1) + mv) % 2)), .int (iI u), .ref 598, .int (iI u), .ref 618], MX L t s6 l1_) (fun res => ∃ s1 l1, res = (some (.int (iI (gameP A T x b n first))), MX L t s1 l1) ∧ (∀ c, c ≠ 598 ∧ c ≠ 604 ∧ c ≠ 606 ∧ c ≠ 607 ∧ c ≠ 610 ∧ c ≠ 611 ∧ c ≠ 612 ∧ c ≠ 613 ∧ c ≠ 614 ∧ c ≠ 617 ∧ c ≠ 618 → s1 c = s c) ∧ (∀ c, c ≠ 605 → l1 c = l c) ∧ (∀ k, k ≠ 34 → k ≠ 35 → s1 598 k = s 598 k) ∧ JM s1 A T) := by
                          intro v9 hv9
                          have hlf9 : lfI (mv + 1) = 1 - v9 := by rw [hv9]; exact lfI_s mv
                          have hlf8 := lfI_01 mv
                          have hbo := sp_273 (d := 0) (L := L) (t := t) (l := l1_) (W := gvI (cF A T) (sSx A x) (mS (sSx A x)) eb j.toNat (A 1 + mv + 1) (lfI (mv + 1))) hm7 hO_s6 hM_s6 hL_s6 (fun q q0 q1 => (congrFun (hF6 617 (by decide)) _).trans (hw5 q q0 q1)) (gvI_r hm7 hne eb0 eb2 _ _ _) hne (n := u) (k := (A 1 + mv) % 2) (lf := v9) (by omega) (by omega) (by omega) (by omega) (by omega)
                          have hbg := bo_gm (c := cF A T) (S := sSx A x) (eb := eb) (r := j.toNat) (n := u) (k := A 1 + mv) (lf := v9) (W := gvI (cF A T) (sSx A x) (mS (sSx A x)) eb j.toNat (A 1 + mv + 1) (lfI (mv + 1))) hm7 (by omega) (by omega) (fun q _ _ => by show gmV _ _ _ _ _ _ (lfI (mv + 1)) = _; rw [hlf9])
                          rw [hbg, show j.toNat + 1 = (j + 1).toNat by omega] at hbo
                          obtain ⟨s5_, hE5_, hF5_⟩ := hbo
                          refine wp_cv (b := 598) (As := [.int (iI u), .int (iI (((A 1) + mv) % 2)), .int (iI v9)]) (r := [.int (iI u), .ref 618]) hc rfl (by rw [cm_273]; rfl) rfl (Nat.le_of_ble_eq_true rfl) (show 598 < 621 by decide) (by rw [cm_273]; rfl) (ev_mono hE5_ (by omega)) ?_
                          show mm_wp _ _ (167, [some (.ref 598), some (.int (iI x)), some (.int (iI b)), some (.int (iI n)), some (.int (iI first)), some (.int (iI (sKx A x))), some (.int (iI mv)), some (.int (iI u)), none], [.int (iI (gvI (cF A T) (sSx A x) (mS (sSx A x)) eb (j + 1).toNat (A 1 + mv) v9 u)), .int (iI u), .ref 618], MX L t s5_ l1_) _
                          refine wi_ist (N := 720) hc rfl rfl (by decide) (by decide) (by omega) (by omega) ?_
                          obtain ⟨s6_, es6_⟩ : ∃ q, q = up s5_ 618 u (gvI (cF A T) (sSx A x) (mS (sSx A x)) eb (j + 1).toNat (A 1 + mv) v9 u) := ⟨_, rfl⟩
                          rw [← es6_]
                          refine wi_inc (L' := [some (.ref 598), some (.int (iI x)), some (.int (iI b)), some (.int (iI n)), some (.int (iI first)), some (.int (iI (sKx A x))), some (.int (iI mv)), some (.int (iI (u + 1))), none]) hc rfl rfl rfl ?_
                          refine wi_go hc rfl ?_
                          refine ihu (by omega) (by omega) s6_ (fun c hc9_ => ((congrFun es6_ c).trans (up_cc (by omega))).trans ((hF5_ c (by omega)).trans (hF6 c (by omega)))) (fun q q0 q1 => ?_)
                          rw [es6_, up_ite]
                          by_cases z9 : q = u
                          · rw [if_pos z9, z9, hv9]
                          · rw [if_neg z9]; exact (congrFun (hF5_ 618 (by decide)) _).trans (hw6 q q0 (by omega))
                        exact join164_ _ (by unfold lfI; rw [if_neg (by omega)])
                      · refine wi_ic hc rfl ?_
                        refine wi_go hc rfl ?_
                        have join164_ : ∀ v9 : Int, v9 = lfI mv → mm_wp (mm_Ev mm_ct mm_CM (d + 9)) 274 (164, [some (.ref 598), some (.int (iI x)), some (.int (iI b)), some (.int (iI n)), some (.int (iI first)), some (.int (iI (sKx A x))), some (.int (iI mv)), some (.int (iI u)), none], [.int (iI v9), .int (iI (((A 1) + mv) % 2)), .int (iI u), .ref 598, .int (iI u), .ref 618], MX L t s6 l1_) (fun res => ∃ s1 l1, res = (some (.int (iI (gameP A T x b n first))), MX L t s1 l1) ∧ (∀ c, c ≠ 598 ∧ c ≠ 604 ∧ c ≠ 606 ∧ c ≠ 607 ∧ c ≠ 610 ∧ c ≠ 611 ∧ c ≠ 612 ∧ c ≠ 613 ∧ c ≠ 614 ∧ c ≠ 617 ∧ c ≠ 618 → s1 c = s c) ∧ (∀ c, c ≠ 605 → l1 c = l c) ∧ (∀ k, k ≠ 34 → k ≠ 35 → s1 598 k = s 598 k) ∧ JM s1 A T) := by
                          intro v9 hv9
                          have hlf9 : lfI (mv + 1) = 1 - v9 := by rw [hv9]; exact lfI_s mv
                          have hlf8 := lfI_01 mv
                          have hbo := sp_273 (d := 0) (L := L) (t := t) (l := l1_) (W := gvI (cF A T) (sSx A x) (mS (sSx A x)) eb j.toNat (A 1 + mv + 1) (lfI (mv + 1))) hm7 hO_s6 hM_s6 hL_s6 (fun q q0 q1 => (congrFun (hF6 617 (by decide)) _).trans (hw5 q q0 q1)) (gvI_r hm7 hne eb0 eb2 _ _ _) hne (n := u) (k := (A 1 + mv) % 2) (lf := v9) (by omega) (by omega) (by omega) (by omega) (by omega)
                          have hbg := bo_gm (c := cF A T) (S := sSx A x) (eb := eb) (r := j.toNat) (n := u) (k := A 1 + mv) (lf := v9) (W := gvI (cF A T) (sSx A x) (mS (sSx A x)) eb j.toNat (A 1 + mv + 1) (lfI (mv + 1))) hm7 (by omega) (by omega) (fun q _ _ => by show gmV _ _ _ _ _ _ (lfI (mv + 1)) = _; rw [hlf9])
                          rw [hbg, show j.toNat + 1 = (j + 1).toNat by omega] at hbo
                          obtain ⟨s7_, hE7_, hF7_⟩ := hbo
                          refine wp_cv (b := 598) (As := [.int (iI u), .int (iI (((A 1) + mv) % 2)), .int (iI v9)]) (r := [.int (iI u), .ref 618]) hc rfl (by rw [cm_273]; rfl) rfl (Nat.le_of_ble_eq_true rfl) (show 598 < 621 by decide) (by rw [cm_273]; rfl) (ev_mono hE7_ (by omega)) ?_
                          show mm_wp _ _ (167, [some (.ref 598), some (.int (iI x)), some (.int (iI b)), some (.int (iI n)), some (.int (iI first)), some (.int (iI (sKx A x))), some (.int (iI mv)), some (.int (iI u)), none], [.int (iI (gvI (cF A T) (sSx A x) (mS (sSx A x)) eb (j + 1).toNat (A 1 + mv) v9 u)), .int (iI u), .ref 618], MX L t s7_ l1_) _
                          refine wi_ist (N := 720) hc rfl rfl (by decide) (by decide) (by omega) (by omega) ?_
                          obtain ⟨s8_, es8_⟩ : ∃ q, q = up s7_ 618 u (gvI (cF A T) (sSx A x) (mS (sSx A x)) eb (j + 1).toNat (A 1 + mv) v9 u) := ⟨_, rfl⟩
                          rw [← es8_]
                          refine wi_inc (L' := [some (.ref 598), some (.int (iI x)), some (.int (iI b)), some (.int (iI n)), some (.int (iI first)), some (.int (iI (sKx A x))), some (.int (iI mv)), some (.int (iI (u + 1))), none]) hc rfl rfl rfl ?_
                          refine wi_go hc rfl ?_
                          refine ihu (by omega) (by omega) s8_ (fun c hc9_ => ((congrFun es8_ c).trans (up_cc (by omega))).trans ((hF7_ c (by omega)).trans (hF6 c (by omega)))) (fun q q0 q1 => ?_)
                          rw [es8_, up_ite]
                          by_cases z9 : q = u
                          · rw [if_pos z9, z9, hv9]
                          · rw [if_neg z9]; exact (congrFun (hF7_ 618 (by decide)) _).trans (hw6 q q0 (by omega))
                        exact join164_ _ (by unfold lfI; rw [if_pos (by omega)])
                  exact loop123_ 0 (by omega) (by omega) s5 (fun c _ => rfl) (fun q q0 q1 => by omega)
              exact loop115_ 0 (by omega) (by omega) _ (by omega) _ s3 (fun c hc9_ => hF3 c (by omega)) (fun q q0 q1 => hw3 q q0 (by omega))
            · refine wi_ic hc rfl ?_
              refine wi_is2 (L' := [some (.ref 598), some (.int (iI x)), some (.int (iI b)), some (.int (iI n)), some (.int (iI first)), some (.int (iI (sKx A x))), some (.int (iI k)), some (.int (iI 0)), none]) hc rfl (Nat.le_of_ble_eq_true rfl) rfl ?_
              have loop68_ : ∀ p : Int, p ≤ ((mS (sSx A x) : Nat) : Int) → 0 ≤ p → ∀ (s4 : Nat → Int → Int), (∀ c, c ≠ 617 → s4 c = s1_ c) → (∀ q, 0 ≤ q → q < k → s4 617 q = psF (dgI (mS (sSx A x)) q) ((mS (sSx A x) : Nat) : Int) eb) → (psF (dgI (mS (sSx A x)) k) ((mS (sSx A x) : Nat) : Int) eb < p → s4 617 k = psF (dgI (mS (sSx A x)) k) ((mS (sSx A x) : Nat) : Int) eb) → mm_wp (mm_Ev mm_ct mm_CM (d + 9)) 274 (68, [some (.ref 598), some (.int (iI x)), some (.int (iI b)), some (.int (iI n)), some (.int (iI first)), some (.int (iI (sKx A x))), some (.int (iI k)), some (.int (iI p)), none], [], MX L t s4 l1_) (fun res => ∃ s1 l1, res = (some (.int (iI (gameP A T x b n first))), MX L t s1 l1) ∧ (∀ c, c ≠ 598 ∧ c ≠ 604 ∧ c ≠ 606 ∧ c ≠ 607 ∧ c ≠ 610 ∧ c ≠ 611 ∧ c ≠ 612 ∧ c ≠ 613 ∧ c ≠ 614 ∧ c ≠ 617 ∧ c ≠ 618 → s1 c = s c) ∧ (∀ c, c ≠ 605 → l1 c = l c) ∧ (∀ k, k ≠ 34 → k ≠ 35 → s1 598 k = s 598 k) ∧ JM s1 A T) := by
                refine up_ind ?_
                intro p hp9 ihp p0 s4 hF4 hw4 hv4
                have hpk := psF_ok (dg_ok hm7 k0 (by omega)).2.1 (dg_mem hm7 (n := k) k0 (by omega) eb0 eb2)
                have hJ_s4 := hJ1_.of (hF4 599 (by decide)) (hF4 601 (by decide)) (hF4 604 (by decide))
                have hO_s4 := hO9.of (hF4 598 (by decide)) (hF4 610 (by decide))
                have hM_s4 := hM9.of (hF4 613 (by decide))
                have hL_s4 := hL9.of (hF4 611 (by decide)) (hF4 612 (by decide))
                refine wi_i2 hc rfl rfl ?_
                refine wi_a1 hc rfl rfl ?_
                refine wi_gfv (kz := 34) rfl hc rfl rfl (by decide) (Nat.le_of_ble_eq_true rfl) rfl (v := ((mS (sSx A x) : Nat) : Int)) (hO_s4.1) ?_
                refine wi_cge hc rfl ⟨by omega, by omega⟩ ⟨by omega, by omega⟩ (fun h12_ => ?_) (fun h12_ => ?_)
                · refine wi_inc (L' := [some (.ref 598), some (.int (iI x)), some (.int (iI b)), some (.int (iI n)), some (.int (iI first)), some (.int (iI (sKx A x))), some (.int (iI (k + 1))), some (.int (iI p)), none]) hc rfl rfl rfl ?_
                  refine wi_go hc rfl ?_
                  refine ih (by omega) (by omega) _ s4 (fun c hc9_ => hF4 c (by omega)) (fun q q0 q1 => ?_)
                  by_cases z9 : q = k
                  · rw [z9]; exact hv4 (by omega)
                  · exact hw4 q q0 (by omega)
                · refine wi_a1 hc rfl rfl ?_
                  refine wi_i2 hc rfl rfl ?_
                  refine wi_i1 hc rfl rfl ?_
                  refine wi_i2 hc rfl rfl ?_
                  refine wp_cv (b := 598) (As := [.int (iI k), .int (iI b), .int (iI p)]) (r := []) hc rfl (by rw [cm_268]; rfl) rfl (Nat.le_of_ble_eq_true rfl) (show 598 < 621 by decide) (by rw [cm_268]; rfl) (ev_mono (sp_268 (d := 0) hm7 hO_s4 rfl hM_s4 hL_s4 (n := k) (b := b) (p := p) (by omega) (by omega) hb (by omega)) (by omega)) ?_
                  show mm_wp _ _ (86, [some (.ref 598), some (.int (iI x)), some (.int (iI b)), some (.int (iI n)), some (.int (iI first)), some (.int (iI (sKx A x))), some (.int (iI k)), some (.int (iI p)), none], [.int (iI (bI (b = -1 ∨ elF (sSx A x) (dgI (mS (sSx A x)) k p) = b)))], MX L t s4 l1_) _
                  refine wi_beq hc rfl (fun h13_ => ?_) (fun h13_ => ?_)
                  · refine wi_inc (L' := [some (.ref 598), some (.int (iI x)), some (.int (iI b)), some (.int (iI n)), some (.int (iI first)), some (.int (iI (sKx A x))), some (.int (iI k)), some (.int (iI (p + 1))), none]) hc rfl rfl rfl ?_
                    refine wi_go hc rfl ?_
                    have hia := isat_iff (S := sSx A x) (m := mS (sSx A x)) rfl hm7 (n := k) (p := p) k0 (by omega) eb0 eb2 hebb p0 (by omega)
                    exact ihp (by omega) (by omega) s4 hF4 hw4 (fun q1 => hv4 (by omega))
                  · refine wi_a1 hc rfl rfl ?_
                    refine wi_gr (w := 617) hc rfl rfl (by decide) (Nat.le_of_ble_eq_true rfl) rfl ?_
                    refine wi_i2 hc rfl rfl ?_
                    refine wi_i2 hc rfl rfl ?_
                    refine wi_ist (N := 720) hc rfl rfl (by decide) (by decide) (by omega) (by omega) ?_
                    obtain ⟨s9_, es9_⟩ : ∃ q, q = up s4 617 k p := ⟨_, rfl⟩
                    rw [← es9_]
                    refine wi_inc (L' := [some (.ref 598), some (.int (iI x)), some (.int (iI b)), some (.int (iI n)), some (.int (iI first)), some (.int (iI (sKx A x))), some (.int (iI k)), some (.int (iI (p + 1))), none]) hc rfl rfl rfl ?_
                    refine wi_go hc rfl ?_
                    have hia := isat_iff (S := sSx A x) (m := mS (sSx A x)) rfl hm7 (n := k) (p := p) k0 (by omega) eb0 eb2 hebb p0 (by omega)
                    refine ihp (by omega) (by omega) s9_ (fun c hc9_ => ((congrFun es9_ c).trans (up_cc (by omega))).trans (hF4 c (by omega))) (fun q q0 q1 => ?_) (fun q1 => ?_)
                    · rw [es9_, up_ite, if_neg (by omega)]
                      exact hw4 q q0 q1
                    · rw [es9_, up_ite, if_pos rfl]
                      omega
              have hpk := psF_ok (dg_ok hm7 k0 (by omega)).2.1 (dg_mem hm7 (n := k) k0 (by omega) eb0 eb2)
              exact loop68_ 0 (by omega) (by omega) s3 (fun c hc9_ => hF3 c (by omega)) hw3 (fun q1 => by omega)
          exact loop56_ 0 (by omega) (by omega) _ s1_ (fun c _ => rfl) (fun q q0 q1 => by omega)
        · refine wi_bi hc rfl rfl ?_
          refine wi_ri hc rfl (by rw [cm_274]; rfl) ?_
          have hR : gameP A T x b n first = -2 := by unfold gameP; rw [if_neg (by omega)]
          rw [hR]
          exact ⟨s, l, rfl, fun c _ => rfl, fun c _ => rfl, fun k _ _ => rfl, hJ⟩
