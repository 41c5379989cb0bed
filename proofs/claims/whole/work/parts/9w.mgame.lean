/-! The model's GAME itself. -/
theorem dg_mem {m : Nat} (hm : m < 7) {n e : Int} (n0 : 0 ≤ n) (n1 : n < fct m) (e0 : 0 ≤ e) (e1 : e < m) : ∃ p, 0 ≤ p ∧ p < (m : Int) ∧ dgI m n p = e := by
  have db := dg_ok hm n0 n1
  obtain ⟨q, hq, h⟩ := surj_inj (n := m) (f := fun i => dgI m n i) (fun i hi => db.1 i (by omega) (by omega)) (fun x y hxy hy => db.2.1 x y (by omega) (by omega) (by omega)) (k := e.toNat) (by omega)
  have h : dgI m n q = ((e.toNat : Nat) : Int) := h
  exact ⟨q, by omega, by omega, by omega⟩
theorem isat_iff {S : Int} {m : Nat} (hm9 : (blN S.toNat 10).length = m) (hm : m < 7) {n e p b : Int} (n0 : 0 ≤ n) (n1 : n < fct m) (e0 : 0 ≤ e) (e1 : e < m) (eb : elF S e = b) (p0 : 0 ≤ p) (p1 : p < (m : Int)) : elF S (dgI m n p) = b ↔ p = psF (dgI m n) m e := by
  have db := dg_ok hm n0 n1
  have h := psF_ok db.2.1 (dg_mem hm n0 n1 e0 e1)
  have g := db.1 p p0 p1
  rw [← h.2.2.2 p p0 p1]
  constructor
  · intro z
    rcases Int.lt_trichotomy (dgI m n p) e with y | y | y
    · have := elF_mono hm9 g.1 y e1; omega
    · exact y
    · have := elF_mono hm9 e0 y g.2; omega
  · intro z; rw [z, eb]
def lfI (u : Int) : Int := if u % 2 = 0 then 1 else 0
theorem lfI_s (u : Int) : lfI (u + 1) = 1 - lfI u := by
  unfold lfI
  by_cases h : u % 2 = 0
  · rw [if_pos h, if_neg (by omega)]; rfl
  · rw [if_neg h, if_pos (by omega)]; rfl
theorem lfI_01 (u : Int) : lfI u = 0 ∨ lfI u = 1 := by
  unfold lfI
  split
  · exact Or.inr rfl
  · exact Or.inl rfl
theorem bo_gm {c : Int → Int → Int} {S eb : Int} {m r : Nat} {n k lf : Int} {W : Int → Int} (hm : m < 7) (n0 : 0 ≤ n) (n1 : n < fct m) (h : ∀ q, 0 ≤ q → q < ((fct m : Nat) : Int) → W q = gmV (cE c S) m eb r (dgI m q) (k + 1) (1 - lf)) : gmS (fun p => W (ldO c S m n p (k % 2))) lf (if lf = 1 then (m : Int) else -1) m = gmV (cE c S) m eb (r + 1) (dgI m n) k lf := by
  rw [gmV, Int.toNat_natCast]
  refine gmS_congr _ (fun p p0 p1 => ?_)
  have hl := ld_ok (c := c) (S := S) hm n0 n1 (p := p) (k := k % 2) (by omega) (Int.emod_nonneg _ (by decide))
  show W (ldO c S m n p (k % 2)) = _
  rw [h _ hl.1.1 hl.1.2]
  exact gmV_congr r _ _ _ _ hl.2
/-- what an order is worth with r moves left -/
def gvI (c : Int → Int → Int) (S : Int) (m : Nat) (eb : Int) (r : Nat) (k lf q : Int) : Int := gmV (cE c S) m eb r (dgI m q) k lf
theorem gvI_r {c : Int → Int → Int} {S eb : Int} {m : Nat} (hm : m < 7) (hne : 1 ≤ (m : Int)) (e0 : 0 ≤ eb) (e1 : eb < m) (r : Nat) (k lf : Int) : ∀ q, 0 ≤ q → q < ((fct m : Nat) : Int) → 0 ≤ gvI c S m eb r k lf q ∧ gvI c S m eb r k lf q < (m : Int) := fun q q0 q1 => gmV_r hne r _ _ _ (dg_ok hm q0 q1).2.1 (dg_mem hm q0 q1 e0 e1)
/-- from the model's orders to the shelf's books -/
theorem gm_sh {A : Int → Int} {c : Int → Int → Int} (hB : okB A) {x b : Int} (x0 : 0 ≤ x) (x1 : x < 3) (h6 : A (13 + x) ≤ 6) {eb : Int} (e0 : 0 ≤ eb) (e1 : eb < A (13 + x)) (hb : elF (sSx A x) eb = b) (r : Nat) (k lf : Int) : gmV c (A (13 + x)) b r (shF A x) k lf = gvI c (sSx A x) (mS (sSx A x)) eb r k lf (sKx A x) := by
  have gm := hB.2.1 x x0 x1
  have h := sx_ok hB x0 x1 h6
  have hm := h.2.1
  have hk := h.2.2.1
  have hd := dg_ok (m := (A (13 + x)).toNat) (by omega) hk.1 hk.2
  unfold gvI
  have eN : A (13 + x) = (((A (13 + x)).toNat : Nat) : Int) := by omega
  rw [hm, ← gmV_el (c := c) (S := sSx A x) (e := eb) (m := (A (13 + x)).toNat) hm e0 (by omega) r _ k lf (fun q a b9 => hd.1 q a b9), hb, ← eN]
  exact gmV_congr r _ _ _ _ (fun q q0 q1 => ((h.2.2.2 q q0 q1).2).symm)
theorem nF_sh {A : Int → Int} {c : Int → Int → Int} (hB : okB A) {x b : Int} (x0 : 0 ≤ x) (x1 : x < 3) (h6 : A (13 + x) ≤ 6) {eb : Int} (e0 : 0 ≤ eb) (e1 : eb < A (13 + x)) (hb : elF (sSx A x) eb = b) (r : Nat) (k p : Int) (hp : p = -1 ∨ (0 ≤ p ∧ p + 1 < A (13 + x))) : gmV c (A (13 + x)) b r (nF c (A (13 + x)) (k % 2) (mvF (shF A x) p)) (k + 1) 0 = gvI c (sSx A x) (mS (sSx A x)) eb r (k + 1) 0 (ldO c (sSx A x) (mS (sSx A x)) (sKx A x) p (k % 2)) := by
  have gm := hB.2.1 x x0 x1
  have h := sx_ok hB x0 x1 h6
  have hm := h.2.1
  have hk := h.2.2.1
  have hd := dg_ok (m := (A (13 + x)).toNat) (by omega) hk.1 hk.2
  have eN : A (13 + x) = (((A (13 + x)).toNat : Nat) : Int) := by omega
  unfold gvI
  rw [hm]
  have hl := ld_ok (c := c) (S := sSx A x) (m := (A (13 + x)).toNat) (by omega) hk.1 hk.2 (p := p) (k := k % 2) (by omega) (Int.emod_nonneg _ (by decide))
  have hld := dg_ok (m := (A (13 + x)).toNat) (by omega) hl.1.1 hl.1.2
  rw [← gmV_el (c := c) (S := sSx A x) (e := eb) (m := (A (13 + x)).toNat) hm e0 (by omega) r _ _ _ (fun q a b9 => hld.1 q a b9), hb, ← eN]
  refine gmV_congr r _ _ _ _ (fun q q0 q1 => ?_)
  rw [hl.2 q q0 (by omega), ← nF_el]
  rw [← eN]
  refine nF_congr (fun q q0 q1 => ?_) (fun _ _ _ => rfl) (Int.emod_nonneg _ (by decide)) q0 q1
  rw [← mvF_el]
  exact mvF_congr (fun q q0 q1 => ((h.2.2.2 q q0 q1).2).symm) hp q q0 q1
theorem sp_270 {d L t : Nat} {s l : Nat → Int → Int} {A T : Int → Int} (hJ : JM s A T) (hK : KA A T) {b x p : Int} (hb : rI b) (hx : 0 ≤ x ∧ x < 3) (hp : rI p) : mm_Ev mm_ct mm_CM (d + 4) 270 [.ref 598, .int (iI b), .int (iI x), .int (iI p)] (MX L t s l) (some (.int (iI (bI (((0 ≤ b ∧ b < A 0) ∧ A (46 + 6 * b + 5) = x) ∧ (0 ≤ p ∧ p < A (13 + x)))))), MX L t s l) := by
  have hc : (mm_CM 270).2.2.2.2.2.2.2 = mm_cf cd_270 := by rw [cm_270]; rfl
  refine ev_of (mx := 4) (by rw [cm_270]; decide) (by rw [cm_270]; rfl) (by show 4 ≤ _; decide) ?_
  show mm_wp _ _ (0, [some (.ref 598), some (.int (iI b)), some (.int (iI x)), some (.int (iI p))], [], MX L t s l) (fun r => r = (some (.int (iI (bI (((0 ≤ b ∧ b < A 0) ∧ A (46 + 6 * b + 5) = x) ∧ (0 ≤ p ∧ p < A (13 + x)))))), MX L t s l))
  have hV := hK.1
  have hB := hK.2.1
  have g0 := hB.1
  have gm := hB.2.1 x (by omega) (by omega)
  refine wi_a1 hc rfl rfl ?_
  refine wi_i1 hc rfl rfl ?_
  refine wp_cv (b := 598) (As := [.int (iI b)]) (r := []) hc rfl (by rw [cm_156]; rfl) rfl (Nat.le_of_ble_eq_true rfl) (show 598 < 621 by decide) (by rw [cm_156]; rfl) (ev_mono (sp_156 (d := 0) hJ hK.2.1 hb) (by omega)) ?_
  show mm_wp _ _ (5, [some (.ref 598), some (.int (iI b)), some (.int (iI x)), some (.int (iI p))], [.int (iI (bI ((0 ≤ b ∧ b < A 0) ∧ A (46 + 6 * b + 5) < 3)))], MX L t s l) _
  refine wi_beq hc rfl (fun h1_ => ?_) (fun h1_ => ?_)
  · refine wi_ic hc rfl ?_
    refine wi_r0 hc rfl (by rw [cm_270]; rfl) ?_
    rw [bI_f (p := ((0 ≤ b ∧ b < A 0) ∧ A (46 + 6 * b + 5) = x) ∧ (0 ≤ p ∧ p < A (13 + x))) (by omega)]
  · have gw := (hB.2.2.2.2 b (by omega) (by omega)).1
    refine wi_a1 hc rfl rfl ?_
    refine wi_i1 hc rfl rfl ?_
    refine wi_ic hc rfl ?_
    refine wp_cv (b := 598) (As := [.int (iI b), .int (iI 5)]) (r := []) hc rfl (by rw [cm_153]; rfl) rfl (Nat.le_of_ble_eq_true rfl) (show 598 < 621 by decide) (by rw [cm_153]; rfl) (ev_mono (sg_153 (d := 0) (hJ.1) (by omega) (by omega) (by omega) (by omega)) (by omega)) ?_
    show mm_wp _ _ (14, [some (.ref 598), some (.int (iI b)), some (.int (iI x)), some (.int (iI p))], [.int (iI (A (46 + 6 * b + 5)))], MX L t s l) _
    refine wi_i1 hc rfl rfl ?_
    refine wi_cne hc rfl ⟨by omega, by omega⟩ ⟨by omega, by omega⟩ (fun h2_ => ?_) (fun h2_ => ?_)
    · refine wi_ic hc rfl ?_
      refine wi_r0 hc rfl (by rw [cm_270]; rfl) ?_
      rw [bI_f (p := ((0 ≤ b ∧ b < A 0) ∧ A (46 + 6 * b + 5) = x) ∧ (0 ≤ p ∧ p < A (13 + x))) (by omega)]
    · refine wi_i1 hc rfl rfl ?_
      refine wi_ic hc rfl ?_
      refine wi_a1 hc rfl rfl ?_
      refine wi_gr (w := 599) hc rfl rfl (by decide) (Nat.le_of_ble_eq_true rfl) rfl ?_
      refine wi_bi hc rfl rfl ?_
      refine wi_i1 hc rfl rfl ?_
      refine wi_add hc rfl ?_
      refine wi_ildv (N := 3642) hc rfl rfl (by decide) (by decide) (by omega) (by omega) (v := A (13 + x)) (congrFun (hJ.1) _) ?_
      refine wi_ic hc rfl ?_
      refine wi_sub hc rfl ?_
      refine wp_cs (As := [.int (iI p), .int (iI 0), .int (iI ((A (13 + x)) - 1))]) (r := []) hc rfl (by rw [cm_148]; rfl) rfl (Nat.le_of_ble_eq_true rfl) (ev_mono (sp_148 (d := 0) hp ⟨by decide, by decide⟩ ⟨by omega, by omega⟩) (by omega)) ?_
      show mm_wp _ _ (34, [some (.ref 598), some (.int (iI b)), some (.int (iI x)), some (.int (iI p))], [.int (iI (bI (0 ≤ p ∧ p ≤ (A (13 + x)) - 1)))], MX L t s l) _
      refine wi_b01 hc rfl rfl rfl rfl (bI_01 _) ?_
      refine wi_rb hc rfl (by rw [cm_270]; rfl) ?_
      rw [show bI (0 ≤ p ∧ p ≤ (A (13 + x)) - 1) = bI (((0 ≤ b ∧ b < A 0) ∧ A (46 + 6 * b + 5) = x) ∧ (0 ≤ p ∧ p < A (13 + x))) by unfold bI; congr 1; exact propext ⟨fun h => by omega, fun h => by omega⟩]
