/-! The class moves books. -/
/-- only where books stand has changed -/
def mv (A A' : Int → Int) : Prop := ∀ k, (k < 13 ∨ 46 ≤ k) → (∀ b, 0 ≤ b → b < 10 → k ≠ 46 + 6 * b + 5) → A' k = A k
theorem mv.rf (A : Int → Int) : mv A A := fun _ _ _ => rfl
theorem mv.tr {A B C : Int → Int} (h : mv A B) (g : mv B C) : mv A C := fun k h1 h2 => (g k h1 h2).trans (h k h1 h2)
theorem mv_pull {A : Int → Int} {x p to : Int} (hB : okB A) (hx0 : 0 ≤ x) (hx1 : x < 3) (hp0 : 0 ≤ p) (hp1 : p < A (13 + x)) : mv A (pullF A x p to) := fun _ h1 h2 => pull_else hB hx0 hx1 hp0 hp1 h1 h2
theorem mv_set {A : Int → Int} {b x p : Int} (hb0 : 0 ≤ b) (hb1 : b < 10) (hx0 : 0 ≤ x) (hx1 : x < 3) (hp0 : 0 ≤ p) (hp1 : p ≤ A (13 + x)) (hm : A (13 + x) ≤ 9) : mv A (setF A b x p) := fun _ h1 h2 => set_else hb0 hb1 hx0 hx1 hp0 hp1 hm h1 h2
theorem mv_ex {A : Int → Int} {x p : Int} (hx0 : 0 ≤ x) (hx1 : x < 3) (hp0 : 0 ≤ p) (hp1 : p < 9) : mv A (exF A x p) := fun _ h1 _ => ex_else hx0 hx1 hp0 hp1 (by omega)
theorem mv_wh {A : Int → Int} {b to : Int} (hb0 : 0 ≤ b) (hb1 : b < 10) : mv A (whF A b to) := fun k _ h2 => by
  have := h2 b hb0 hb1
  unfold whF
  rw [if_neg this]
theorem mv.lo {A A' : Int → Int} (h : mv A A') {k : Int} (hk : k < 13 ∨ 106 ≤ k) : A' k = A k := h k (by omega) (fun b _ _ => by omega)
theorem mv.tr5 {A A' : Int → Int} (h : mv A A') {b w : Int} (hb : 0 ≤ b) (h0 : 0 ≤ w) (h1 : w < 5) : A' (46 + 6 * b + w) = A (46 + 6 * b + w) := h _ (by omega) (fun c _ _ => by omega)
theorem mv.lg {A A' : Int → Int} (h : mv A A') : lgA A' = lgA A := by
  funext j
  have : 0 ≤ j % 512 := Int.emod_nonneg _ (by decide)
  unfold lgA
  rw [h.lo (by omega), h.lo (by omega), h.lo (by omega), h.lo (by omega)]
theorem mv.VJ {A A' T : Int → Int} (h : mv A A') (hV : VJ A T) : VJ A' T := by
  obtain ⟨h1, h2, h3, h4, h5, h6, h7⟩ := hV
  refine ⟨by rw [h.lo (by decide)]; exact h1, by rw [h.lo (by decide)]; exact h2, by rw [h.lo (by decide)]; exact h3, by rw [h.lo (by decide)]; exact h4, by rw [h.lo (by decide), h.lo (by decide)]; exact h5, ?_, by rw [h.lo (by decide)]; exact h7⟩
  intro b a c
  rw [h.lo (by decide)] at c
  have g := h6 b a c
  refine ⟨fun w w0 w1 => by rw [h.tr5 a w0 (by omega)]; exact g.1 w w0 w1, by rw [h.tr5 a (by decide) (by decide)]; exact g.2.1, by rw [h.tr5 a (by decide) (by decide)]; exact g.2.2⟩
theorem mv.stp {A A' : Int → Int} (h : mv A A') {i k : Int} (hi : 0 ≤ i) (hk : 0 ≤ k) : stp A' i k = stp A i k := h.lo (by omega)
theorem mv.okR {A A' : Int → Int} (h : mv A A') (hV : okR A) : okR A' := by
  obtain ⟨h1, h2, h3, h4, h5, h6⟩ := hV
  refine ⟨by rw [h.lo (by decide)]; exact h1, by rw [h.lo (by decide)]; exact h2, by rw [h.lo (by decide)]; exact h3, by rw [h.lo (by decide)]; exact h4, ?_, ?_⟩
  · intro x a b; rw [h.lo (by omega)]; exact h5 x a b
  · intro i a b
    rw [h.lo (by decide)] at b
    rw [h.lo (by omega), h.lo (by omega), h.lo (by omega), h.lo (by omega), h.lo (by omega)]
    exact h6 i a b
theorem mv.okSt {A A' : Int → Int} (h : mv A A') (hV : okSt A) : okSt A' := by
  intro i a b
  rw [h.lo (by decide)] at b
  have g := hV i a b
  rw [h.stp a (by decide), h.stp a (by decide), h.stp a (by decide), h.stp a (by decide), h.stp a (by decide), h.lo (by decide), h.lo (by decide), h.stp (by omega) (by decide)]
  exact ⟨okV_congr g.1 (fun k k0 k1 => h.stp a k0), g.2⟩
theorem mv.gap {A A' : Int → Int} (h : mv A A') {g : Int} (hV : gapS A g) : gapS A' g := by
  intro q
  rw [h.lo (by decide)] at q ⊢
  rw [h.stp (by omega) (by decide), h.lo (by decide)]
  exact hV q
/-- what a move keeps, all together: the class's side and what holds -/
def KA (A T : Int → Int) : Prop := VJ A T ∧ okB A ∧ okR A ∧ okSt A
theorem mv.KA {A A' T : Int → Int} (h : mv A A') (hK : KA A T) (hB : okB A') : KA A' T := ⟨h.VJ hK.1, hB, h.okR hK.2.2.1, h.okSt hK.2.2.2⟩
theorem LB.mv {s s1 : Nat → Int → Int} {A A' T : Int → Int} (h : LB 0 s A T) (hK : KA A T) (hm : mv A A') (hc : ∀ e, 1 ≤ e → e < 289 → ¬ (2 ≤ e ∧ e ≤ 9) → s1 e = s e) (hS : SC s1 2 (cur A') (lgA A')) : LB 0 s1 A' T :=
  h.upd hK.2.2.2 hK.1.1 hK.1.2.2.2.1 hK.2.2.1.2.2.1.2 hK.2.2.1.2.2.2.1.2 hc (fun k hk => hm.lo (by omega)) (fun b w a _ c d => hm.tr5 a c d) (fun i _ _ j _ _ => by rw [hm.lg]) hS
theorem sp_68 {d L t : Nat} {s l : Nat → Int → Int} {A T : Int → Int} (hL : LB 0 s A T) (hK : KA A T) {x p : Int} (hx0 : 0 ≤ x) (hx1 : x < 3) (hp : rI p) : mm_Ev mm_ct mm_CM (d + 1) 68 [.ref 2, .int (iI x), .int (iI p)] (MX L t s l) (some (.int (iI (if 0 ≤ p ∧ p < A (13 + x) then A (16 + 10 * x + p) else -1))), MX L t s l) := by
  have hc : (mm_CM 68).2.2.2.2.2.2.2 = mm_cf cd_68 := by rw [cm_68]; rfl
  refine ev_of (mx := 3) (by rw [cm_68]; decide) (by rw [cm_68]; rfl) (by show 3 ≤ _; decide) ?_
  show mm_wp _ _ (0, [some (.ref 2), some (.int (iI x)), some (.int (iI p))], [], MX L t s l) (fun r => r = (some (.int (iI (if 0 ≤ p ∧ p < A (13 + x) then A (16 + 10 * x + p) else -1))), MX L t s l))
  have hB := hK.2.1
  have g0 := hB.1
  have gm := hB.2.1 x hx0 hx1
  refine wi_i1 hc rfl rfl ?_
  refine wi_zlt hc rfl hp (fun h1_ => ?_) (fun h1_ => ?_)
  · refine wi_ic hc rfl ?_
    refine wi_ri hc rfl (by rw [cm_68]; rfl) ?_
    rw [show (if 0 ≤ p ∧ p < A (13 + x) then A (16 + 10 * x + p) else -1) = (-1) from if_neg (by omega)]
  · refine wi_i1 hc rfl rfl ?_
    refine wi_a1 hc rfl rfl ?_
    refine wi_gr (w := 7) hc rfl rfl (by decide) (Nat.le_of_ble_eq_true rfl) rfl ?_
    refine wi_i1 hc rfl rfl ?_
    refine wi_ildv (N := 3) hc rfl rfl (by decide) (by decide) (by omega) (by omega) (v := A (13 + x)) (lb_many hL (by omega) (by omega)) ?_
    refine wi_cge hc rfl hp ⟨by omega, by omega⟩ (fun h2_ => ?_) (fun h2_ => ?_)
    · refine wi_ic hc rfl ?_
      refine wi_ri hc rfl (by rw [cm_68]; rfl) ?_
      rw [show (if 0 ≤ p ∧ p < A (13 + x) then A (16 + 10 * x + p) else -1) = (-1) from if_neg (by omega)]
    · refine wi_a1 hc rfl rfl ?_
      refine wi_gr (w := 3) hc rfl rfl (by decide) (Nat.le_of_ble_eq_true rfl) rfl ?_
      refine wi_i1 hc rfl rfl ?_
      refine wi_ald (w := 4 + x.toNat) (N := 3) hc rfl (Nat.le_of_ble_eq_true rfl) (Nat.le_of_ble_eq_true rfl) (by decide) rfl (by decide) (by omega) (by omega) (sh_row3 (by omega) (by omega)) ?_
      refine wi_i1 hc rfl rfl ?_
      refine wi_ildv (N := 10) hc rfl (sh_rows (by omega) (by omega)) (by omega) (by decide) (by omega) (by omega) (v := A (16 + 10 * x + p)) (lb_row hL (by omega) (by omega) (by omega) (by omega) (by omega)) ?_
      refine wi_go hc rfl ?_
      refine wi_ri hc rfl (by rw [cm_68]; rfl) ?_
      rw [show (if 0 ≤ p ∧ p < A (13 + x) then A (16 + 10 * x + p) else -1) = A (16 + 10 * x + p) from if_pos (by omega)]
theorem sp_69 {d L t : Nat} {s l : Nat → Int → Int} {A T : Int → Int} (hL : LB 0 s A T) (hK : KA A T) {x p : Int} (hx0 : 0 ≤ x) (hx1 : x < 3) (hp : rI p) : mm_Ev mm_ct mm_CM (d + 1) 69 [.ref 2, .int (iI x), .int (iI p)] (MX L t s l) (some (.int (iI (bI (0 ≤ p ∧ p < A (13 + x) - 1)))), MX L t s l) := by
  have hc : (mm_CM 69).2.2.2.2.2.2.2 = mm_cf cd_69 := by rw [cm_69]; rfl
  refine ev_of (mx := 3) (by rw [cm_69]; decide) (by rw [cm_69]; rfl) (by show 3 ≤ _; decide) ?_
  show mm_wp _ _ (0, [some (.ref 2), some (.int (iI x)), some (.int (iI p))], [], MX L t s l) (fun r => r = (some (.int (iI (bI (0 ≤ p ∧ p < A (13 + x) - 1)))), MX L t s l))
  have hB := hK.2.1
  have g0 := hB.1
  have gm := hB.2.1 x hx0 hx1
  refine wi_i1 hc rfl rfl ?_
  refine wi_zlt hc rfl hp (fun h1_ => ?_) (fun h1_ => ?_)
  · refine wi_ic hc rfl ?_
    refine wi_r0 hc rfl (by rw [cm_69]; rfl) ?_
    rw [bI_f (p := 0 ≤ p ∧ p < A (13 + x) - 1) (by omega)]
  · refine wi_i1 hc rfl rfl ?_
    refine wi_a1 hc rfl rfl ?_
    refine wi_gr (w := 7) hc rfl rfl (by decide) (Nat.le_of_ble_eq_true rfl) rfl ?_
    refine wi_i1 hc rfl rfl ?_
    refine wi_ildv (N := 3) hc rfl rfl (by decide) (by decide) (by omega) (by omega) (v := A (13 + x)) (lb_many hL (by omega) (by omega)) ?_
    refine wi_ic hc rfl ?_
    refine wi_sub hc rfl ?_
    refine wi_cge hc rfl hp ⟨by omega, by omega⟩ (fun h2_ => ?_) (fun h2_ => ?_)
    · refine wi_ic hc rfl ?_
      refine wi_r0 hc rfl (by rw [cm_69]; rfl) ?_
      rw [bI_f (p := 0 ≤ p ∧ p < A (13 + x) - 1) (by omega)]
    · refine wi_ic hc rfl ?_
      refine wi_go hc rfl ?_
      refine wi_r1 hc rfl (by rw [cm_69]; rfl) ?_
      rw [bI_t (p := 0 ≤ p ∧ p < A (13 + x) - 1) (by omega)]
theorem sp_70 {d L t : Nat} {s l : Nat → Int → Int} {A T : Int → Int} (hL : LB 0 s A T) (hK : KA A T) {b x p : Int} (hb0 : 0 ≤ b) (hb1 : b < A 0) (hx : A (46 + 6 * b + 5) = x) (hx0 : 0 ≤ x) (hx1 : x < 3) (hp0 : 0 ≤ p) (hp1 : p < A (13 + x)) (hp : A (16 + 10 * x + p) = b) : mm_Ev mm_ct mm_CM (d + 1) 70 [.ref 2, .int (iI b)] (MX L t s l) (some (.int (iI p)), MX L t s l) := by
  have hc : (mm_CM 70).2.2.2.2.2.2.2 = mm_cf cd_70 := by rw [cm_70]; rfl
  refine ev_of (mx := 4) (by rw [cm_70]; decide) (by rw [cm_70]; rfl) (by show 2 ≤ _; decide) ?_
  show mm_wp _ _ (0, [some (.ref 2), some (.int (iI b)), none, none], [], MX L t s l) (fun r => r = (some (.int (iI p)), MX L t s l))
  have hB := hK.2.1
  have g0 := hB.1
  have gm := hB.2.1 x hx0 hx1
  refine wi_a1 hc rfl rfl ?_
  refine wi_gr (w := 8) hc rfl rfl (by decide) (Nat.le_of_ble_eq_true rfl) rfl ?_
  refine wi_i1 hc rfl rfl ?_
  refine wi_ildv (N := 10) hc rfl rfl (by decide) (by decide) (by omega) (by omega) (v := x) ((lb_where hL (by omega) (by omega) (by omega)).trans hx) ?_
  refine wi_is1 (L' := [some (.ref 2), some (.int (iI b)), some (.int (iI x)), none]) hc rfl (Nat.le_of_ble_eq_true rfl) rfl ?_
  refine wi_i1 hc rfl rfl ?_
  refine wi_ic hc rfl ?_
  refine wi_clt hc rfl ⟨by omega, by omega⟩ ⟨by decide, by decide⟩ (fun h1_ => ?_) (fun h1_ => (by exfalso; omega))
  refine wi_ic hc rfl ?_
  refine wi_is1 (L' := [some (.ref 2), some (.int (iI b)), some (.int (iI x)), some (.int (iI 0))]) hc rfl (Nat.le_of_ble_eq_true rfl) rfl ?_
  have loop16_ : ∀ i : Int, i ≤ p → 0 ≤ i → mm_wp (mm_Ev mm_ct mm_CM d) 70 (16, [some (.ref 2), some (.int (iI b)), some (.int (iI x)), some (.int (iI i))], [], MX L t s l) (fun r => r = (some (.int (iI p)), MX L t s l)) := by
    refine up_ind ?_
    intro i hi ih hi0
    have gi := hB.2.2.1 x i hx0 hx1 hi0 (by omega)
    refine wi_i1 hc rfl rfl ?_
    refine wi_a1 hc rfl rfl ?_
    refine wi_gr (w := 7) hc rfl rfl (by decide) (Nat.le_of_ble_eq_true rfl) rfl ?_
    refine wi_i1 hc rfl rfl ?_
    refine wi_ildv (N := 3) hc rfl rfl (by decide) (by decide) (by omega) (by omega) (v := A (13 + x)) (lb_many hL (by omega) (by omega)) ?_
    refine wi_cge hc rfl ⟨by omega, by omega⟩ ⟨by omega, by omega⟩ (fun h2_ => ?_) (fun h2_ => ?_)
    · exfalso
      omega
    · refine wi_a1 hc rfl rfl ?_
      refine wi_gr (w := 3) hc rfl rfl (by decide) (Nat.le_of_ble_eq_true rfl) rfl ?_
      refine wi_i1 hc rfl rfl ?_
      refine wi_ald (w := 4 + x.toNat) (N := 3) hc rfl (Nat.le_of_ble_eq_true rfl) (Nat.le_of_ble_eq_true rfl) (by decide) rfl (by decide) (by omega) (by omega) (sh_row3 (by omega) (by omega)) ?_
      refine wi_i1 hc rfl rfl ?_
      refine wi_ildv (N := 10) hc rfl (sh_rows (by omega) (by omega)) (by omega) (by decide) (by omega) (by omega) (v := A (16 + 10 * x + i)) (lb_row hL (by omega) (by omega) (by omega) (by omega) (by omega)) ?_
      refine wi_i1 hc rfl rfl ?_
      refine wi_cne hc rfl ⟨by omega, by omega⟩ ⟨by omega, by omega⟩ (fun h3_ => ?_) (fun h3_ => ?_)
      · refine wi_inc (L' := [some (.ref 2), some (.int (iI b)), some (.int (iI x)), some (.int (iI (i + 1)))]) hc rfl rfl rfl ?_
        refine wi_go hc rfl ?_
        have hne : i ≠ p := fun q => by subst q; omega
        exact ih (by omega) (by omega)
      · refine wi_i1 hc rfl rfl ?_
        refine wi_ri hc rfl (by rw [cm_70]; rfl) ?_
        have hip : i = p := by
          rcases (by omega : i < p ∨ i = p) with q | q
          · exact absurd (by omega : A (16 + 10 * x + i) = A (16 + 10 * x + p)) (hB.2.2.2.1 x i p hx0 hx1 hi0 q hp1)
          · exact q
        rw [hip]
  exact loop16_ 0 (by omega) (by omega)
theorem sp_70o {d L t : Nat} {s l : Nat → Int → Int} {A T : Int → Int} (hL : LB 0 s A T) (hK : KA A T) {b : Int} (hb0 : 0 ≤ b) (hb1 : b < A 0) (hw : 3 ≤ A (46 + 6 * b + 5)) : mm_Ev mm_ct mm_CM (d + 1) 70 [.ref 2, .int (iI b)] (MX L t s l) (some (.int (iI (-1))), MX L t s l) := by
  have hc : (mm_CM 70).2.2.2.2.2.2.2 = mm_cf cd_70 := by rw [cm_70]; rfl
  refine ev_of (mx := 4) (by rw [cm_70]; decide) (by rw [cm_70]; rfl) (by show 2 ≤ _; decide) ?_
  show mm_wp _ _ (0, [some (.ref 2), some (.int (iI b)), none, none], [], MX L t s l) (fun r => r = (some (.int (iI (-1))), MX L t s l))
  have hB := hK.2.1
  have g0 := hB.1
  have gw := (hB.2.2.2.2 b hb0 hb1).1
  refine wi_a1 hc rfl rfl ?_
  refine wi_gr (w := 8) hc rfl rfl (by decide) (Nat.le_of_ble_eq_true rfl) rfl ?_
  refine wi_i1 hc rfl rfl ?_
  refine wi_ildv (N := 10) hc rfl rfl (by decide) (by decide) (by omega) (by omega) (v := A (46 + 6 * b + 5)) (lb_where hL (by omega) (by omega) (by omega)) ?_
  refine wi_is1 (L' := [some (.ref 2), some (.int (iI b)), some (.int (iI (A (46 + 6 * b + 5)))), none]) hc rfl (Nat.le_of_ble_eq_true rfl) rfl ?_
  refine wi_i1 hc rfl rfl ?_
  refine wi_ic hc rfl ?_
  refine wi_clt hc rfl ⟨by omega, by omega⟩ ⟨by decide, by decide⟩ (fun h1_ => (by exfalso; omega)) (fun h1_ => ?_)
  refine wi_ic hc rfl ?_
  refine wi_ri hc rfl (by rw [cm_70]; rfl) ?_
  rfl
theorem sp_71 {d L t : Nat} {s l : Nat → Int → Int} {A T : Int → Int} (hL : LB 0 s A T) (hK : KA A T) {x p : Int} (hx0 : 0 ≤ x) (hx1 : x < 3) (hp0 : 0 ≤ p) (hp1 : p < A (13 + x) - 1) : ∃ s1, mm_Ev mm_ct mm_CM (d + 2) 71 [.ref 2, .int (iI x), .int (iI p)] (MX L t s l) (none, MX L t s1 l) ∧ (∀ c, ¬ (4 ≤ c ∧ c ≤ 6) → s1 c = s c) ∧ LB 0 s1 (exF A x p) T := by
  have hc : (mm_CM 71).2.2.2.2.2.2.2 = mm_cf cd_71 := by rw [cm_71]; rfl
  refine ev_xs ?_
  refine ev_to (mx := 4) (by rw [cm_71]; decide) (by rw [cm_71]; rfl) (by show 3 ≤ _; decide) ?_
  show mm_wp _ _ (0, [some (.ref 2), some (.int (iI x)), some (.int (iI p)), none], [], MX L t s l) (fun res => ∃ s1, res = (none, MX L t s1 l) ∧ (∀ c, ¬ (4 ≤ c ∧ c ≤ 6) → s1 c = s c) ∧ LB 0 s1 (exF A x p) T)
  have hB := hK.2.1
  have g0 := hB.1
  have gm := hB.2.1 x hx0 hx1
  refine wi_a1 hc rfl rfl ?_
  refine wi_i1 hc rfl rfl ?_
  refine wi_i1 hc rfl rfl ?_
  refine wp_cv (b := 2) (As := [.int (iI x), .int (iI p)]) (r := []) hc rfl (by rw [cm_69]; rfl) rfl (Nat.le_of_ble_eq_true rfl) (show 2 < 621 by decide) (by rw [cm_69]; rfl) (ev_mono (sp_69 (d := 0) hL hK (x := x) (p := p) (by omega) (by omega) ⟨by omega, by omega⟩) (by omega)) ?_
  show mm_wp _ _ (6, [some (.ref 2), some (.int (iI x)), some (.int (iI p)), none], [.int (iI (bI (0 ≤ p ∧ p < A (13 + x) - 1)))], MX L t s l) _
  refine wi_beq hc rfl (fun h1_ => (by exfalso; omega)) (fun h1_ => ?_)
  refine wi_a1 hc rfl rfl ?_
  refine wi_gr (w := 3) hc rfl rfl (by decide) (Nat.le_of_ble_eq_true rfl) rfl ?_
  refine wi_i1 hc rfl rfl ?_
  refine wi_ald (w := 4 + x.toNat) (N := 3) hc rfl (Nat.le_of_ble_eq_true rfl) (Nat.le_of_ble_eq_true rfl) (by decide) rfl (by decide) (by omega) (by omega) (sh_row3 (by omega) (by omega)) ?_
  refine wi_i1 hc rfl rfl ?_
  refine wi_ildv (N := 10) hc rfl (sh_rows (by omega) (by omega)) (by omega) (by decide) (by omega) (by omega) (v := A (16 + 10 * x + p)) (lb_row hL (by omega) (by omega) (by omega) (by omega) (by omega)) ?_
  refine wi_is1 (L' := [some (.ref 2), some (.int (iI x)), some (.int (iI p)), some (.int (iI (A (16 + 10 * x + p))))]) hc rfl (Nat.le_of_ble_eq_true rfl) rfl ?_
  refine wi_a1 hc rfl rfl ?_
  refine wi_gr (w := 3) hc rfl rfl (by decide) (Nat.le_of_ble_eq_true rfl) rfl ?_
  refine wi_i1 hc rfl rfl ?_
  refine wi_ald (w := 4 + x.toNat) (N := 3) hc rfl (Nat.le_of_ble_eq_true rfl) (Nat.le_of_ble_eq_true rfl) (by decide) rfl (by decide) (by omega) (by omega) (sh_row3 (by omega) (by omega)) ?_
  refine wi_i1 hc rfl rfl ?_
  refine wi_a1 hc rfl rfl ?_
  refine wi_gr (w := 3) hc rfl rfl (by decide) (Nat.le_of_ble_eq_true rfl) rfl ?_
  refine wi_i1 hc rfl rfl ?_
  refine wi_ald (w := 4 + x.toNat) (N := 3) hc rfl (Nat.le_of_ble_eq_true rfl) (Nat.le_of_ble_eq_true rfl) (by decide) rfl (by decide) (by omega) (by omega) (sh_row3 (by omega) (by omega)) ?_
  refine wi_i1 hc rfl rfl ?_
  refine wi_ic hc rfl ?_
  refine wi_add hc rfl ?_
  refine wi_ildv (N := 10) hc rfl (sh_rows (by omega) (by omega)) (by omega) (by decide) (by omega) (by omega) (v := A (16 + 10 * x + (p + 1))) (lb_row hL (by omega) (by omega) (by omega) (by omega) (by omega)) ?_
  refine wi_ist (N := 10) hc rfl (sh_rows (by omega) (by omega)) (by omega) (by decide) (by omega) (by omega) ?_
  obtain ⟨s1_, es1_⟩ : ∃ q, q = up s (4 + x.toNat) p (A (16 + 10 * x + (p + 1))) := ⟨_, rfl⟩
  rw [← es1_]
  refine wi_a1 hc rfl rfl ?_
  refine wi_gr (w := 3) hc rfl rfl (by decide) (Nat.le_of_ble_eq_true rfl) rfl ?_
  refine wi_i1 hc rfl rfl ?_
  refine wi_ald (w := 4 + x.toNat) (N := 3) hc rfl (Nat.le_of_ble_eq_true rfl) (Nat.le_of_ble_eq_true rfl) (by decide) rfl (by decide) (by omega) (by omega) (sh_row3 (by omega) (by omega)) ?_
  refine wi_i1 hc rfl rfl ?_
  refine wi_ic hc rfl ?_
  refine wi_add hc rfl ?_
  refine wi_i1 hc rfl rfl ?_
  refine wi_ist (N := 10) hc rfl (sh_rows (by omega) (by omega)) (by omega) (by decide) (by omega) (by omega) ?_
  obtain ⟨s2_, es2_⟩ : ∃ q, q = up s1_ (4 + x.toNat) (p + 1) (A (16 + 10 * x + p)) := ⟨_, rfl⟩
  rw [← es2_]
  refine wi_rv hc rfl (by rw [cm_71]; rfl) ?_
  have hmv := mv_ex (A := A) hx0 hx1 hp0 (by omega : p < 9)
  have hFr : (∀ c, ¬ (4 ≤ c ∧ c ≤ 6) → s2_ c = s c) := fun c hc9_ => ((congrFun es2_ c).trans (up_cc (by omega))).trans ((congrFun es1_ c).trans (up_cc (by omega)))
  refine ⟨s2_, rfl, hFr, hL.mv hK hmv (fun e q1 q2 q3 => hFr e (by omega)) (sc_mk ?_ ?_ ?_ ?_ ?_ ?_ ?_ ?_ ?_)⟩
  · rw [hFr 2 (by omega), hmv.lo (by decide)]; exact lb_wc hL
  · rw [hFr 2 (by omega), hmv.lo (by decide)]; exact lb_wet hL
  · rw [hFr 2 (by omega), hmv.lo (by decide)]; exact lb_night hL
  · rw [hFr 2 (by omega), hmv.lo (by decide)]; exact lb_drawn hL
  · intro y a b; rw [ex_else hx0 hx1 hp0 (by omega) (by omega)]; exact (hB.2.1 y a b).2
  · intro y a b; rw [hFr 7 (by omega), ex_else hx0 hx1 hp0 (by omega) (by omega)]; exact lb_many hL a b
  · intro y q a b c e
    rw [ex_else hx0 hx1 hp0 (by omega) (by omega)] at e
    have gy := hB.2.1 y a b
    rw [ex_pl hx0 hx1 hp0 (by omega) a b c (by omega), es2_, es1_]
    unfold up
    by_cases hy : y = x
    · subst hy
      by_cases h1 : q = p + 1
      · rw [if_pos ⟨rfl, h1⟩, if_neg (by omega), if_pos ⟨rfl, h1⟩]
      · rw [if_neg (fun h => h1 h.2)]
        by_cases h2 : q = p
        · rw [if_pos ⟨rfl, h2⟩, if_pos ⟨rfl, h2⟩]
        · rw [if_neg (fun h => h2 h.2), if_neg (fun h => h2 h.2), if_neg (fun h => h1 h.2)]; exact lb_row hL a b c e (by omega)
    · rw [if_neg (fun h => hy (by omega)), if_neg (fun h => hy (by omega)), if_neg (fun h => hy h.1), if_neg (fun h => hy h.1)]; exact lb_row hL a b c e (by omega)
  · intro b a c; rw [hFr 8 (by omega), ex_else hx0 hx1 hp0 (by omega) (by omega), ex_else hx0 hx1 hp0 (by omega) (by omega)]; exact lb_where0 hL a c
  · intro i a c; rw [hmv.lo (by decide)] at c; rw [hFr 9 (by omega), hmv.lg, hmv.lo (by decide)]; exact lb_log hL a c
theorem sp_72 {d L t : Nat} {s l : Nat → Int → Int} {A T : Int → Int} (hL : LB 0 s A T) (hK : KA A T) {b x p : Int} (hb0 : 0 ≤ b) (hb1 : b < A 0) (hx : A (46 + 6 * b + 5) = x) (hx0 : 0 ≤ x) (hx1 : x < 3) (hp0 : 0 ≤ p) (hp1 : p < A (13 + x)) (hp : A (16 + 10 * x + p) = b) {to : Int} (ht : to = 3 ∨ to = 4) : ∃ s1, mm_Ev mm_ct mm_CM (d + 2) 72 [.ref 2, .int (iI b), .int (iI to)] (MX L t s l) (none, MX L t s1 l) ∧ (∀ c, ¬ (4 ≤ c ∧ c ≤ 8) → s1 c = s c) ∧ LB 0 s1 (pullF A x p to) T := by
  have hc : (mm_CM 72).2.2.2.2.2.2.2 = mm_cf cd_72 := by rw [cm_72]; rfl
  refine ev_xs ?_
  refine ev_to (mx := 6) (by rw [cm_72]; decide) (by rw [cm_72]; rfl) (by show 3 ≤ _; decide) ?_
  show mm_wp _ _ (0, [some (.ref 2), some (.int (iI b)), some (.int (iI to)), none, none, none], [], MX L t s l) (fun res => ∃ s1, res = (none, MX L t s1 l) ∧ (∀ c, ¬ (4 ≤ c ∧ c ≤ 8) → s1 c = s c) ∧ LB 0 s1 (pullF A x p to) T)
  have hB := hK.2.1
  have g0 := hB.1
  have gm := hB.2.1 x hx0 hx1
  refine wi_a1 hc rfl rfl ?_
  refine wi_i1 hc rfl rfl ?_
  refine wp_cv (b := 2) (As := [.int (iI b)]) (r := []) hc rfl (by rw [cm_70]; rfl) rfl (Nat.le_of_ble_eq_true rfl) (show 2 < 621 by decide) (by rw [cm_70]; rfl) (ev_mono (sp_70 (d := 0) hL hK hb0 hb1 hx hx0 hx1 hp0 hp1 hp) (by omega)) ?_
  show mm_wp _ _ (5, [some (.ref 2), some (.int (iI b)), some (.int (iI to)), none, none, none], [.int (iI p)], MX L t s l) _
  refine wi_is1 (L' := [some (.ref 2), some (.int (iI b)), some (.int (iI to)), some (.int (iI p)), none, none]) hc rfl (Nat.le_of_ble_eq_true rfl) rfl ?_
  refine wi_i1 hc rfl rfl ?_
  refine wi_ic hc rfl ?_
  refine wi_ceq hc rfl ⟨by omega, by omega⟩ ⟨by decide, by decide⟩ (fun h1_ => (by exfalso; omega)) (fun h1_ => ?_)
  refine wi_a1 hc rfl rfl ?_
  refine wi_gr (w := 8) hc rfl rfl (by decide) (Nat.le_of_ble_eq_true rfl) rfl ?_
  refine wi_i1 hc rfl rfl ?_
  refine wi_ildv (N := 10) hc rfl rfl (by decide) (by decide) (by omega) (by omega) (v := x) ((lb_where hL (by omega) (by omega) (by omega)).trans hx) ?_
  refine wi_is2 (L' := [some (.ref 2), some (.int (iI b)), some (.int (iI to)), some (.int (iI p)), some (.int (iI x)), none]) hc rfl (Nat.le_of_ble_eq_true rfl) rfl ?_
  refine wi_a1 hc rfl rfl ?_
  refine wi_gr (w := 7) hc rfl rfl (by decide) (Nat.le_of_ble_eq_true rfl) rfl ?_
  refine wi_i2 hc rfl rfl ?_
  refine wi_dup2 hc rfl ?_
  refine wi_ildv (N := 3) hc rfl rfl (by decide) (by decide) (by omega) (by omega) (v := A (13 + x)) (lb_many hL (by omega) (by omega)) ?_
  refine wi_ic hc rfl ?_
  refine wi_sub hc rfl ?_
  refine wi_ist (N := 3) hc rfl rfl (by decide) (by decide) (by omega) (by omega) ?_
  obtain ⟨s1_, es1_⟩ : ∃ q, q = up s 7 x ((A (13 + x)) - 1) := ⟨_, rfl⟩
  rw [← es1_]
  refine wi_i1 hc rfl rfl ?_
  refine wi_is2 (L' := [some (.ref 2), some (.int (iI b)), some (.int (iI to)), some (.int (iI p)), some (.int (iI x)), some (.int (iI p))]) hc rfl (Nat.le_of_ble_eq_true rfl) rfl ?_
  have loop33_ : ∀ i : Int, i ≤ A (13 + x) - 1 → p ≤ i → ∀ s2 : Nat → Int → Int, (∀ c, c ≠ 4 + x.toNat ∧ c ≠ 7 → s2 c = s c) → (∀ j, s2 (4 + x.toNat) j = if p ≤ j ∧ j < i then s (4 + x.toNat) (j + 1) else s (4 + x.toNat) j) → (∀ y, s2 7 y = if y = x then A (13 + x) - 1 else s 7 y) → mm_wp (mm_Ev mm_ct mm_CM (d + 1)) 72 (33, [some (.ref 2), some (.int (iI b)), some (.int (iI to)), some (.int (iI p)), some (.int (iI x)), some (.int (iI i))], [], MX L t s2 l) (fun res => ∃ s1, res = (none, MX L t s1 l) ∧ (∀ c, ¬ (4 ≤ c ∧ c ≤ 8) → s1 c = s c) ∧ LB 0 s1 (pullF A x p to) T) := by
    refine up_ind ?_
    intro i hi ih hpi s2 hF hI hM
    refine wi_i2 hc rfl rfl ?_
    refine wi_a1 hc rfl rfl ?_
    refine wi_gr (w := 7) hc rfl rfl (by decide) (Nat.le_of_ble_eq_true rfl) rfl ?_
    refine wi_i2 hc rfl rfl ?_
    refine wi_ildv (N := 3) hc rfl rfl (by decide) (by decide) (by omega) (by omega) (v := A (13 + x) - 1) ((by rw [hM]; exact if_pos rfl)) ?_
    refine wi_cge hc rfl ⟨by omega, by omega⟩ ⟨by omega, by omega⟩ (fun h2_ => ?_) (fun h2_ => ?_)
    · refine wi_a1 hc rfl rfl ?_
      refine wi_gr (w := 8) hc rfl rfl (by decide) (Nat.le_of_ble_eq_true rfl) rfl ?_
      refine wi_i1 hc rfl rfl ?_
      refine wi_i1 hc rfl rfl ?_
      refine wi_ist (N := 10) hc rfl rfl (by decide) (by decide) (by omega) (by omega) ?_
      obtain ⟨s2_, es2_⟩ : ∃ q, q = up s2 8 b to := ⟨_, rfl⟩
      rw [← es2_]
      refine wi_rv hc rfl (by rw [cm_72]; rfl) ?_
      have hmv := mv_pull (to := to) hB hx0 hx1 hp0 hp1
      have ei : i = A (13 + x) - 1 := by omega
      have hFr : (∀ c, ¬ (4 ≤ c ∧ c ≤ 8) → s2_ c = s c) := fun c hc9_ => ((congrFun es2_ c).trans (up_cc (by omega))).trans (hF c (by omega))
      have hc2 : ∀ c, c ≠ 8 → s2_ c = s2 c := fun c hc9 => (congrFun es2_ c).trans (up_cc hc9)
      refine ⟨s2_, rfl, hFr, hL.mv hK hmv (fun e q1 q2 q3 => hFr e (by omega)) (sc_mk ?_ ?_ ?_ ?_ ?_ ?_ ?_ ?_ ?_)⟩
      · rw [hFr 2 (by omega), hmv.lo (by decide)]; exact lb_wc hL
      · rw [hFr 2 (by omega), hmv.lo (by decide)]; exact lb_wet hL
      · rw [hFr 2 (by omega), hmv.lo (by decide)]; exact lb_night hL
      · rw [hFr 2 (by omega), hmv.lo (by decide)]; exact lb_drawn hL
      · intro y a b; rw [pull_many hB hx0 hx1 hp0 hp1 a b]; have := hB.2.1 y a b; split <;> omega
      · intro y a b
        rw [hc2 7 (by decide), hM y, pull_many hB hx0 hx1 hp0 hp1 a b]
        by_cases hy : y = x
        · rw [if_pos hy, if_pos hy, hy]
        · rw [if_neg hy, if_neg hy]; exact lb_many hL a b
      · intro y q a b c e
        rw [pull_many hB hx0 hx1 hp0 hp1 a b] at e
        have gy := hB.2.1 y a b
        have hq9 : q < 10 := by split at e <;> omega
        rw [pull_pl hB hx0 hx1 hp0 hp1 a b c hq9, hc2 _ (by omega)]
        by_cases hy : y = x
        · subst hy
          rw [if_pos rfl] at e
          rw [hI q]
          by_cases h1 : p ≤ q
          · rw [if_pos ⟨h1, by omega⟩, if_pos ⟨rfl, h1, e⟩]; exact lb_row hL a b (by omega) (by omega) (by omega)
          · rw [if_neg (fun h => h1 h.1), if_neg (fun h => h1 h.2.1)]; exact lb_row hL a b c (by omega) (by omega)
        · rw [if_neg (fun h => hy h.1), hF _ (by omega)]; rw [if_neg hy] at e; exact lb_row hL a b c e (by omega)
      · intro k a c
        rw [es2_, pull_wh hB hx0 hx1 hp0 hp1 a, hmv.lo (by decide), hp]
        by_cases hk : k = b
        · rw [up_e hk, if_pos hk, if_pos (by omega)]
        · rw [up_k hk, if_neg hk, hF 8 (by omega)]; exact lb_where0 hL a c
      · intro i a c; rw [hmv.lo (by decide)] at c; rw [hFr 9 (by omega), hmv.lg, hmv.lo (by decide)]; exact lb_log hL a c
    · refine wi_a1 hc rfl rfl ?_
      refine wi_gr (w := 3) hc rfl rfl (by decide) (Nat.le_of_ble_eq_true rfl) rfl ?_
      refine wi_i2 hc rfl rfl ?_
      refine wi_ald (w := 4 + x.toNat) (N := 3) hc rfl (Nat.le_of_ble_eq_true rfl) (Nat.le_of_ble_eq_true rfl) (by decide) rfl (by decide) (by omega) (by omega) (sh_row3 (by omega) (by omega)) ?_
      refine wi_i2 hc rfl rfl ?_
      refine wi_a1 hc rfl rfl ?_
      refine wi_gr (w := 3) hc rfl rfl (by decide) (Nat.le_of_ble_eq_true rfl) rfl ?_
      refine wi_i2 hc rfl rfl ?_
      refine wi_ald (w := 4 + x.toNat) (N := 3) hc rfl (Nat.le_of_ble_eq_true rfl) (Nat.le_of_ble_eq_true rfl) (by decide) rfl (by decide) (by omega) (by omega) (sh_row3 (by omega) (by omega)) ?_
      refine wi_i2 hc rfl rfl ?_
      refine wi_ic hc rfl ?_
      refine wi_add hc rfl ?_
      refine wi_ild (N := 10) hc rfl (sh_rows (by omega) (by omega)) (by omega) (by decide) (by omega) (by omega) ?_
      refine wi_ist (N := 10) hc rfl (sh_rows (by omega) (by omega)) (by omega) (by decide) (by omega) (by omega) ?_
      obtain ⟨s3_, es3_⟩ : ∃ q, q = up s2 (4 + x.toNat) i (s2 (4 + x.toNat) (i + 1)) := ⟨_, rfl⟩
      rw [← es3_]
      refine wi_inc (L' := [some (.ref 2), some (.int (iI b)), some (.int (iI to)), some (.int (iI p)), some (.int (iI x)), some (.int (iI (i + 1)))]) hc rfl rfl rfl ?_
      refine wi_go hc rfl ?_
      refine ih (by omega) (by omega) s3_ (fun c hc9_ => ((congrFun es3_ c).trans (up_cc (by omega))).trans (hF c (by omega))) (fun j => ?_) (fun y => ?_)
      · rw [es3_]
        by_cases q : j = i
        · rw [up_e q, hI, if_neg (by omega), if_pos (by omega), q]
        · rw [up_k q, hI j]
          (repeat' split) <;> first | rfl | omega
      · rw [es3_, up_c (by omega)]; exact hM y
  refine loop33_ p (by omega) (by omega) s1_ (fun c hc9_ => (congrFun es1_ c).trans (up_cc (by omega))) (fun j => ?_) (fun y => ?_)
  · rw [if_neg (by omega), es1_, up_c (by omega)]
  · rw [es1_]
    by_cases q : y = x
    · rw [up_e q, if_pos q]
    · rw [up_k q, if_neg q]
theorem sp_72o {d L t : Nat} {s l : Nat → Int → Int} {A T : Int → Int} (hL : LB 0 s A T) (hK : KA A T) {b to : Int} (hb0 : 0 ≤ b) (hb1 : b < A 0) (hw : 3 ≤ A (46 + 6 * b + 5)) (ht : to = 3 ∨ to = 4) : ∃ s1, mm_Ev mm_ct mm_CM (d + 2) 72 [.ref 2, .int (iI b), .int (iI to)] (MX L t s l) (none, MX L t s1 l) ∧ (∀ c, ¬ (4 ≤ c ∧ c ≤ 8) → s1 c = s c) ∧ LB 0 s1 (whF A b to) T := by
  have hc : (mm_CM 72).2.2.2.2.2.2.2 = mm_cf cd_72 := by rw [cm_72]; rfl
  refine ev_xs ?_
  refine ev_to (mx := 6) (by rw [cm_72]; decide) (by rw [cm_72]; rfl) (by show 3 ≤ _; decide) ?_
  show mm_wp _ _ (0, [some (.ref 2), some (.int (iI b)), some (.int (iI to)), none, none, none], [], MX L t s l) (fun res => ∃ s1, res = (none, MX L t s1 l) ∧ (∀ c, ¬ (4 ≤ c ∧ c ≤ 8) → s1 c = s c) ∧ LB 0 s1 (whF A b to) T)
  have hB := hK.2.1
  have g0 := hB.1
  refine wi_a1 hc rfl rfl ?_
  refine wi_i1 hc rfl rfl ?_
  refine wp_cv (b := 2) (As := [.int (iI b)]) (r := []) hc rfl (by rw [cm_70]; rfl) rfl (Nat.le_of_ble_eq_true rfl) (show 2 < 621 by decide) (by rw [cm_70]; rfl) (ev_mono (sp_70o (d := 0) hL hK hb0 hb1 hw) (by omega)) ?_
  show mm_wp _ _ (5, [some (.ref 2), some (.int (iI b)), some (.int (iI to)), none, none, none], [.int (iI (-1))], MX L t s l) _
  refine wi_is1 (L' := [some (.ref 2), some (.int (iI b)), some (.int (iI to)), some (.int (iI (-1))), none, none]) hc rfl (Nat.le_of_ble_eq_true rfl) rfl ?_
  refine wi_i1 hc rfl rfl ?_
  refine wi_ic hc rfl ?_
  refine wi_ceq hc rfl ⟨by decide, by decide⟩ ⟨by decide, by decide⟩ (fun h1_ => ?_) (fun h1_ => (by exfalso; omega))
  refine wi_a1 hc rfl rfl ?_
  refine wi_gr (w := 8) hc rfl rfl (by decide) (Nat.le_of_ble_eq_true rfl) rfl ?_
  refine wi_i1 hc rfl rfl ?_
  refine wi_i1 hc rfl rfl ?_
  refine wi_ist (N := 10) hc rfl rfl (by decide) (by decide) (by omega) (by omega) ?_
  obtain ⟨s1_, es1_⟩ : ∃ q, q = up s 8 b to := ⟨_, rfl⟩
  rw [← es1_]
  refine wi_rv hc rfl (by rw [cm_72]; rfl) ?_
  have hmv := mv_wh (A := A) (to := to) hb0 (by omega : b < 10)
  have hFr : (∀ c, ¬ (4 ≤ c ∧ c ≤ 8) → s1_ c = s c) := fun c hc9_ => (congrFun es1_ c).trans (up_cc (by omega))
  have el : ∀ k, k < 46 → whF A b to k = A k := fun k a => by unfold whF; rw [if_neg (by omega)]
  have hc2 : ∀ c, c ≠ 8 → s1_ c = s c := fun c hc9 => (congrFun es1_ c).trans (up_cc hc9)
  refine ⟨s1_, rfl, hFr, hL.mv hK hmv (fun e q1 q2 q3 => hFr e (by omega)) (sc_mk ?_ ?_ ?_ ?_ ?_ ?_ ?_ ?_ ?_)⟩
  · rw [hFr 2 (by omega), hmv.lo (by decide)]; exact lb_wc hL
  · rw [hFr 2 (by omega), hmv.lo (by decide)]; exact lb_wet hL
  · rw [hFr 2 (by omega), hmv.lo (by decide)]; exact lb_night hL
  · rw [hFr 2 (by omega), hmv.lo (by decide)]; exact lb_drawn hL
  · intro y a c; rw [el _ (by omega)]; exact (hB.2.1 y a c).2
  · intro y a c; rw [hc2 7 (by decide), el _ (by omega)]; exact lb_many hL a c
  · intro y q a c d e
    rw [el _ (by omega)] at e
    have gy := hB.2.1 y a c
    rw [hc2 _ (by omega), el _ (by omega)]; exact lb_row hL a c d e (by omega)
  · intro k a c
    rw [es1_, hmv.lo (by decide)]
    unfold whF
    by_cases hk : k = b
    · rw [up_e hk, if_pos (by omega), if_pos (by omega)]
    · rw [up_k hk, if_neg (show ¬ 46 + 6 * k + 5 = 46 + 6 * b + 5 by omega)]; exact lb_where0 hL a c
  · intro i a c; rw [hmv.lo (by decide)] at c; rw [hFr 9 (by omega), hmv.lg, hmv.lo (by decide)]; exact lb_log hL a c
theorem sp_73 {d L t : Nat} {s l : Nat → Int → Int} {A T : Int → Int} (hL : LB 0 s A T) (hK : KA A T) {b x p : Int} (hb0 : 0 ≤ b) (hb1 : b < A 0) (hx0 : 0 ≤ x) (hx1 : x < 3) (hp0 : 0 ≤ p) (hp1 : p ≤ A (13 + x)) (hm9 : A (13 + x) ≤ 9) : ∃ s1, mm_Ev mm_ct mm_CM (d + 1) 73 [.ref 2, .int (iI b), .int (iI x), .int (iI p)] (MX L t s l) (none, MX L t s1 l) ∧ (∀ c, ¬ (4 ≤ c ∧ c ≤ 8) → s1 c = s c) ∧ LB 0 s1 (setF A b x p) T := by
  have hc : (mm_CM 73).2.2.2.2.2.2.2 = mm_cf cd_73 := by rw [cm_73]; rfl
  refine ev_xs ?_
  refine ev_to (mx := 5) (by rw [cm_73]; decide) (by rw [cm_73]; rfl) (by show 4 ≤ _; decide) ?_
  show mm_wp _ _ (0, [some (.ref 2), some (.int (iI b)), some (.int (iI x)), some (.int (iI p)), none], [], MX L t s l) (fun res => ∃ s1, res = (none, MX L t s1 l) ∧ (∀ c, ¬ (4 ≤ c ∧ c ≤ 8) → s1 c = s c) ∧ LB 0 s1 (setF A b x p) T)
  have hB := hK.2.1
  have g0 := hB.1
  refine wi_a1 hc rfl rfl ?_
  refine wi_gr (w := 7) hc rfl rfl (by decide) (Nat.le_of_ble_eq_true rfl) rfl ?_
  refine wi_i1 hc rfl rfl ?_
  refine wi_ildv (N := 3) hc rfl rfl (by decide) (by decide) (by omega) (by omega) (v := A (13 + x)) (lb_many hL (by omega) (by omega)) ?_
  refine wi_bi hc rfl rfl ?_
  refine wi_clt hc rfl ⟨by omega, by omega⟩ ⟨by decide, by decide⟩ (fun h1_ => ?_) (fun h1_ => (by exfalso; omega))
  refine wi_a1 hc rfl rfl ?_
  refine wi_gr (w := 7) hc rfl rfl (by decide) (Nat.le_of_ble_eq_true rfl) rfl ?_
  refine wi_i1 hc rfl rfl ?_
  refine wi_ildv (N := 3) hc rfl rfl (by decide) (by decide) (by omega) (by omega) (v := A (13 + x)) (lb_many hL (by omega) (by omega)) ?_
  refine wi_is2 (L' := [some (.ref 2), some (.int (iI b)), some (.int (iI x)), some (.int (iI p)), some (.int (iI (A (13 + x))))]) hc rfl (Nat.le_of_ble_eq_true rfl) rfl ?_
  have loop20_ : ∀ i : Int, p ≤ i → i ≤ A (13 + x) → ∀ s2 : Nat → Int → Int, (∀ c, c ≠ 4 + x.toNat → s2 c = s c) → (∀ j, s2 (4 + x.toNat) j = if i < j ∧ j ≤ A (13 + x) then s (4 + x.toNat) (j - 1) else s (4 + x.toNat) j) → mm_wp (mm_Ev mm_ct mm_CM d) 73 (20, [some (.ref 2), some (.int (iI b)), some (.int (iI x)), some (.int (iI p)), some (.int (iI i))], [], MX L t s2 l) (fun res => ∃ s1, res = (none, MX L t s1 l) ∧ (∀ c, ¬ (4 ≤ c ∧ c ≤ 8) → s1 c = s c) ∧ LB 0 s1 (setF A b x p) T) := by
    refine dn_ind' ?_
    intro i hi ih hpi s2 hF hI
    refine wi_i2 hc rfl rfl ?_
    refine wi_i1 hc rfl rfl ?_
    refine wi_cle hc rfl ⟨by omega, by omega⟩ ⟨by omega, by omega⟩ (fun h2_ => ?_) (fun h2_ => ?_)
    · refine wi_a1 hc rfl rfl ?_
      refine wi_gr (w := 3) hc rfl rfl (by decide) (Nat.le_of_ble_eq_true rfl) rfl ?_
      refine wi_i1 hc rfl rfl ?_
      refine wi_ald (w := 4 + x.toNat) (N := 3) hc rfl (Nat.le_of_ble_eq_true rfl) (Nat.le_of_ble_eq_true rfl) (by decide) rfl (by decide) (by omega) (by omega) (sh_row3 (by omega) (by omega)) ?_
      refine wi_i1 hc rfl rfl ?_
      refine wi_i1 hc rfl rfl ?_
      refine wi_ist (N := 10) hc rfl (sh_rows (by omega) (by omega)) (by omega) (by decide) (by omega) (by omega) ?_
      obtain ⟨s1_, es1_⟩ : ∃ q, q = up s2 (4 + x.toNat) p b := ⟨_, rfl⟩
      rw [← es1_]
      refine wi_a1 hc rfl rfl ?_
      refine wi_gr (w := 7) hc rfl rfl (by decide) (Nat.le_of_ble_eq_true rfl) rfl ?_
      refine wi_i1 hc rfl rfl ?_
      refine wi_dup2 hc rfl ?_
      refine wi_ildv (N := 3) hc rfl rfl (by decide) (by decide) (by omega) (by omega) (v := A (13 + x)) (((congrFun (congrFun es1_ _) _).trans (up_c (by omega))).trans ((congrFun (hF 7 (by omega)) _).trans (lb_many hL (by omega) (by omega)))) ?_
      refine wi_ic hc rfl ?_
      refine wi_add hc rfl ?_
      refine wi_ist (N := 3) hc rfl rfl (by decide) (by decide) (by omega) (by omega) ?_
      obtain ⟨s2_, es2_⟩ : ∃ q, q = up s1_ 7 x ((A (13 + x)) + 1) := ⟨_, rfl⟩
      rw [← es2_]
      refine wi_a1 hc rfl rfl ?_
      refine wi_gr (w := 8) hc rfl rfl (by decide) (Nat.le_of_ble_eq_true rfl) rfl ?_
      refine wi_i1 hc rfl rfl ?_
      refine wi_i1 hc rfl rfl ?_
      refine wi_ist (N := 10) hc rfl rfl (by decide) (by decide) (by omega) (by omega) ?_
      obtain ⟨s3_, es3_⟩ : ∃ q, q = up s2_ 8 b x := ⟨_, rfl⟩
      rw [← es3_]
      refine wi_rv hc rfl (by rw [cm_73]; rfl) ?_
      have ei : i = p := by omega
      have hmv := mv_set (A := A) (b := b) (x := x) (p := p) hb0 (by omega) hx0 hx1 hp0 hp1 hm9
      have hFr : (∀ c, ¬ (4 ≤ c ∧ c ≤ 8) → s3_ c = s c) := fun c hc9_ => ((congrFun es3_ c).trans (up_cc (by omega))).trans (((congrFun es2_ c).trans (up_cc (by omega))).trans (((congrFun es1_ c).trans (up_cc (by omega))).trans (hF c (by omega))))
      refine ⟨s3_, rfl, hFr, hL.mv hK hmv (fun e q1 q2 q3 => hFr e (by omega)) (sc_mk ?_ ?_ ?_ ?_ ?_ ?_ ?_ ?_ ?_)⟩
      · rw [hFr 2 (by omega), hmv.lo (by decide)]; exact lb_wc hL
      · rw [hFr 2 (by omega), hmv.lo (by decide)]; exact lb_wet hL
      · rw [hFr 2 (by omega), hmv.lo (by decide)]; exact lb_night hL
      · rw [hFr 2 (by omega), hmv.lo (by decide)]; exact lb_drawn hL
      · intro y a c; rw [set_many hb0 hx0 hx1 hp0 a c]; have := hB.2.1 y a c; split
        · rename_i q; subst q; omega
        · omega
      · intro y a c
        rw [es3_, up_c (by decide), es2_, set_many hb0 hx0 hx1 hp0 a c]
        by_cases hy : y = x
        · rw [up_e hy, if_pos hy, hy]
        · rw [up_k hy, if_neg hy, es1_, up_c (by omega), hF 7 (by omega)]; exact lb_many hL a c
      · intro y q a c d e
        rw [set_many hb0 hx0 hx1 hp0 a c] at e
        have gy := hB.2.1 y a c
        have hq9 : q < 10 := by
          split at e
          · rename_i q; subst q; omega
          · omega
        rw [set_pl hb0 hx0 hx1 hp0 hp1 hm9 a c d hq9, es3_, up_c (by omega), es2_, up_c (by omega), es1_]
        by_cases hy : y = x
        · subst hy
          rw [if_pos rfl] at e
          by_cases h1 : q = p
          · rw [up_e h1, if_neg (by omega), if_pos ⟨rfl, h1⟩]
          · rw [up_k h1, hI q]
            by_cases h2 : p < q
            · rw [if_pos ⟨by omega, by omega⟩, if_pos ⟨rfl, h2, by omega⟩]; exact lb_row hL a c (by omega) (by omega) (by omega)
            · rw [if_neg (by omega), if_neg (by omega), if_neg (by omega)]; exact lb_row hL a c d (by omega) (by omega)
        · rw [if_neg (fun h => hy h.1), if_neg (fun h => hy h.1), up_c (by omega), hF _ (by omega)]; rw [if_neg hy] at e; exact lb_row hL a c d e (by omega)
      · intro k a c
        rw [es3_, set_wh hx0 hx1 hp0 hp1 hm9 a, hmv.lo (by decide)]
        by_cases hk : k = b
        · rw [up_e hk, if_pos hk, if_pos (by omega)]
        · rw [up_k hk, if_neg hk, es2_, up_c (by decide), es1_, up_c (by omega), hF 8 (by omega)]; exact lb_where0 hL a c
      · intro i a c; rw [hmv.lo (by decide)] at c; rw [hFr 9 (by omega), hmv.lg, hmv.lo (by decide)]; exact lb_log hL a c
    · refine wi_a1 hc rfl rfl ?_
      refine wi_gr (w := 3) hc rfl rfl (by decide) (Nat.le_of_ble_eq_true rfl) rfl ?_
      refine wi_i1 hc rfl rfl ?_
      refine wi_ald (w := 4 + x.toNat) (N := 3) hc rfl (Nat.le_of_ble_eq_true rfl) (Nat.le_of_ble_eq_true rfl) (by decide) rfl (by decide) (by omega) (by omega) (sh_row3 (by omega) (by omega)) ?_
      refine wi_i2 hc rfl rfl ?_
      refine wi_a1 hc rfl rfl ?_
      refine wi_gr (w := 3) hc rfl rfl (by decide) (Nat.le_of_ble_eq_true rfl) rfl ?_
      refine wi_i1 hc rfl rfl ?_
      refine wi_ald (w := 4 + x.toNat) (N := 3) hc rfl (Nat.le_of_ble_eq_true rfl) (Nat.le_of_ble_eq_true rfl) (by decide) rfl (by decide) (by omega) (by omega) (sh_row3 (by omega) (by omega)) ?_
      refine wi_i2 hc rfl rfl ?_
      refine wi_ic hc rfl ?_
      refine wi_sub hc rfl ?_
      refine wi_ild (N := 10) hc rfl (sh_rows (by omega) (by omega)) (by omega) (by decide) (by omega) (by omega) ?_
      refine wi_ist (N := 10) hc rfl (sh_rows (by omega) (by omega)) (by omega) (by decide) (by omega) (by omega) ?_
      obtain ⟨s4_, es4_⟩ : ∃ q, q = up s2 (4 + x.toNat) i (s2 (4 + x.toNat) (i - 1)) := ⟨_, rfl⟩
      rw [← es4_]
      refine wi_inc (L' := [some (.ref 2), some (.int (iI b)), some (.int (iI x)), some (.int (iI p)), some (.int (iI (i + (-1))))]) hc rfl rfl rfl ?_
      refine wi_go hc rfl ?_
      refine ih (by omega) (by omega) s4_ (fun c hc9_ => ((congrFun es4_ c).trans (up_cc (by omega))).trans (hF c (by omega))) (fun j => ?_)
      rw [es4_]
      by_cases q : j = i
      · rw [up_e q, hI, if_neg (by omega), if_pos (by omega), q]
      · rw [up_k q, hI j]
        (repeat' split) <;> first | rfl | omega
  refine loop20_ (A (13 + x)) (by omega) (by omega) s (fun c _ => rfl) (fun j => ?_)
  rw [if_neg (by omega)]
