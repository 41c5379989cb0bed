/-! RANK on both sides. -/
noncomputable def pB (p : Prop) : Int := @ite Int p (Classical.propDecidable p) 1 0
theorem pB_t {p : Prop} (h : p) : pB p = 1 := @if_pos p (Classical.propDecidable p) h _ _ _
theorem pB_f {p : Prop} (h : ¬ p) : pB p = 0 := @if_neg p (Classical.propDecidable p) h _ _ _
theorem pB_r (p : Prop) : (pB p = 1 ∧ p) ∨ (pB p = 0 ∧ ¬ p) := by
  rcases Classical.em p with h | h
  · exact Or.inl ⟨pB_t h, h⟩
  · exact Or.inr ⟨pB_f h, h⟩
theorem sp_112 {d L t : Nat} {s l : Nat → Int → Int} {A T : Int → Int} (hJ : JC s A T) (hK : KA A T) {S pl : Int} (hS : rI S) (hp : rI pl) : ∃ s1, mm_Ev mm_ct mm_CM (d + 6) 112 [.ref 0, .int (iI S), .int (iI pl)] (MX L t s l) (some (.int (iI (rankP A T S pl))), MX L t s1 l) ∧ (∀ c, c ≠ 578 ∧ c ≠ 579 ∧ c ≠ 592 → s1 c = s c) ∧ JC s1 A T := by
  have hc : (mm_CM 112).2.2.2.2.2.2.2 = mm_cf cd_112 := by rw [cm_112]; rfl
  refine ev_xs ?_
  refine ev_to (mx := 3) (by rw [cm_112]; decide) (by rw [cm_112]; rfl) (by show 3 ≤ _; decide) ?_
  show mm_wp _ _ (0, [some (.ref 0), some (.int (iI S)), some (.int (iI pl))], [], MX L t s l) (fun res => ∃ s1, res = (some (.int (iI (rankP A T S pl))), MX L t s1 l) ∧ (∀ c, c ≠ 578 ∧ c ≠ 579 ∧ c ≠ 592 → s1 c = s c) ∧ JC s1 A T)
  have hV := hK.1
  have hB := hK.2.1
  have g0 := hB.1
  have hpw := pw_10 g0.1 g0.2
  refine wi_a1 hc rfl rfl ?_
  refine wi_i1 hc rfl rfl ?_
  refine wp_cv (b := 0) (As := [.int (iI S)]) (r := []) hc rfl (by rw [cm_133]; rfl) rfl (Nat.le_of_ble_eq_true rfl) (show 0 < 621 by decide) (by rw [cm_133]; rfl) (ev_mono (sp_133 (d := 0) hJ hK (m := S) hS) (by omega)) ?_
  show mm_wp _ _ (5, [some (.ref 0), some (.int (iI S)), some (.int (iI pl))], [.int (iI (bI ((0 < S ∧ S < 2 ^ (A 0).toNat) ∧ popI S ≤ 6)))], MX L t s l) _
  refine wi_beq hc rfl (fun h1_ => ?_) (fun h1_ => ?_)
  · refine wi_ic hc rfl ?_
    refine wi_ri hc rfl (by rw [cm_112]; rfl) ?_
    have hR : rankP A T S pl = -1 := by unfold rankP; rw [if_neg (fun q => by have q1 := q.1; have q2 := q.2; omega)]
    rw [hR]
    exact ⟨s, rfl, fun c _ => rfl, hJ⟩
  · refine wi_i1 hc rfl rfl ?_
    refine wi_zlt hc rfl hp (fun h2_ => ?_) (fun h2_ => ?_)
    · refine wi_ic hc rfl ?_
      refine wi_ri hc rfl (by rw [cm_112]; rfl) ?_
      have hR : rankP A T S pl = -1 := by unfold rankP; rw [if_neg (fun q => by have q1 := q.1; have q2 := q.2; omega)]
      rw [hR]
      exact ⟨s, rfl, fun c _ => rfl, hJ⟩
    · have hpr := popI_r S
      refine wi_i1 hc rfl rfl ?_
      refine wi_i1 hc rfl rfl ?_
      refine wp_cs (As := [.int (iI S)]) (r := [.int (iI pl)]) hc rfl (by rw [cm_288]; rfl) rfl (Nat.le_of_ble_eq_true rfl) (ev_mono (sp_288 (d := 0) (by omega) (by omega)) (by omega)) ?_
      show mm_wp _ _ (17, [some (.ref 0), some (.int (iI S)), some (.int (iI pl))], [.int (iI (popI S)), .int (iI pl)], MX L t s l) _
      refine wi_clt hc rfl hp ⟨by omega, by omega⟩ (fun h3_ => ?_) (fun h3_ => ?_)
      · refine wi_a1 hc rfl rfl ?_
        refine wi_gr (w := 590) hc rfl rfl (by decide) (Nat.le_of_ble_eq_true rfl) rfl ?_
        refine wi_a1 hc rfl rfl ?_
        refine wi_gr (w := 1) hc rfl rfl (by decide) (Nat.le_of_ble_eq_true rfl) rfl ?_
        refine wi_a1 hc rfl rfl ?_
        refine wi_gr (w := 577) hc rfl rfl (by decide) (Nat.le_of_ble_eq_true rfl) rfl ?_
        refine wi_i1 hc rfl rfl ?_
        have hs9 := isS_1 g0 (by assumption)
        have hS0 := hs9.1.1
        have hS1 := hs9.1.2
        have hm7 := hs9.2
        have hmp := (mS_7 hS0 hS1 (by omega)).2
        obtain ⟨s1_, hE1_, hF1_, hJ1_, hC1_⟩ := sp_16 (d := 0) (L := L) (t := t) (l := l) hJ hK (set := S) (by omega) (by omega)
        refine wp_cv (b := 590) (As := [.ref 1, .ref 577, .int (iI S)]) (r := []) hc rfl (by rw [cm_16]; rfl) rfl (Nat.le_of_ble_eq_true rfl) (show 590 < 621 by decide) (by rw [cm_16]; rfl) (ev_mono hE1_ (by omega)) ?_
        show mm_wp _ _ (38, [some (.ref 0), some (.int (iI S)), some (.int (iI pl))], [], MX L t s1_ l) _
        refine wi_a1 hc rfl rfl ?_
        refine wi_gr (w := 594) hc rfl rfl (by decide) (Nat.le_of_ble_eq_true rfl) rfl ?_
        refine wi_a1 hc rfl rfl ?_
        refine wi_gr (w := 590) hc rfl rfl (by decide) (Nat.le_of_ble_eq_true rfl) rfl ?_
        refine wi_i1 hc rfl rfl ?_
        refine wi_i1 hc rfl rfl ?_
        refine wp_cv (b := 594) (As := [.ref 590, .int (iI S), .int (iI pl)]) (r := []) hc rfl (by rw [cm_41]; rfl) rfl (Nat.le_of_ble_eq_true rfl) (show 594 < 621 by decide) (by rw [cm_41]; rfl) (ev_mono (sp_41 (d := 0) hS0 hS1 rfl hm7 hC1_ (cF_01 A T) (pl := pl) (by omega) (by omega)) (by omega)) ?_
        show mm_wp _ _ (51, [some (.ref 0), some (.int (iI S)), some (.int (iI pl))], [.int (iI (rnkA (cF A T) S (mS S) pl))], MX L t s1_ l) _
        refine wi_ri hc rfl (by rw [cm_112]; rfl) ?_
        have hR : rankP A T S pl = rnkA (cF A T) S (mS S) pl := by
          unfold rankP
          rw [if_pos ⟨by assumption, by omega, by omega⟩]
        rw [hR]
        exact ⟨s1_, rfl, fun c hc9_ => hF1_ c (by omega), hJ1_⟩
      · refine wi_ic hc rfl ?_
        refine wi_ri hc rfl (by rw [cm_112]; rfl) ?_
        have hR : rankP A T S pl = -1 := by unfold rankP; rw [if_neg (fun q => by have q1 := q.1; have q2 := q.2; omega)]
        rw [hR]
        exact ⟨s, rfl, fun c _ => rfl, hJ⟩
theorem sp_265 {d L t : Nat} {s l : Nat → Int → Int} {c : Int → Int → Int} {S N : Int} {m : Nat} (m7 : m < 7) (hO : OM m s) (hE : EM S m s) (hC : CHm s c N) (h01 : ∀ x y, c x y = 0 ∨ c x y = 1) (hel : ∀ e, 0 ≤ e → e < (m : Int) → 0 ≤ elF S e ∧ elF S e < N) (N1 : N ≤ 10) {n : Int} (n0 : 0 ≤ n) (n1 : n < fct m) : mm_Ev mm_ct mm_CM (d + 1) 265 [.ref 598, .int (iI n)] (MX L t s l) (some (.int (iI (pB (isRk (cE c S) m (dgI m n))))), MX L t s l) := by
  have hc : (mm_CM 265).2.2.2.2.2.2.2 = mm_cf cd_265 := by rw [cm_265]; rfl
  refine ev_of (mx := 6) (by rw [cm_265]; decide) (by rw [cm_265]; rfl) (by show 2 ≤ _; decide) ?_
  show mm_wp _ _ (0, [some (.ref 598), some (.int (iI n)), none, none, none, none], [], MX L t s l) (fun r => r = (some (.int (iI (pB (isRk (cE c S) m (dgI m n))))), MX L t s l))
  have hfm := fct_r m
  have hdg := dg_ok m7 n0 n1
  refine wi_ic hc rfl ?_
  refine wi_is1 (L' := [some (.ref 598), some (.int (iI n)), some (.int (iI 0)), none, none, none]) hc rfl (Nat.le_of_ble_eq_true rfl) rfl ?_
  have loop2_ : ∀ p : Int, p ≤ (m : Int) → 0 ≤ p → ∀ (o3 o4 o5 : Option Value), (∀ a b, 0 ≤ a → a < p → a < b → b < (m : Int) → cE c S (dgI m n a) (dgI m n b) = 0 ∧ cE c S (dgI m n b) (dgI m n a) = 1) → mm_wp (mm_Ev mm_ct mm_CM d) 265 (2, [some (.ref 598), some (.int (iI n)), some (.int (iI p)), o3, o4, o5], [], MX L t s l) (fun r => r = (some (.int (iI (pB (isRk (cE c S) m (dgI m n))))), MX L t s l)) := by
    refine up_ind ?_
    intro p hp9 ihp p0 o3 o4 o5 hpa
    refine wi_i1 hc rfl rfl ?_
    refine wi_a1 hc rfl rfl ?_
    refine wi_gfv (kz := 34) rfl hc rfl rfl (by decide) (Nat.le_of_ble_eq_true rfl) rfl (v := (m : Int)) (hO.1) ?_
    refine wi_cge hc rfl ⟨by omega, by omega⟩ ⟨by omega, by omega⟩ (fun h1_ => ?_) (fun h1_ => ?_)
    · refine wi_ic hc rfl ?_
      refine wi_r1 hc rfl (by rw [cm_265]; rfl) ?_
      rw [pB_t (p := isRk (cE c S) m (dgI m n)) (fun a b a0 ab b1 => hpa a b a0 (by omega) ab b1)]
    · refine wi_i1 hc rfl rfl ?_
      refine wi_ic hc rfl ?_
      refine wi_add hc rfl ?_
      refine wi_is1 (L' := [some (.ref 598), some (.int (iI n)), some (.int (iI p)), some (.int (iI (p + 1))), o4, o5]) hc rfl (Nat.le_of_ble_eq_true rfl) rfl ?_
      have loop14_ : ∀ q : Int, q ≤ (m : Int) → p + 1 ≤ q → ∀ (o4 o5 : Option Value), (∀ b, p < b → b < q → cE c S (dgI m n p) (dgI m n b) = 0 ∧ cE c S (dgI m n b) (dgI m n p) = 1) → mm_wp (mm_Ev mm_ct mm_CM d) 265 (14, [some (.ref 598), some (.int (iI n)), some (.int (iI p)), some (.int (iI q)), o4, o5], [], MX L t s l) (fun r => r = (some (.int (iI (pB (isRk (cE c S) m (dgI m n))))), MX L t s l)) := by
        refine up_ind ?_
        intro q hq8 ihq q0 o4 o5 hq9
        refine wi_i1 hc rfl rfl ?_
        refine wi_a1 hc rfl rfl ?_
        refine wi_gfv (kz := 34) rfl hc rfl rfl (by decide) (Nat.le_of_ble_eq_true rfl) rfl (v := (m : Int)) (hO.1) ?_
        refine wi_cge hc rfl ⟨by omega, by omega⟩ ⟨by omega, by omega⟩ (fun h2_ => ?_) (fun h2_ => ?_)
        · refine wi_inc (L' := [some (.ref 598), some (.int (iI n)), some (.int (iI (p + 1))), some (.int (iI q)), o4, o5]) hc rfl rfl rfl ?_
          refine wi_go hc rfl ?_
          refine ihp (by omega) (by omega) _ _ _ (fun a b a0 a1 ab b1 => ?_)
          by_cases z9 : a = p
          · rw [z9]; exact hq9 b (by omega) (by omega)
          · exact hpa a b a0 (by omega) ab b1
        · have d1 := hdg.1 p (by omega) (by omega)
          have d2 := hdg.1 q (by omega) (by omega)
          have e1 := hel _ d1.1 d1.2
          have e2 := hel _ d2.1 d2.2
          have f1 := h01 (elF S (dgI m n p)) (elF S (dgI m n q))
          have f2 := h01 (elF S (dgI m n q)) (elF S (dgI m n p))
          refine wi_a1 hc rfl rfl ?_
          refine wi_gr (w := 613) hc rfl rfl (by decide) (Nat.le_of_ble_eq_true rfl) rfl ?_
          refine wi_a1 hc rfl rfl ?_
          refine wi_gr (w := 610) hc rfl rfl (by decide) (Nat.le_of_ble_eq_true rfl) rfl ?_
          refine wi_bi hc rfl rfl ?_
          refine wi_i1 hc rfl rfl ?_
          refine wi_mul hc rfl ?_
          refine wi_i1 hc rfl rfl ?_
          refine wi_add hc rfl ?_
          refine wi_ildv (N := 4320) hc rfl rfl (by decide) (by decide) (by omega) (by omega) (v := dgI m n p) (hO.2.2 _ _ (by omega) (by omega) (by omega) (by omega)) ?_
          refine wi_ildv (N := 10) hc rfl rfl (by decide) (by decide) (by omega) (by omega) (v := elF S (dgI m n p)) (hE _ (by omega) (by omega)) ?_
          refine wi_is2 (L' := [some (.ref 598), some (.int (iI n)), some (.int (iI p)), some (.int (iI q)), some (.int (iI (elF S (dgI m n p)))), o5]) hc rfl (Nat.le_of_ble_eq_true rfl) rfl ?_
          refine wi_a1 hc rfl rfl ?_
          refine wi_gr (w := 613) hc rfl rfl (by decide) (Nat.le_of_ble_eq_true rfl) rfl ?_
          refine wi_a1 hc rfl rfl ?_
          refine wi_gr (w := 610) hc rfl rfl (by decide) (Nat.le_of_ble_eq_true rfl) rfl ?_
          refine wi_bi hc rfl rfl ?_
          refine wi_i1 hc rfl rfl ?_
          refine wi_mul hc rfl ?_
          refine wi_i1 hc rfl rfl ?_
          refine wi_add hc rfl ?_
          refine wi_ildv (N := 4320) hc rfl rfl (by decide) (by decide) (by omega) (by omega) (v := dgI m n q) (hO.2.2 _ _ (by omega) (by omega) (by omega) (by omega)) ?_
          refine wi_ildv (N := 10) hc rfl rfl (by decide) (by decide) (by omega) (by omega) (v := elF S (dgI m n q)) (hE _ (by omega) (by omega)) ?_
          refine wi_is2 (L' := [some (.ref 598), some (.int (iI n)), some (.int (iI p)), some (.int (iI q)), some (.int (iI (elF S (dgI m n p)))), some (.int (iI (elF S (dgI m n q))))]) hc rfl (Nat.le_of_ble_eq_true rfl) rfl ?_
          refine wi_a1 hc rfl rfl ?_
          refine wi_gr (w := 607) hc rfl rfl (by decide) (Nat.le_of_ble_eq_true rfl) rfl ?_
          refine wi_bi hc rfl rfl ?_
          refine wi_i2 hc rfl rfl ?_
          refine wi_mul hc rfl ?_
          refine wi_i2 hc rfl rfl ?_
          refine wi_add hc rfl ?_
          refine wi_bldv (N := 100) hc rfl rfl (by decide) (by decide) (by omega) (by omega) (v := c (elF S (dgI m n p)) (elF S (dgI m n q))) (hC _ _ (by omega) (by omega) (by omega) (by omega)) ?_
          refine wi_zne hc rfl ⟨by omega, by omega⟩ (fun h3_ => ?_) (fun h3_ => ?_)
          · refine wi_ic hc rfl ?_
            refine wi_r0 hc rfl (by rw [cm_265]; rfl) ?_
            rw [pB_f (p := isRk (cE c S) m (dgI m n)) (fun z9 => by have y := z9 p q p0 (by omega) (by omega); have y1 : c (elF S (dgI m n p)) (elF S (dgI m n q)) = 0 := y.1; have y2 : c (elF S (dgI m n q)) (elF S (dgI m n p)) = 1 := y.2; omega)]
          · refine wi_a1 hc rfl rfl ?_
            refine wi_gr (w := 607) hc rfl rfl (by decide) (Nat.le_of_ble_eq_true rfl) rfl ?_
            refine wi_bi hc rfl rfl ?_
            refine wi_i2 hc rfl rfl ?_
            refine wi_mul hc rfl ?_
            refine wi_i2 hc rfl rfl ?_
            refine wi_add hc rfl ?_
            refine wi_bldv (N := 100) hc rfl rfl (by decide) (by decide) (by omega) (by omega) (v := c (elF S (dgI m n q)) (elF S (dgI m n p))) (hC _ _ (by omega) (by omega) (by omega) (by omega)) ?_
            refine wi_zne hc rfl ⟨by omega, by omega⟩ (fun h4_ => ?_) (fun h4_ => ?_)
            · refine wi_inc (L' := [some (.ref 598), some (.int (iI n)), some (.int (iI p)), some (.int (iI (q + 1))), some (.int (iI (elF S (dgI m n p)))), some (.int (iI (elF S (dgI m n q))))]) hc rfl rfl rfl ?_
              refine wi_go hc rfl ?_
              refine ihq (by omega) (by omega) _ _ (fun b b0 b1 => ?_)
              by_cases z9 : b = q
              · rw [z9]; exact ⟨show c (elF S (dgI m n p)) (elF S (dgI m n q)) = 0 by omega, show c (elF S (dgI m n q)) (elF S (dgI m n p)) = 1 by omega⟩
              · exact hq9 b b0 (by omega)
            · refine wi_ic hc rfl ?_
              refine wi_r0 hc rfl (by rw [cm_265]; rfl) ?_
              rw [pB_f (p := isRk (cE c S) m (dgI m n)) (fun z9 => by have y := z9 p q p0 (by omega) (by omega); have y1 : c (elF S (dgI m n p)) (elF S (dgI m n q)) = 0 := y.1; have y2 : c (elF S (dgI m n q)) (elF S (dgI m n p)) = 1 := y.2; omega)]
      exact loop14_ (p + 1) (by omega) (by omega) _ _ (fun b b0 b1 => by omega)
  exact loop2_ 0 (by omega) (by omega) _ _ _ (fun a b a0 a1 => by omega)
theorem sp_266 {d L t : Nat} {s l : Nat → Int → Int} {A T : Int → Int} (hJ : JM s A T) (hK : KA A T) {S pl : Int} (hS : rI S) (hp : rI pl) : ∃ s1 l1, mm_Ev mm_ct mm_CM (d + 9) 266 [.ref 598, .int (iI S), .int (iI pl)] (MX L t s l) (some (.int (iI (rankP A T S pl))), MX L t s1 l1) ∧ (∀ c, c ≠ 598 ∧ c ≠ 604 ∧ c ≠ 606 ∧ c ≠ 607 ∧ c ≠ 610 ∧ c ≠ 611 ∧ c ≠ 612 ∧ c ≠ 613 ∧ c ≠ 614 → s1 c = s c) ∧ (∀ c, c ≠ 605 → l1 c = l c) ∧ (∀ k, k ≠ 34 → k ≠ 35 → s1 598 k = s 598 k) ∧ JM s1 A T := by
  have hc : (mm_CM 266).2.2.2.2.2.2.2 = mm_cf cd_266 := by rw [cm_266]; rfl
  refine ev_xsl ?_
  refine ev_to (mx := 4) (by rw [cm_266]; decide) (by rw [cm_266]; rfl) (by show 3 ≤ _; decide) ?_
  show mm_wp _ _ (0, [some (.ref 598), some (.int (iI S)), some (.int (iI pl)), none], [], MX L t s l) (fun res => ∃ s1 l1, res = (some (.int (iI (rankP A T S pl))), MX L t s1 l1) ∧ (∀ c, c ≠ 598 ∧ c ≠ 604 ∧ c ≠ 606 ∧ c ≠ 607 ∧ c ≠ 610 ∧ c ≠ 611 ∧ c ≠ 612 ∧ c ≠ 613 ∧ c ≠ 614 → s1 c = s c) ∧ (∀ c, c ≠ 605 → l1 c = l c) ∧ (∀ k, k ≠ 34 → k ≠ 35 → s1 598 k = s 598 k) ∧ JM s1 A T)
  have hV := hK.1
  have hB := hK.2.1
  have g0 := hB.1
  have hpw := pw_10 g0.1 g0.2
  refine wi_a1 hc rfl rfl ?_
  refine wi_i1 hc rfl rfl ?_
  refine wp_cv (b := 598) (As := [.int (iI S)]) (r := []) hc rfl (by rw [cm_256]; rfl) rfl (Nat.le_of_ble_eq_true rfl) (show 598 < 621 by decide) (by rw [cm_256]; rfl) (ev_mono (sp_256 (d := 0) hJ hK (m := S) hS) (by omega)) ?_
  show mm_wp _ _ (5, [some (.ref 598), some (.int (iI S)), some (.int (iI pl)), none], [.int (iI (bI ((0 < S ∧ S < 2 ^ (A 0).toNat) ∧ popI S ≤ 6)))], MX L t s l) _
  refine wi_beq hc rfl (fun h1_ => ?_) (fun h1_ => ?_)
  · refine wi_ic hc rfl ?_
    refine wi_ri hc rfl (by rw [cm_266]; rfl) ?_
    have hR : rankP A T S pl = -1 := by unfold rankP; rw [if_neg (fun q => by have q1 := q.1; have q2 := q.2; omega)]
    rw [hR]
    exact ⟨s, l, rfl, fun c _ => rfl, fun c _ => rfl, fun k _ _ => rfl, hJ⟩
  · have hpr := popI_r S
    refine wi_i1 hc rfl rfl ?_
    refine wi_ic hc rfl ?_
    refine wi_i1 hc rfl rfl ?_
    refine wp_cs (As := [.int (iI S)]) (r := [.int (iI 0), .int (iI pl)]) hc rfl (by rw [cm_150]; rfl) rfl (Nat.le_of_ble_eq_true rfl) (ev_mono (sp_150 (d := 0) hS) (by omega)) ?_
    show mm_wp _ _ (14, [some (.ref 598), some (.int (iI S)), some (.int (iI pl)), none], [.int (iI (popI S)), .int (iI 0), .int (iI pl)], MX L t s l) _
    refine wi_ic hc rfl ?_
    refine wi_sub hc rfl ?_
    refine wp_cs (As := [.int (iI pl), .int (iI 0), .int (iI ((popI S) - 1))]) (r := []) hc rfl (by rw [cm_148]; rfl) rfl (Nat.le_of_ble_eq_true rfl) (ev_mono (sp_148 (d := 0) hp ⟨by decide, by decide⟩ ⟨by omega, by omega⟩) (by omega)) ?_
    show mm_wp _ _ (19, [some (.ref 598), some (.int (iI S)), some (.int (iI pl)), none], [.int (iI (bI (0 ≤ pl ∧ pl ≤ (popI S) - 1)))], MX L t s l) _
    refine wi_bne hc rfl (fun h2_ => ?_) (fun h2_ => ?_)
    · refine wi_a1 hc rfl rfl ?_
      refine wi_i1 hc rfl rfl ?_
      have hs9 := isS_1 g0 (by first | assumption | omega)
      have hS0 := hs9.1.1
      have hm7 := hs9.2
      have hfm := fct_r (mS S)
      obtain ⟨s1_, l1_, hE1_, hF1_, hG1_, hk1_, hJ1_, hO9, hM9, hL9, hC9⟩ := sp_257 (d := 0) (L := L) (t := t) (l := l) hJ hK (S := S) hS0 (by omega) hm7
      refine wp_cv (b := 598) (As := [.int (iI S)]) (r := []) hc rfl (by rw [cm_257]; rfl) rfl (Nat.le_of_ble_eq_true rfl) (show 598 < 621 by decide) (by rw [cm_257]; rfl) (ev_mono hE1_ (by omega)) ?_
      show mm_wp _ _ (29, [some (.ref 598), some (.int (iI S)), some (.int (iI pl)), none], [], MX L t s1_ l1_) _
      have hmp := (mS_7 hS0 hs9.1.2 (by omega)).2
      refine wi_ic hc rfl ?_
      refine wi_is1 (L' := [some (.ref 598), some (.int (iI S)), some (.int (iI pl)), some (.int (iI 0))]) hc rfl (Nat.le_of_ble_eq_true rfl) rfl ?_
      have loop31_ : ∀ n : Int, n ≤ ((fct (mS S) : Nat) : Int) → 0 ≤ n → (∀ n9, 0 ≤ n9 → n9 < n → ¬ isRk (cE (cF A T) S) (mS S) (dgI (mS S) n9)) → mm_wp (mm_Ev mm_ct mm_CM (d + 8)) 266 (31, [some (.ref 598), some (.int (iI S)), some (.int (iI pl)), some (.int (iI n))], [], MX L t s1_ l1_) (fun res => ∃ s1 l1, res = (some (.int (iI (rankP A T S pl))), MX L t s1 l1) ∧ (∀ c, c ≠ 598 ∧ c ≠ 604 ∧ c ≠ 606 ∧ c ≠ 607 ∧ c ≠ 610 ∧ c ≠ 611 ∧ c ≠ 612 ∧ c ≠ 613 ∧ c ≠ 614 → s1 c = s c) ∧ (∀ c, c ≠ 605 → l1 c = l c) ∧ (∀ k, k ≠ 34 → k ≠ 35 → s1 598 k = s 598 k) ∧ JM s1 A T) := by
        refine up_ind ?_
        intro n hn9 ihn n0 hno
        refine wi_i1 hc rfl rfl ?_
        refine wi_a1 hc rfl rfl ?_
        refine wi_gfv (kz := 35) rfl hc rfl rfl (by decide) (Nat.le_of_ble_eq_true rfl) rfl (v := ((fct (mS S) : Nat) : Int)) (hO9.2.1) ?_
        refine wi_cge hc rfl ⟨by omega, by omega⟩ ⟨by omega, by omega⟩ (fun h3_ => ?_) (fun h3_ => ?_)
        · refine wi_ic hc rfl ?_
          refine wi_ri hc rfl (by rw [cm_266]; rfl) ?_
          have hR : rankP A T S pl = (-1) := by
            unfold rankP
            rw [if_pos ⟨by assumption, by omega, by omega⟩]
            exact rnkA_no (fun n9 a b q => hno n9 a (by omega) q)
          rw [hR]
          exact ⟨s1_, l1_, rfl, fun c hc9_ => hF1_ c (by omega), fun c hc9_ => hG1_ c (by omega), hk1_, hJ1_⟩
        · refine wi_a1 hc rfl rfl ?_
          refine wi_i1 hc rfl rfl ?_
          have hel : ∀ e, 0 ≤ e → e < ((mS S : Nat) : Int) → 0 ≤ elF S e ∧ elF S e < A 0 := fun e e0 e1 => by
            have h1 := elF_r (S := S) (m := mS S) rfl e0 e1
            have h2 := elF_bit (S := S) (m := mS S) hS0 rfl e0 e1
            have := set_bit (n := (A 0).toNat) hS0 (by omega) h2
            omega
          have hpb := pB_r (isRk (cE (cF A T) S) (mS S) (dgI (mS S) n))
          refine wp_cv (b := 598) (As := [.int (iI n)]) (r := []) hc rfl (by rw [cm_265]; rfl) rfl (Nat.le_of_ble_eq_true rfl) (show 598 < 621 by decide) (by rw [cm_265]; rfl) (ev_mono (sp_265 (d := 0) hm7 hO9 hM9 hC9 (cF_01 A T) hel (by omega) (n := n) (by omega) (by omega)) (by omega)) ?_
          obtain ⟨v9, hv9⟩ : ∃ q, q = pB (isRk (cE (cF A T) S) (mS S) (dgI (mS S) n)) := ⟨_, rfl⟩
          rw [← hv9] at hpb ⊢
          have hv01 : v9 = 0 ∨ v9 = 1 := hpb.elim (fun q => Or.inr q.1) (fun q => Or.inl q.1)
          show mm_wp _ _ (44, [some (.ref 598), some (.int (iI S)), some (.int (iI pl)), some (.int (iI n))], [.int (iI v9)], MX L t s1_ l1_) _
          refine wi_zeq hc rfl ⟨by omega, by omega⟩ (fun h4_ => ?_) (fun h4_ => ?_)
          · refine wi_inc (L' := [some (.ref 598), some (.int (iI S)), some (.int (iI pl)), some (.int (iI (n + 1)))]) hc rfl rfl rfl ?_
            refine wi_go hc rfl ?_
            refine ihn (by omega) (by omega) (fun n9 a b => ?_)
            by_cases z9 : n9 = n
            · rw [z9]; exact hpb.elim (fun q => absurd q.1 (by omega)) (fun q => q.2)
            · exact hno n9 a (by omega)
          · have hdg := dg_ok hm7 n0 (by omega : n < fct (mS S))
            have hd1 := hdg.1 pl (by omega) (by omega)
            refine wi_a1 hc rfl rfl ?_
            refine wi_gr (w := 613) hc rfl rfl (by decide) (Nat.le_of_ble_eq_true rfl) rfl ?_
            refine wi_a1 hc rfl rfl ?_
            refine wi_gr (w := 610) hc rfl rfl (by decide) (Nat.le_of_ble_eq_true rfl) rfl ?_
            refine wi_bi hc rfl rfl ?_
            refine wi_i1 hc rfl rfl ?_
            refine wi_mul hc rfl ?_
            refine wi_i1 hc rfl rfl ?_
            refine wi_add hc rfl ?_
            refine wi_ildv (N := 4320) hc rfl rfl (by decide) (by decide) (by omega) (by omega) (v := dgI (mS S) n pl) (hO9.2.2 _ _ (by omega) (by omega) (by omega) (by omega)) ?_
            refine wi_ildv (N := 10) hc rfl rfl (by decide) (by decide) (by omega) (by omega) (v := elF S (dgI (mS S) n pl)) (hM9 _ (by omega) (by omega)) ?_
            refine wi_ri hc rfl (by rw [cm_266]; rfl) ?_
            have hR : rankP A T S pl = elF S (dgI (mS S) n pl) := by
              unfold rankP
              rw [if_pos ⟨by assumption, by omega, by omega⟩]
              have hok : isRk (cE (cF A T) S) (mS S) (dgI (mS S) n) := hpb.elim (fun q => q.2) (fun q => absurd q.1 (by omega))
              exact rnkA_of (cF_01 A T) hm7 (by omega) (by omega) ⟨n, ⟨n0, by omega⟩, hok, rfl⟩
            rw [hR]
            exact ⟨s1_, l1_, rfl, fun c hc9_ => hF1_ c (by omega), fun c hc9_ => hG1_ c (by omega), hk1_, hJ1_⟩
      exact loop31_ 0 (by omega) (by omega) (fun n9 a b => by omega)
    · refine wi_ic hc rfl ?_
      refine wi_ri hc rfl (by rw [cm_266]; rfl) ?_
      have hR : rankP A T S pl = -1 := by unfold rankP; rw [if_neg (fun q => by have q1 := q.1; have q2 := q.2; omega)]
      rw [hR]
      exact ⟨s, l, rfl, fun c _ => rfl, fun c _ => rfl, fun k _ _ => rfl, hJ⟩
