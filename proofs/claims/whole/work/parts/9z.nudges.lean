/-! FEWEST NUDGES on both sides. -/
def nudP (A : Int → Int) (x b p o op : Int) : Int :=
  if ((0 ≤ x ∧ x ≤ 2) ∧ A (13 + x) ≤ 6) ∧ ((0 ≤ b ∧ b < A 0) ∧ A (46 + 6 * b + 5) = x) ∧ (0 ≤ p ∧ p < A (13 + x)) then
    (if o = -1 then absI (p - placeP A b)
      else if (((0 ≤ o ∧ o < A 0) ∧ A (46 + 6 * o + 5) = x) ∧ (0 ≤ op ∧ op < A (13 + x))) ∧ o ≠ b ∧ op ≠ p then hD o p op (placeP A b) (placeP A o)
      else -1)
  else -1
def nhD (m : Nat) (eb eo o P OP k : Int) : Int := hD o P OP (poI m eb k) (poI m eo k)
section HN
variable {m : Nat} {eb eo o P OP k p : Int}
theorem nhD_ne (hm : m < 7) (k0 : 0 ≤ k) (k1 : k < fct m) (e0 : 0 ≤ eb) (e1 : eb < m) (g0 : 0 ≤ eo) (g1 : eo < m) (hne : o ≠ -1 → eo ≠ eb) (hF : o = -1 ∨ OP ≠ P) : o ≠ -1 → poI m eb k ≠ poI m eo k ∧ P ≠ OP := fun z => ⟨poI_ne hm k0 k1 e0 e1 g0 g1 (fun q => hne z q.symm), by omega⟩
theorem nhD_step (hm : m < 7) (k0 : 0 ≤ k) (k1 : k < fct m) (hp : 0 ≤ p ∧ p + 1 < (m : Int)) (e0 : 0 ≤ eb) (e1 : eb < m) (g0 : 0 ≤ eo) (g1 : eo < m) (hne : o ≠ -1 → eo ≠ eb) (hF : o = -1 ∨ OP ≠ P) : nhD m eb eo o P OP k - 1 ≤ nhD m eb eo o P OP (ndO m k p) := by
  unfold nhD
  rw [poI_nd hm k0 k1 hp e0 e1, poI_nd hm k0 k1 hp g0 g1]
  exact hD_step (nhD_ne hm k0 k1 e0 e1 g0 g1 hne hF)
theorem nhD_down (hm : m < 7) (k0 : 0 ≤ k) (k1 : k < fct m) (e0 : 0 ≤ eb) (e1 : eb < m) (g0 : 0 ≤ eo) (g1 : eo < m) (hne : o ≠ -1 → eo ≠ eb) (hF : o = -1 ∨ OP ≠ P) (P0 : 0 ≤ P) (P1 : P < m) (hO : o ≠ -1 → 0 ≤ OP ∧ OP < m) (hh : nhD m eb eo o P OP k ≠ 0) : ∃ p, 0 ≤ p ∧ p + 1 < (m : Int) ∧ nhD m eb eo o P OP (ndO m k p) = nhD m eb eo o P OP k - 1 := by
  have a := (poI_ok hm k0 k1 e0 e1).1
  have b := (poI_ok hm k0 k1 g0 g1).1
  obtain ⟨p, p0, p1, e⟩ := hD_down (nhD_ne hm k0 k1 e0 e1 g0 g1 hne hF) a.1 a.2 P0 P1 (fun z => ⟨b, hO z⟩) hh
  refine ⟨p, p0, p1, ?_⟩
  unfold nhD
  rw [poI_nd hm k0 k1 ⟨p0, p1⟩ e0 e1, poI_nd hm k0 k1 ⟨p0, p1⟩ g0 g1]
  exact e
theorem nhD_0 (hm : m < 7) (k0 : 0 ≤ k) (k1 : k < fct m) (e0 : 0 ≤ eb) (e1 : eb < m) (g0 : 0 ≤ eo) (g1 : eo < m) (hne : o ≠ -1 → eo ≠ eb) (hF : o = -1 ∨ OP ≠ P) : nhD m eb eo o P OP k = 0 ↔ poI m eb k = P ∧ (o = -1 ∨ poI m eo k = OP) := hD_0 (nhD_ne hm k0 k1 e0 e1 g0 g1 hne hF)
end HN
theorem poI_sh {A : Int → Int} (hB : okB A) {x b : Int} (x0 : 0 ≤ x) (x1 : x < 3) (h6 : A (13 + x) ≤ 6) {eb : Int} (e0 : 0 ≤ eb) (e1 : eb < A (13 + x)) (hb : elF (sSx A x) eb = b) (b0 : 0 ≤ b) (b1 : b < A 0) (hbx : A (46 + 6 * b + 5) = x) : poI (mS (sSx A x)) eb (sKx A x) = placeP A b := by
  have gm := hB.2.1 x x0 x1
  have h := sx_ok hB x0 x1 h6
  have hk := h.2.2.1
  rw [h.2.1]
  have hp := poI_ok (m := (A (13 + x)).toNat) (by omega) hk.1 hk.2 e0 (by omega)
  have hs := (h.2.2.2 _ hp.1.1 (by omega)).2
  rw [hp.2, hb] at hs
  have hpl := placeP_ok hB b0 b1 (by omega)
  rw [hbx] at hpl
  exact (shF_inj hB x0 x1).eq hp.1.1 (by omega) hpl.1 hpl.2.1 (hs.symm.trans hpl.2.2.symm)
theorem BFs_tr {h : Int → Int} {h0 M : Int} {F : Prop} {q t : Int → Int} {i e v : Int} (H : BFs h h0 M F q t i e) (v0 : 0 ≤ v) (v1 : v < M) : -1 ≤ t v ∧ t v ≤ e := by
  rcases H.2.2.2.2.2.1 v v0 v1 with z | ⟨j, a, b, z⟩
  · have := H.1; omega
  · have := (H.2.1 j a b).2
    rw [z] at this
    omega
theorem BFs_lt {h : Int → Int} {h0 : Int} {N : Nat} {F : Prop} {q t : Int → Int} {i e v : Int} (H : BFs h h0 N F q t i e) (hi : i < e) (v0 : 0 ≤ v) (v1 : v < N) (ht : t v < 0) : e < N := by
  have := BFs_le (BFs_push (h := fun _ => 0) (h0 := 0) (F := False) (q' := fun j => if j = e then v else q j) (t' := fun u => if u = v then t (q i) + 1 else t u) (⟨H.1, H.2.1, H.2.2.1, H.2.2.2.1, H.2.2.2.2.1, H.2.2.2.2.2.1, fun z => z.elim⟩ : BFs (fun _ => 0) 0 N False q t i e) hi v0 v1 ht (fun z => z.elim) (fun _ => rfl) (fun _ => rfl))
  omega
theorem sp_113 {d L t : Nat} {s l : Nat → Int → Int} {A T : Int → Int} (hJ : JC s A T) (hK : KA A T) {x b p o op : Int} (hx : rI x) (hb : rI b) (hp : rI p) (ho : rI o) (hop : rI op) : mm_Ev mm_ct mm_CM (d + 3) 113 [.ref 0, .int (iI x), .int (iI b), .int (iI p), .int (iI o), .int (iI op)] (MX L t s l) (some (.int (iI (nudP A x b p o op))), MX L t s l) := by
  have hc : (mm_CM 113).2.2.2.2.2.2.2 = mm_cf cd_113 := by rw [cm_113]; rfl
  refine ev_of (mx := 10) (by rw [cm_113]; decide) (by rw [cm_113]; rfl) (by show 6 ≤ _; decide) ?_
  show mm_wp _ _ (0, [some (.ref 0), some (.int (iI x)), some (.int (iI b)), some (.int (iI p)), some (.int (iI o)), some (.int (iI op)), none, none, none, none], [], MX L t s l) (fun r => r = (some (.int (iI (nudP A x b p o op))), MX L t s l))
  have hV := hK.1
  have hB := hK.2.1
  have g0 := hB.1
  have h1 := hK.2.2.1.1
  refine wi_i1 hc rfl rfl ?_
  refine wp_cs (As := [.int (iI x)]) (r := []) hc rfl (by rw [cm_125]; rfl) rfl (Nat.le_of_ble_eq_true rfl) (ev_mono (sp_125 (d := 0) hx) (by omega)) ?_
  show mm_wp _ _ (4, [some (.ref 0), some (.int (iI x)), some (.int (iI b)), some (.int (iI p)), some (.int (iI o)), some (.int (iI op)), none, none, none, none], [.int (iI (bI (0 ≤ x ∧ x ≤ 2)))], MX L t s l) _
  refine wi_beq hc rfl (fun h1_ => ?_) (fun h1_ => ?_)
  · refine wi_ic hc rfl ?_
    refine wi_ri hc rfl (by rw [cm_113]; rfl) ?_
    have hR : nudP A x b p o op = (-1) := by
      unfold nudP
      (repeat' split) <;> omega
    rw [hR]
  · have gm := hB.2.1 x (by omega) (by omega)
    refine wi_a1 hc rfl rfl ?_
    refine wi_gr (w := 1) hc rfl rfl (by decide) (Nat.le_of_ble_eq_true rfl) rfl ?_
    refine wi_gr (w := 2) hc rfl rfl (by decide) (Nat.le_of_ble_eq_true rfl) rfl ?_
    refine wi_gr (w := 7) hc rfl rfl (by decide) (Nat.le_of_ble_eq_true rfl) rfl ?_
    refine wi_i1 hc rfl rfl ?_
    refine wi_ildv (N := 3) hc rfl rfl (by decide) (by decide) (by omega) (by omega) (v := A (13 + x)) (lb_many hJ.1 (by omega) (by omega)) ?_
    refine wi_bi hc rfl rfl ?_
    refine wi_cle hc rfl ⟨by omega, by omega⟩ ⟨by decide, by decide⟩ (fun h2_ => ?_) (fun h2_ => ?_)
    · refine wi_a1 hc rfl rfl ?_
      refine wi_i1 hc rfl rfl ?_
      refine wi_i1 hc rfl rfl ?_
      refine wp_cv (b := 0) (As := [.int (iI x), .int (iI b)]) (r := []) hc rfl (by rw [cm_132]; rfl) rfl (Nat.le_of_ble_eq_true rfl) (show 0 < 621 by decide) (by rw [cm_132]; rfl) (ev_mono (sp_132 (d := 0) hJ hK (x := x) (b := b) (by omega) (by omega) hb) (by omega)) ?_
      show mm_wp _ _ (32, [some (.ref 0), some (.int (iI x)), some (.int (iI b)), some (.int (iI p)), some (.int (iI o)), some (.int (iI op)), none, none, none, none], [.int (iI (bI ((0 ≤ b ∧ b < A 0) ∧ A (46 + 6 * b + 5) = x)))], MX L t s l) _
      refine wi_beq hc rfl (fun h3_ => ?_) (fun h3_ => ?_)
      · refine wi_ic hc rfl ?_
        refine wi_ri hc rfl (by rw [cm_113]; rfl) ?_
        have hR : nudP A x b p o op = (-1) := by
          unfold nudP
          (repeat' split) <;> omega
        rw [hR]
      · refine wi_a1 hc rfl rfl ?_
        refine wi_i1 hc rfl rfl ?_
        refine wi_i1 hc rfl rfl ?_
        refine wp_cv (b := 0) (As := [.int (iI x), .int (iI p)]) (r := []) hc rfl (by rw [cm_131]; rfl) rfl (Nat.le_of_ble_eq_true rfl) (show 0 < 621 by decide) (by rw [cm_131]; rfl) (ev_mono (sp_131 (d := 0) hJ hK (x := x) (p := p) (by omega) (by omega) hp) (by omega)) ?_
        show mm_wp _ _ (41, [some (.ref 0), some (.int (iI x)), some (.int (iI b)), some (.int (iI p)), some (.int (iI o)), some (.int (iI op)), none, none, none, none], [.int (iI (bI (0 ≤ p ∧ p < A (13 + x))))], MX L t s l) _
        refine wi_bne hc rfl (fun h4_ => ?_) (fun h4_ => ?_)
        · refine wi_i1 hc rfl rfl ?_
          refine wi_a1 hc rfl rfl ?_
          refine wi_gr (w := 1) hc rfl rfl (by decide) (Nat.le_of_ble_eq_true rfl) rfl ?_
          refine wi_gr (w := 2) hc rfl rfl (by decide) (Nat.le_of_ble_eq_true rfl) rfl ?_
          refine wi_i1 hc rfl rfl ?_
          obtain ⟨p0_, p1_, p2_⟩ := placeP_ok hB (b := b) (by omega) (by omega) (by omega)
          have gx_ := hB.2.1 (A (46 + 6 * b + 5)) (by omega) (by omega)
          refine wp_cv (b := 2) (As := [.int (iI b)]) (r := [.int (iI p)]) hc rfl (by rw [cm_70]; rfl) rfl (Nat.le_of_ble_eq_true rfl) (show 2 < 621 by decide) (by rw [cm_70]; rfl) (ev_mono (sp_70 (d := 0) hJ.1 hK (b := b) (x := A (46 + 6 * b + 5)) (p := placeP A b) (by omega) (by omega) rfl (by omega) (by omega) p0_ p1_ p2_) (by omega)) ?_
          show mm_wp _ _ (58, [some (.ref 0), some (.int (iI x)), some (.int (iI b)), some (.int (iI p)), some (.int (iI o)), some (.int (iI op)), none, none, none, none], [.int (iI (placeP A b)), .int (iI p)], MX L t s l) _
          refine wi_sub hc rfl ?_
          refine wi_is2 (L' := [some (.ref 0), some (.int (iI x)), some (.int (iI b)), some (.int (iI p)), some (.int (iI o)), some (.int (iI op)), some (.int (iI (p - (placeP A b)))), none, none, none]) hc rfl (Nat.le_of_ble_eq_true rfl) rfl ?_
          refine wi_i2 hc rfl rfl ?_
          refine wi_ic hc rfl ?_
          refine wi_cne hc rfl ho ⟨by decide, by decide⟩ (fun h5_ => ?_) (fun h5_ => ?_)
          · refine wi_a1 hc rfl rfl ?_
            refine wi_i1 hc rfl rfl ?_
            refine wi_i2 hc rfl rfl ?_
            refine wp_cv (b := 0) (As := [.int (iI x), .int (iI o)]) (r := []) hc rfl (by rw [cm_132]; rfl) rfl (Nat.le_of_ble_eq_true rfl) (show 0 < 621 by decide) (by rw [cm_132]; rfl) (ev_mono (sp_132 (d := 0) hJ hK (x := x) (b := o) (by omega) (by omega) ho) (by omega)) ?_
            show mm_wp _ _ (80, [some (.ref 0), some (.int (iI x)), some (.int (iI b)), some (.int (iI p)), some (.int (iI o)), some (.int (iI op)), some (.int (iI (p - (placeP A b)))), none, none, none], [.int (iI (bI ((0 ≤ o ∧ o < A 0) ∧ A (46 + 6 * o + 5) = x)))], MX L t s l) _
            refine wi_beq hc rfl (fun h6_ => ?_) (fun h6_ => ?_)
            · refine wi_ic hc rfl ?_
              refine wi_ri hc rfl (by rw [cm_113]; rfl) ?_
              have hR : nudP A x b p o op = (-1) := by
                unfold nudP
                (repeat' split) <;> omega
              rw [hR]
            · refine wi_a1 hc rfl rfl ?_
              refine wi_i1 hc rfl rfl ?_
              refine wi_i2 hc rfl rfl ?_
              refine wp_cv (b := 0) (As := [.int (iI x), .int (iI op)]) (r := []) hc rfl (by rw [cm_131]; rfl) rfl (Nat.le_of_ble_eq_true rfl) (show 0 < 621 by decide) (by rw [cm_131]; rfl) (ev_mono (sp_131 (d := 0) hJ hK (x := x) (p := op) (by omega) (by omega) hop) (by omega)) ?_
              show mm_wp _ _ (90, [some (.ref 0), some (.int (iI x)), some (.int (iI b)), some (.int (iI p)), some (.int (iI o)), some (.int (iI op)), some (.int (iI (p - (placeP A b)))), none, none, none], [.int (iI (bI (0 ≤ op ∧ op < A (13 + x))))], MX L t s l) _
              refine wi_bne hc rfl (fun h7_ => ?_) (fun h7_ => ?_)
              · refine wi_i2 hc rfl rfl ?_
                refine wi_i1 hc rfl rfl ?_
                refine wi_ceq hc rfl ho hb (fun h8_ => ?_) (fun h8_ => ?_)
                · refine wi_ic hc rfl ?_
                  refine wi_ri hc rfl (by rw [cm_113]; rfl) ?_
                  have hR : nudP A x b p o op = (-1) := by
                    unfold nudP
                    (repeat' split) <;> omega
                  rw [hR]
                · refine wi_i2 hc rfl rfl ?_
                  refine wi_i1 hc rfl rfl ?_
                  refine wi_cne hc rfl hop hp (fun h9_ => ?_) (fun h9_ => ?_)
                  · refine wi_i2 hc rfl rfl ?_
                    refine wi_a1 hc rfl rfl ?_
                    refine wi_gr (w := 1) hc rfl rfl (by decide) (Nat.le_of_ble_eq_true rfl) rfl ?_
                    refine wi_gr (w := 2) hc rfl rfl (by decide) (Nat.le_of_ble_eq_true rfl) rfl ?_
                    refine wi_i2 hc rfl rfl ?_
                    obtain ⟨p0_, p1_, p2_⟩ := placeP_ok hB (b := o) (by omega) (by omega) (by omega)
                    have gx_ := hB.2.1 (A (46 + 6 * o + 5)) (by omega) (by omega)
                    refine wp_cv (b := 2) (As := [.int (iI o)]) (r := [.int (iI op)]) hc rfl (by rw [cm_70]; rfl) rfl (Nat.le_of_ble_eq_true rfl) (show 2 < 621 by decide) (by rw [cm_70]; rfl) (ev_mono (sp_70 (d := 0) hJ.1 hK (b := o) (x := A (46 + 6 * o + 5)) (p := placeP A o) (by omega) (by omega) rfl (by omega) (by omega) p0_ p1_ p2_) (by omega)) ?_
                    show mm_wp _ _ (123, [some (.ref 0), some (.int (iI x)), some (.int (iI b)), some (.int (iI p)), some (.int (iI o)), some (.int (iI op)), some (.int (iI (p - (placeP A b)))), none, none, none], [.int (iI (placeP A o)), .int (iI op)], MX L t s l) _
                    refine wi_sub hc rfl ?_
                    refine wi_is2 (L' := [some (.ref 0), some (.int (iI x)), some (.int (iI b)), some (.int (iI p)), some (.int (iI o)), some (.int (iI op)), some (.int (iI (p - (placeP A b)))), some (.int (iI (op - (placeP A o)))), none, none]) hc rfl (Nat.le_of_ble_eq_true rfl) rfl ?_
                    refine wi_a1 hc rfl rfl ?_
                    refine wi_gr (w := 1) hc rfl rfl (by decide) (Nat.le_of_ble_eq_true rfl) rfl ?_
                    refine wi_gr (w := 2) hc rfl rfl (by decide) (Nat.le_of_ble_eq_true rfl) rfl ?_
                    refine wi_i1 hc rfl rfl ?_
                    obtain ⟨p0_, p1_, p2_⟩ := placeP_ok hB (b := b) (by omega) (by omega) (by omega)
                    have gx_ := hB.2.1 (A (46 + 6 * b + 5)) (by omega) (by omega)
                    refine wp_cv (b := 2) (As := [.int (iI b)]) (r := []) hc rfl (by rw [cm_70]; rfl) rfl (Nat.le_of_ble_eq_true rfl) (show 2 < 621 by decide) (by rw [cm_70]; rfl) (ev_mono (sp_70 (d := 0) hJ.1 hK (b := b) (x := A (46 + 6 * b + 5)) (p := placeP A b) (by omega) (by omega) rfl (by omega) (by omega) p0_ p1_ p2_) (by omega)) ?_
                    show mm_wp _ _ (137, [some (.ref 0), some (.int (iI x)), some (.int (iI b)), some (.int (iI p)), some (.int (iI o)), some (.int (iI op)), some (.int (iI (p - (placeP A b)))), some (.int (iI (op - (placeP A o)))), none, none], [.int (iI (placeP A b))], MX L t s l) _
                    refine wi_a1 hc rfl rfl ?_
                    refine wi_gr (w := 1) hc rfl rfl (by decide) (Nat.le_of_ble_eq_true rfl) rfl ?_
                    refine wi_gr (w := 2) hc rfl rfl (by decide) (Nat.le_of_ble_eq_true rfl) rfl ?_
                    refine wi_i2 hc rfl rfl ?_
                    obtain ⟨p0_, p1_, p2_⟩ := placeP_ok hB (b := o) (by omega) (by omega) (by omega)
                    have gx_ := hB.2.1 (A (46 + 6 * o + 5)) (by omega) (by omega)
                    refine wp_cv (b := 2) (As := [.int (iI o)]) (r := [.int (iI (placeP A b))]) hc rfl (by rw [cm_70]; rfl) rfl (Nat.le_of_ble_eq_true rfl) (show 2 < 621 by decide) (by rw [cm_70]; rfl) (ev_mono (sp_70 (d := 0) hJ.1 hK (b := o) (x := A (46 + 6 * o + 5)) (p := placeP A o) (by omega) (by omega) rfl (by omega) (by omega) p0_ p1_ p2_) (by omega)) ?_
                    show mm_wp _ _ (149, [some (.ref 0), some (.int (iI x)), some (.int (iI b)), some (.int (iI p)), some (.int (iI o)), some (.int (iI op)), some (.int (iI (p - (placeP A b)))), some (.int (iI (op - (placeP A o)))), none, none], [.int (iI (placeP A o)), .int (iI (placeP A b))], MX L t s l) _
                    refine wi_cge hc rfl ⟨by omega, by omega⟩ ⟨by omega, by omega⟩ (fun h10_ => ?_) (fun h10_ => ?_)
                    · refine wi_ic hc rfl ?_
                      refine wi_is2 (L' := [some (.ref 0), some (.int (iI x)), some (.int (iI b)), some (.int (iI p)), some (.int (iI o)), some (.int (iI op)), some (.int (iI (p - (placeP A b)))), some (.int (iI (op - (placeP A o)))), some (.int (iI 0)), none]) hc rfl (Nat.le_of_ble_eq_true rfl) rfl ?_
                      refine wi_i2 hc rfl rfl ?_
                      refine wi_i1 hc rfl rfl ?_
                      refine wi_i2 hc rfl rfl ?_
                      refine wi_cge hc rfl hp hop (fun h11_ => ?_) (fun h11_ => ?_)
                      · refine wi_ic hc rfl ?_
                        refine wi_cne hc rfl ⟨by decide, by decide⟩ ⟨by decide, by decide⟩ (fun q => absurd q (by decide)) (fun _ => ?_)
                        refine wi_i2 hc rfl rfl ?_
                        refine wi_abs (r := []) hc rfl (Nat.le_of_ble_eq_true rfl) ⟨by omega, by omega⟩ (by omega) ?_
                        have h13_ := absI_spec (p - (placeP A b))
                        show mm_wp _ _ (180, [some (.ref 0), some (.int (iI x)), some (.int (iI b)), some (.int (iI p)), some (.int (iI o)), some (.int (iI op)), some (.int (iI (p - (placeP A b)))), some (.int (iI (op - (placeP A o)))), some (.int (iI 0)), none], [.int (iI (absI (p - (placeP A b))))], MX L t s l) _
                        refine wi_i2 hc rfl rfl ?_
                        refine wi_abs (r := [.int (iI (absI (p - (placeP A b))))]) hc rfl (Nat.le_of_ble_eq_true rfl) ⟨by omega, by omega⟩ (by omega) ?_
                        have h14_ := absI_spec (op - (placeP A o))
                        show mm_wp _ _ (185, [some (.ref 0), some (.int (iI x)), some (.int (iI b)), some (.int (iI p)), some (.int (iI o)), some (.int (iI op)), some (.int (iI (p - (placeP A b)))), some (.int (iI (op - (placeP A o)))), some (.int (iI 0)), none], [.int (iI (absI (op - (placeP A o)))), .int (iI (absI (p - (placeP A b))))], MX L t s l) _
                        refine wi_add hc rfl ?_
                        refine wi_ri hc rfl (by rw [cm_113]; rfl) ?_
                        have hR : nudP A x b p o op = (absI (p - (placeP A b))) + (absI (op - (placeP A o))) := by
                          unfold nudP hD
                          rw [if_pos (by omega), if_neg (by omega), if_pos (by omega), if_neg (by omega)]
                          first
                          | (rw [if_pos (by omega)])
                          | (rw [if_neg (by omega), if_pos (by omega)])
                          | (rw [if_neg (by omega), if_neg (by omega)])
                        rw [hR]
                      · refine wi_ic hc rfl ?_
                        refine wi_go hc rfl ?_
                        refine wi_cne hc rfl ⟨by decide, by decide⟩ ⟨by decide, by decide⟩ (fun _ => ?_) (fun q => absurd q (by decide))
                        refine wi_i2 hc rfl rfl ?_
                        refine wi_zeq hc rfl ⟨by decide, by decide⟩ (fun _ => ?_) (fun q => absurd q (by decide))
                        refine wi_ic hc rfl ?_
                        refine wi_is2 (L' := [some (.ref 0), some (.int (iI x)), some (.int (iI b)), some (.int (iI p)), some (.int (iI o)), some (.int (iI op)), some (.int (iI (p - (placeP A b)))), some (.int (iI (op - (placeP A o)))), some (.int (iI 0)), some (.int (iI (-1)))]) hc rfl (Nat.le_of_ble_eq_true rfl) rfl ?_
                        refine wi_ic hc rfl ?_
                        refine wi_i2 hc rfl rfl ?_
                        refine wi_i2 hc rfl rfl ?_
                        refine wi_sub hc rfl ?_
                        refine wi_abs (r := [.int (iI 1)]) hc rfl (Nat.le_of_ble_eq_true rfl) ⟨by omega, by omega⟩ (by omega) ?_
                        have h17_ := absI_spec ((p - (placeP A b)) - (-1))
                        show mm_wp _ _ (208, [some (.ref 0), some (.int (iI x)), some (.int (iI b)), some (.int (iI p)), some (.int (iI o)), some (.int (iI op)), some (.int (iI (p - (placeP A b)))), some (.int (iI (op - (placeP A o)))), some (.int (iI 0)), some (.int (iI (-1)))], [.int (iI (absI ((p - (placeP A b)) - (-1)))), .int (iI 1)], MX L t s l) _
                        refine wi_add hc rfl ?_
                        refine wi_i2 hc rfl rfl ?_
                        refine wi_i2 hc rfl rfl ?_
                        refine wi_add hc rfl ?_
                        refine wi_abs (r := [.int (iI (1 + (absI ((p - (placeP A b)) - (-1)))))]) hc rfl (Nat.le_of_ble_eq_true rfl) ⟨by omega, by omega⟩ (by omega) ?_
                        have h18_ := absI_spec ((op - (placeP A o)) + (-1))
                        show mm_wp _ _ (217, [some (.ref 0), some (.int (iI x)), some (.int (iI b)), some (.int (iI p)), some (.int (iI o)), some (.int (iI op)), some (.int (iI (p - (placeP A b)))), some (.int (iI (op - (placeP A o)))), some (.int (iI 0)), some (.int (iI (-1)))], [.int (iI (absI ((op - (placeP A o)) + (-1)))), .int (iI (1 + (absI ((p - (placeP A b)) - (-1)))))], MX L t s l) _
                        refine wi_add hc rfl ?_
                        refine wi_ri hc rfl (by rw [cm_113]; rfl) ?_
                        have hR : nudP A x b p o op = (1 + (absI ((p - (placeP A b)) - (-1)))) + (absI ((op - (placeP A o)) + (-1))) := by
                          unfold nudP hD
                          rw [if_pos (by omega), if_neg (by omega), if_pos (by omega), if_neg (by omega)]
                          first
                          | (rw [if_pos (by omega)])
                          | (rw [if_neg (by omega), if_pos (by omega)])
                          | (rw [if_neg (by omega), if_neg (by omega)])
                        rw [hR]
                    · refine wi_ic hc rfl ?_
                      refine wi_go hc rfl ?_
                      refine wi_is2 (L' := [some (.ref 0), some (.int (iI x)), some (.int (iI b)), some (.int (iI p)), some (.int (iI o)), some (.int (iI op)), some (.int (iI (p - (placeP A b)))), some (.int (iI (op - (placeP A o)))), some (.int (iI 1)), none]) hc rfl (Nat.le_of_ble_eq_true rfl) rfl ?_
                      refine wi_i2 hc rfl rfl ?_
                      refine wi_i1 hc rfl rfl ?_
                      refine wi_i2 hc rfl rfl ?_
                      refine wi_cge hc rfl hp hop (fun h19_ => ?_) (fun h19_ => ?_)
                      · refine wi_ic hc rfl ?_
                        refine wi_cne hc rfl ⟨by decide, by decide⟩ ⟨by decide, by decide⟩ (fun _ => ?_) (fun q => absurd q (by decide))
                        refine wi_i2 hc rfl rfl ?_
                        refine wi_zeq hc rfl ⟨by decide, by decide⟩ (fun q => absurd q (by decide)) (fun _ => ?_)
                        refine wi_ic hc rfl ?_
                        refine wi_go hc rfl ?_
                        refine wi_is2 (L' := [some (.ref 0), some (.int (iI x)), some (.int (iI b)), some (.int (iI p)), some (.int (iI o)), some (.int (iI op)), some (.int (iI (p - (placeP A b)))), some (.int (iI (op - (placeP A o)))), some (.int (iI 1)), some (.int (iI 1))]) hc rfl (Nat.le_of_ble_eq_true rfl) rfl ?_
                        refine wi_ic hc rfl ?_
                        refine wi_i2 hc rfl rfl ?_
                        refine wi_i2 hc rfl rfl ?_
                        refine wi_sub hc rfl ?_
                        refine wi_abs (r := [.int (iI 1)]) hc rfl (Nat.le_of_ble_eq_true rfl) ⟨by omega, by omega⟩ (by omega) ?_
                        have h22_ := absI_spec ((p - (placeP A b)) - 1)
                        show mm_wp _ _ (208, [some (.ref 0), some (.int (iI x)), some (.int (iI b)), some (.int (iI p)), some (.int (iI o)), some (.int (iI op)), some (.int (iI (p - (placeP A b)))), some (.int (iI (op - (placeP A o)))), some (.int (iI 1)), some (.int (iI 1))], [.int (iI (absI ((p - (placeP A b)) - 1))), .int (iI 1)], MX L t s l) _
                        refine wi_add hc rfl ?_
                        refine wi_i2 hc rfl rfl ?_
                        refine wi_i2 hc rfl rfl ?_
                        refine wi_add hc rfl ?_
                        refine wi_abs (r := [.int (iI (1 + (absI ((p - (placeP A b)) - 1))))]) hc rfl (Nat.le_of_ble_eq_true rfl) ⟨by omega, by omega⟩ (by omega) ?_
                        have h23_ := absI_spec ((op - (placeP A o)) + 1)
                        show mm_wp _ _ (217, [some (.ref 0), some (.int (iI x)), some (.int (iI b)), some (.int (iI p)), some (.int (iI o)), some (.int (iI op)), some (.int (iI (p - (placeP A b)))), some (.int (iI (op - (placeP A o)))), some (.int (iI 1)), some (.int (iI 1))], [.int (iI (absI ((op - (placeP A o)) + 1))), .int (iI (1 + (absI ((p - (placeP A b)) - 1))))], MX L t s l) _
                        refine wi_add hc rfl ?_
                        refine wi_ri hc rfl (by rw [cm_113]; rfl) ?_
                        have hR : nudP A x b p o op = (1 + (absI ((p - (placeP A b)) - 1))) + (absI ((op - (placeP A o)) + 1)) := by
                          unfold nudP hD
                          rw [if_pos (by omega), if_neg (by omega), if_pos (by omega), if_neg (by omega)]
                          first
                          | (rw [if_pos (by omega)])
                          | (rw [if_neg (by omega), if_pos (by omega)])
                          | (rw [if_neg (by omega), if_neg (by omega)])
                        rw [hR]
                      · refine wi_ic hc rfl ?_
                        refine wi_go hc rfl ?_
                        refine wi_cne hc rfl ⟨by decide, by decide⟩ ⟨by decide, by decide⟩ (fun q => absurd q (by decide)) (fun _ => ?_)
                        refine wi_i2 hc rfl rfl ?_
                        refine wi_abs (r := []) hc rfl (Nat.le_of_ble_eq_true rfl) ⟨by omega, by omega⟩ (by omega) ?_
                        have h25_ := absI_spec (p - (placeP A b))
                        show mm_wp _ _ (180, [some (.ref 0), some (.int (iI x)), some (.int (iI b)), some (.int (iI p)), some (.int (iI o)), some (.int (iI op)), some (.int (iI (p - (placeP A b)))), some (.int (iI (op - (placeP A o)))), some (.int (iI 1)), none], [.int (iI (absI (p - (placeP A b))))], MX L t s l) _
                        refine wi_i2 hc rfl rfl ?_
                        refine wi_abs (r := [.int (iI (absI (p - (placeP A b))))]) hc rfl (Nat.le_of_ble_eq_true rfl) ⟨by omega, by omega⟩ (by omega) ?_
                        have h26_ := absI_spec (op - (placeP A o))
                        show mm_wp _ _ (185, [some (.ref 0), some (.int (iI x)), some (.int (iI b)), some (.int (iI p)), some (.int (iI o)), some (.int (iI op)), some (.int (iI (p - (placeP A b)))), some (.int (iI (op - (placeP A o)))), some (.int (iI 1)), none], [.int (iI (absI (op - (placeP A o)))), .int (iI (absI (p - (placeP A b))))], MX L t s l) _
                        refine wi_add hc rfl ?_
                        refine wi_ri hc rfl (by rw [cm_113]; rfl) ?_
                        have hR : nudP A x b p o op = (absI (p - (placeP A b))) + (absI (op - (placeP A o))) := by
                          unfold nudP hD
                          rw [if_pos (by omega), if_neg (by omega), if_pos (by omega), if_neg (by omega)]
                          first
                          | (rw [if_pos (by omega)])
                          | (rw [if_neg (by omega), if_pos (by omega)])
                          | (rw [if_neg (by omega), if_neg (by omega)])
                        rw [hR]
                  · refine wi_ic hc rfl ?_
                    refine wi_ri hc rfl (by rw [cm_113]; rfl) ?_
                    have hR : nudP A x b p o op = (-1) := by
                      unfold nudP
                      (repeat' split) <;> omega
                    rw [hR]
              · refine wi_ic hc rfl ?_
                refine wi_ri hc rfl (by rw [cm_113]; rfl) ?_
                have hR : nudP A x b p o op = (-1) := by
                  unfold nudP
                  (repeat' split) <;> omega
                rw [hR]
          · refine wi_i2 hc rfl rfl ?_
            refine wi_abs (r := []) hc rfl (Nat.le_of_ble_eq_true rfl) ⟨by omega, by omega⟩ (by omega) ?_
            have h27_ := absI_spec (p - (placeP A b))
            show mm_wp _ _ (72, [some (.ref 0), some (.int (iI x)), some (.int (iI b)), some (.int (iI p)), some (.int (iI o)), some (.int (iI op)), some (.int (iI (p - (placeP A b)))), none, none, none], [.int (iI (absI (p - (placeP A b))))], MX L t s l) _
            refine wi_ri hc rfl (by rw [cm_113]; rfl) ?_
            have hR : nudP A x b p o op = absI (p - (placeP A b)) := by
              unfold nudP
              rw [if_pos (by omega), if_pos (by omega)]
            rw [hR]
        · refine wi_ic hc rfl ?_
          refine wi_ri hc rfl (by rw [cm_113]; rfl) ?_
          have hR : nudP A x b p o op = (-1) := by
            unfold nudP
            (repeat' split) <;> omega
          rw [hR]
    · refine wi_ic hc rfl ?_
      refine wi_ri hc rfl (by rw [cm_113]; rfl) ?_
      have hR : nudP A x b p o op = (-1) := by
        unfold nudP
        (repeat' split) <;> omega
      rw [hR]
def nuC (A : Int → Int) (x b o op : Int) : Prop := o = -1 ∨ (o ≠ -1 ∧ o ≠ b ∧ ((0 ≤ o ∧ o < A 0) ∧ A (46 + 6 * o + 5) = x) ∧ (0 ≤ op ∧ op < A (13 + x)))
theorem nuC_o {A : Int → Int} {x b o op : Int} (h : nuC A x b o op) (z : o ≠ -1) : o ≠ b ∧ ((0 ≤ o ∧ o < A 0) ∧ A (46 + 6 * o + 5) = x) ∧ (0 ≤ op ∧ op < A (13 + x)) := by
  rcases h with q | q
  · exact absurd q z
  · exact q.2
theorem sp_271 {d L t : Nat} {s l : Nat → Int → Int} {A T : Int → Int} (hJ : JM s A T) (hK : KA A T) {x b p o op : Int} (hx : rI x) (hb : rI b) (hp : rI p) (ho : rI o) (hop : rI op) : ∃ s1 l1, mm_Ev mm_ct mm_CM (d + 10) 271 [.ref 598, .int (iI x), .int (iI b), .int (iI p), .int (iI o), .int (iI op)] (MX L t s l) (some (.int (iI (nudP A x b p o op))), MX L t s1 l1) ∧ (∀ c, c ≠ 598 ∧ c ≠ 604 ∧ c ≠ 606 ∧ c ≠ 607 ∧ c ≠ 610 ∧ c ≠ 611 ∧ c ≠ 612 ∧ c ≠ 613 ∧ c ≠ 614 ∧ c ≠ 615 ∧ c ≠ 616 → s1 c = s c) ∧ (∀ c, c ≠ 605 → l1 c = l c) ∧ (∀ k, k ≠ 34 → k ≠ 35 → s1 598 k = s 598 k) ∧ JM s1 A T := by
  have hc : (mm_CM 271).2.2.2.2.2.2.2 = mm_cf cd_271 := by rw [cm_271]; rfl
  refine ev_xsl ?_
  refine ev_to (mx := 12) (by rw [cm_271]; decide) (by rw [cm_271]; rfl) (by show 6 ≤ _; decide) ?_
  show mm_wp _ _ (0, [some (.ref 598), some (.int (iI x)), some (.int (iI b)), some (.int (iI p)), some (.int (iI o)), some (.int (iI op)), none, none, none, none, none, none], [], MX L t s l) (fun res => ∃ s1 l1, res = (some (.int (iI (nudP A x b p o op))), MX L t s1 l1) ∧ (∀ c, c ≠ 598 ∧ c ≠ 604 ∧ c ≠ 606 ∧ c ≠ 607 ∧ c ≠ 610 ∧ c ≠ 611 ∧ c ≠ 612 ∧ c ≠ 613 ∧ c ≠ 614 ∧ c ≠ 615 ∧ c ≠ 616 → s1 c = s c) ∧ (∀ c, c ≠ 605 → l1 c = l c) ∧ (∀ k, k ≠ 34 → k ≠ 35 → s1 598 k = s 598 k) ∧ JM s1 A T)
  have hV := hK.1
  have hB := hK.2.1
  have g0 := hB.1
  have h1 := hK.2.2.1.1
  have hpw := pw_10 g0.1 g0.2
  refine wi_i1 hc rfl rfl ?_
  refine wp_cs (As := [.int (iI x)]) (r := []) hc rfl (by rw [cm_152]; rfl) rfl (Nat.le_of_ble_eq_true rfl) (ev_mono (sp_152 (d := 0) hx) (by omega)) ?_
  show mm_wp _ _ (4, [some (.ref 598), some (.int (iI x)), some (.int (iI b)), some (.int (iI p)), some (.int (iI o)), some (.int (iI op)), none, none, none, none, none, none], [.int (iI (bI (0 ≤ x ∧ x ≤ 2)))], MX L t s l) _
  refine wi_beq hc rfl (fun h1_ => ?_) (fun h1_ => ?_)
  · refine wi_ic hc rfl ?_
    refine wi_ri hc rfl (by rw [cm_271]; rfl) ?_
    have hR : nudP A x b p o op = -1 := by
      unfold nudP
      (repeat' split) <;> omega
    rw [hR]
    exact ⟨s, l, rfl, fun c _ => rfl, fun c _ => rfl, fun k _ _ => rfl, hJ⟩
  · have gm := hB.2.1 x (by omega) (by omega)
    refine wi_a1 hc rfl rfl ?_
    refine wi_gr (w := 599) hc rfl rfl (by decide) (Nat.le_of_ble_eq_true rfl) rfl ?_
    refine wi_bi hc rfl rfl ?_
    refine wi_i1 hc rfl rfl ?_
    refine wi_add hc rfl ?_
    refine wi_ildv (N := 3642) hc rfl rfl (by decide) (by decide) (by omega) (by omega) (v := A (13 + x)) (congrFun (hJ.1) _) ?_
    refine wi_bi hc rfl rfl ?_
    refine wi_cgt hc rfl ⟨by omega, by omega⟩ ⟨by decide, by decide⟩ (fun h2_ => ?_) (fun h2_ => ?_)
    · refine wi_ic hc rfl ?_
      refine wi_ri hc rfl (by rw [cm_271]; rfl) ?_
      have hR : nudP A x b p o op = -1 := by
        unfold nudP
        (repeat' split) <;> omega
      rw [hR]
      exact ⟨s, l, rfl, fun c _ => rfl, fun c _ => rfl, fun k _ _ => rfl, hJ⟩
    · refine wi_a1 hc rfl rfl ?_
      refine wi_i1 hc rfl rfl ?_
      refine wi_i1 hc rfl rfl ?_
      refine wi_i1 hc rfl rfl ?_
      refine wp_cv (b := 598) (As := [.int (iI b), .int (iI x), .int (iI p)]) (r := []) hc rfl (by rw [cm_270]; rfl) rfl (Nat.le_of_ble_eq_true rfl) (show 598 < 621 by decide) (by rw [cm_270]; rfl) (ev_mono (sp_270 (d := 0) hJ hK (b := b) (x := x) (p := p) hb (by omega) hp) (by omega)) ?_
      show mm_wp _ _ (28, [some (.ref 598), some (.int (iI x)), some (.int (iI b)), some (.int (iI p)), some (.int (iI o)), some (.int (iI op)), none, none, none, none, none, none], [.int (iI (bI (((0 ≤ b ∧ b < A 0) ∧ A (46 + 6 * b + 5) = x) ∧ (0 ≤ p ∧ p < A (13 + x)))))], MX L t s l) _
      refine wi_bne hc rfl (fun h3_ => ?_) (fun h3_ => ?_)
      · have join59_ : nuC A x b o op → mm_wp (mm_Ev mm_ct mm_CM (d + 9)) 271 (59, [some (.ref 598), some (.int (iI x)), some (.int (iI b)), some (.int (iI p)), some (.int (iI o)), some (.int (iI op)), none, none, none, none, none, none], [], MX L t s l) (fun res => ∃ s1 l1, res = (some (.int (iI (nudP A x b p o op))), MX L t s1 l1) ∧ (∀ c, c ≠ 598 ∧ c ≠ 604 ∧ c ≠ 606 ∧ c ≠ 607 ∧ c ≠ 610 ∧ c ≠ 611 ∧ c ≠ 612 ∧ c ≠ 613 ∧ c ≠ 614 ∧ c ≠ 615 ∧ c ≠ 616 → s1 c = s c) ∧ (∀ c, c ≠ 605 → l1 c = l c) ∧ (∀ k, k ≠ 34 → k ≠ 35 → s1 598 k = s 598 k) ∧ JM s1 A T) := by
          intro hoc
          refine wi_a1 hc rfl rfl ?_
          refine wi_i1 hc rfl rfl ?_
          have hx9 : 0 ≤ x ∧ x < 3 := by omega
          have hsx := sx_ok hB hx9.1 hx9.2 (by omega)
          have hm7 : mS (sSx A x) < 7 := by omega
          have hmN : ((mS (sSx A x) : Nat) : Int) = A (13 + x) := by omega
          have hfm := fct_r (mS (sSx A x))
          have hk0 : 0 ≤ sKx A x ∧ sKx A x < ((fct (mS (sSx A x)) : Nat) : Int) := by have h := hsx.2.2.1; rw [← hsx.2.1] at h; exact h
          obtain ⟨eb, eb0, eb1, hebb⟩ := sx_eb hB (x := x) (b := b) hx9.1 hx9.2 (by omega) (by omega) (by omega) (by omega)
          have eb2 : eb < ((mS (sSx A x) : Nat) : Int) := by omega
          have hxo : ∃ eo, (0 ≤ eo ∧ eo < ((mS (sSx A x) : Nat) : Int)) ∧ (o ≠ -1 → elF (sSx A x) eo = o ∧ eo ≠ eb) := by
            by_cases z : o = -1
            · exact ⟨eb, ⟨eb0, eb2⟩, fun q => absurd z q⟩
            · have hoz := nuC_o hoc z
              obtain ⟨eo, a9, b9, c9⟩ := sx_eb hB (x := x) (b := o) hx9.1 hx9.2 (by omega) (by omega) (by omega) (by omega)
              exact ⟨eo, ⟨a9, by omega⟩, fun _ => ⟨c9, fun q => by rw [q, hebb] at c9; omega⟩⟩
          obtain ⟨eo, ⟨eo0, eo2⟩, heo⟩ := hxo
          have hone : o ≠ -1 → eo ≠ eb := fun z => (heo z).2
          have hopz : o ≠ -1 → 0 ≤ op ∧ op < ((mS (sSx A x) : Nat) : Int) := fun z => by have := (nuC_o hoc z).2.2; omega
          have hop9 : o = -1 ∨ (0 ≤ op ∧ op < ((mS (sSx A x) : Nat) : Int)) := by by_cases z : o = -1; exact Or.inl z; exact Or.inr (hopz z)
          obtain ⟨s1_, l1_, hE1_, hF1_, hG1_, hk1_, hJ1_, hO9, hM9, hL9, hC9⟩ := sp_267 (d := 0) (L := L) (t := t) (l := l) hJ hK (x := x) hx9.1 hx9.2 (by omega)
          refine wp_cv (b := 598) (As := [.int (iI x)]) (r := []) hc rfl (by rw [cm_267]; rfl) rfl (Nat.le_of_ble_eq_true rfl) (show 598 < 621 by decide) (by rw [cm_267]; rfl) (ev_mono hE1_ (by omega)) ?_
          show mm_wp _ _ (64, [some (.ref 598), some (.int (iI x)), some (.int (iI b)), some (.int (iI p)), some (.int (iI o)), some (.int (iI op)), none, none, none, none, none, none], [.int (iI (sKx A x))], MX L t s1_ l1_) _
          refine wi_is2 (L' := [some (.ref 598), some (.int (iI x)), some (.int (iI b)), some (.int (iI p)), some (.int (iI o)), some (.int (iI op)), some (.int (iI (sKx A x))), none, none, none, none, none]) hc rfl (Nat.le_of_ble_eq_true rfl) rfl ?_
          refine wi_ic hc rfl ?_
          refine wi_is2 (L' := [some (.ref 598), some (.int (iI x)), some (.int (iI b)), some (.int (iI p)), some (.int (iI o)), some (.int (iI op)), some (.int (iI (sKx A x))), some (.int (iI 0)), none, none, none, none]) hc rfl (Nat.le_of_ble_eq_true rfl) rfl ?_
          have loop69_ : ∀ k : Int, k ≤ ((fct (mS (sSx A x)) : Nat) : Int) → 0 ≤ k → ∀ (s3 : Nat → Int → Int), (∀ c, c ≠ 616 → s3 c = s1_ c) → (∀ v, 0 ≤ v → v < k → s3 616 v = -1) → mm_wp (mm_Ev mm_ct mm_CM (d + 9)) 271 (69, [some (.ref 598), some (.int (iI x)), some (.int (iI b)), some (.int (iI p)), some (.int (iI o)), some (.int (iI op)), some (.int (iI (sKx A x))), some (.int (iI k)), none, none, none, none], [], MX L t s3 l1_) (fun res => ∃ s1 l1, res = (some (.int (iI (nudP A x b p o op))), MX L t s1 l1) ∧ (∀ c, c ≠ 598 ∧ c ≠ 604 ∧ c ≠ 606 ∧ c ≠ 607 ∧ c ≠ 610 ∧ c ≠ 611 ∧ c ≠ 612 ∧ c ≠ 613 ∧ c ≠ 614 ∧ c ≠ 615 ∧ c ≠ 616 → s1 c = s c) ∧ (∀ c, c ≠ 605 → l1 c = l c) ∧ (∀ k, k ≠ 34 → k ≠ 35 → s1 598 k = s 598 k) ∧ JM s1 A T) := by
            refine up_ind ?_
            intro k hk9 ih k0 s3 hF3 hw3
            have hJ_s3 := hJ1_.of (hF3 599 (by decide)) (hF3 601 (by decide)) (hF3 604 (by decide))
            have hO_s3 := hO9.of (hF3 598 (by decide)) (hF3 610 (by decide))
            have hM_s3 := hM9.of (hF3 613 (by decide))
            have hL_s3 := hL9.of (hF3 611 (by decide)) (hF3 612 (by decide))
            refine wi_i2 hc rfl rfl ?_
            refine wi_a1 hc rfl rfl ?_
            refine wi_gfv (kz := 35) rfl hc rfl rfl (by decide) (Nat.le_of_ble_eq_true rfl) rfl (v := ((fct (mS (sSx A x)) : Nat) : Int)) (hO_s3.2.1) ?_
            refine wi_cge hc rfl ⟨by omega, by omega⟩ ⟨by omega, by omega⟩ (fun h4_ => ?_) (fun h4_ => ?_)
            · refine wi_a1 hc rfl rfl ?_
              refine wi_gr (w := 616) hc rfl rfl (by decide) (Nat.le_of_ble_eq_true rfl) rfl ?_
              refine wi_i2 hc rfl rfl ?_
              refine wi_ic hc rfl ?_
              refine wi_ist (N := 720) hc rfl rfl (by decide) (by decide) (by omega) (by omega) ?_
              obtain ⟨s2_, es2_⟩ : ∃ q, q = up s3 616 (sKx A x) 0 := ⟨_, rfl⟩
              rw [← es2_]
              refine wi_a1 hc rfl rfl ?_
              refine wi_gr (w := 615) hc rfl rfl (by decide) (Nat.le_of_ble_eq_true rfl) rfl ?_
              refine wi_ic hc rfl ?_
              refine wi_i2 hc rfl rfl ?_
              refine wi_ist (N := 720) hc rfl rfl (by decide) (by decide) (by omega) (by omega) ?_
              obtain ⟨s3_, es3_⟩ : ∃ q, q = up s2_ 615 0 (sKx A x) := ⟨_, rfl⟩
              rw [← es3_]
              refine wi_ic hc rfl ?_
              refine wi_is2 (L' := [some (.ref 598), some (.int (iI x)), some (.int (iI b)), some (.int (iI p)), some (.int (iI o)), some (.int (iI op)), some (.int (iI (sKx A x))), some (.int (iI 1)), none, none, none, none]) hc rfl (Nat.le_of_ble_eq_true rfl) rfl ?_
              refine wi_ic hc rfl ?_
              refine wi_is2 (L' := [some (.ref 598), some (.int (iI x)), some (.int (iI b)), some (.int (iI p)), some (.int (iI o)), some (.int (iI op)), some (.int (iI (sKx A x))), some (.int (iI 1)), some (.int (iI 0)), none, none, none]) hc rfl (Nat.le_of_ble_eq_true rfl) rfl ?_
              have loop114_ : ∀ i : Int, i ≤ ((fct (mS (sSx A x)) : Nat) : Int) → 0 ≤ i → ∀ (e : Int) (o9 o10 o11 : Option Value) (s4 : Nat → Int → Int), (∀ c, c ≠ 614 ∧ c ≠ 615 ∧ c ≠ 616 → s4 c = s1_ c) → BFs (nhD (mS (sSx A x)) eb eo o p op) (nhD (mS (sSx A x)) eb eo o p op (sKx A x)) ((fct (mS (sSx A x)) : Nat) : Int) (o = -1 ∨ op ≠ p) (s4 615) (s4 616) i e → ((o = -1 ∨ op ≠ p) → BWs (nhD (mS (sSx A x)) eb eo o p op) (nhD (mS (sSx A x)) eb eo o p op (sKx A x)) (s4 615) (s4 616) i e) → mm_wp (mm_Ev mm_ct mm_CM (d + 9)) 271 (114, [some (.ref 598), some (.int (iI x)), some (.int (iI b)), some (.int (iI p)), some (.int (iI o)), some (.int (iI op)), some (.int (iI (sKx A x))), some (.int (iI e)), some (.int (iI i)), o9, o10, o11], [], MX L t s4 l1_) (fun res => ∃ s1 l1, res = (some (.int (iI (nudP A x b p o op))), MX L t s1 l1) ∧ (∀ c, c ≠ 598 ∧ c ≠ 604 ∧ c ≠ 606 ∧ c ≠ 607 ∧ c ≠ 610 ∧ c ≠ 611 ∧ c ≠ 612 ∧ c ≠ 613 ∧ c ≠ 614 ∧ c ≠ 615 ∧ c ≠ 616 → s1 c = s c) ∧ (∀ c, c ≠ 605 → l1 c = l c) ∧ (∀ k, k ≠ 34 → k ≠ 35 → s1 598 k = s 598 k) ∧ JM s1 A T) := by
                refine up_ind ?_
                intro i hi9 ihi i0 e o9 o10 o11 s4 hF4 hb4 hw4
                have hle := BFs_le hb4
                have he1 := hb4.1.2
                have hJ_s4 := hJ1_.of (hF4 599 (by decide)) (hF4 601 (by decide)) (hF4 604 (by decide))
                have hO_s4 := hO9.of (hF4 598 (by decide)) (hF4 610 (by decide))
                have hM_s4 := hM9.of (hF4 613 (by decide))
                have hL_s4 := hL9.of (hF4 611 (by decide)) (hF4 612 (by decide))
                refine wi_i2 hc rfl rfl ?_
                refine wi_i2 hc rfl rfl ?_
                refine wi_cge hc rfl ⟨by omega, by omega⟩ ⟨by omega, by omega⟩ (fun h5_ => ?_) (fun h5_ => ?_)
                · refine wi_ic hc rfl ?_
                  refine wi_ri hc rfl (by rw [cm_271]; rfl) ?_
                  have hR : nudP A x b p o op = -1 := by
                    have hnF : ¬ (o = -1 ∨ op ≠ p) := fun hF => BWs_no (hw4 hF) (by omega)
                    unfold nudP
                    rw [if_pos (by omega), if_neg (by omega), if_neg (by omega)]
                  rw [hR]
                  exact ⟨s4, l1_, rfl, fun c hc9_ => (hF4 c (by omega)).trans (hF1_ c (by omega)), fun c hc9_ => hG1_ c (by omega), fun k a b => (congrFun (hF4 598 (by decide)) k).trans (hk1_ k a b), hJ_s4⟩
                · have hqi := hb4.2.1 i i0 (by omega)
                  obtain ⟨cur, hcur⟩ : ∃ z9, z9 = s4 615 i := ⟨_, rfl⟩
                  rw [← hcur] at hqi
                  obtain ⟨tcur, htc⟩ : ∃ z9, z9 = s4 616 cur := ⟨_, rfl⟩
                  rw [← htc] at hqi
                  have hib := isat_iff (S := sSx A x) (m := mS (sSx A x)) rfl hm7 (n := cur) (p := p) (by omega) (by omega) eb0 eb2 hebb (by omega) (by omega)
                  have hio : o ≠ -1 → (elF (sSx A x) (dgI (mS (sSx A x)) cur op) = o ↔ op = psF (dgI (mS (sSx A x)) cur) ((mS (sSx A x) : Nat) : Int) eo) := fun z => isat_iff (S := sSx A x) (m := mS (sSx A x)) rfl hm7 (n := cur) (p := op) (by omega) (by omega) eo0 eo2 (heo z).1 (hopz z).1 (hopz z).2
                  refine wi_a1 hc rfl rfl ?_
                  refine wi_gr (w := 615) hc rfl rfl (by decide) (Nat.le_of_ble_eq_true rfl) rfl ?_
                  refine wi_i2 hc rfl rfl ?_
                  refine wi_ildv (N := 720) hc rfl rfl (by decide) (by decide) (by omega) (by omega) (v := cur) (hcur.symm) ?_
                  refine wi_is2 (L' := [some (.ref 598), some (.int (iI x)), some (.int (iI b)), some (.int (iI p)), some (.int (iI o)), some (.int (iI op)), some (.int (iI (sKx A x))), some (.int (iI e)), some (.int (iI i)), some (.int (iI cur)), o10, o11]) hc rfl (Nat.le_of_ble_eq_true rfl) rfl ?_
                  have join162_ : ((o = -1 ∨ op ≠ p) → (nhD (mS (sSx A x)) eb eo o p op) cur ≠ 0) → mm_wp (mm_Ev mm_ct mm_CM (d + 9)) 271 (162, [some (.ref 598), some (.int (iI x)), some (.int (iI b)), some (.int (iI p)), some (.int (iI o)), some (.int (iI op)), some (.int (iI (sKx A x))), some (.int (iI e)), some (.int (iI i)), some (.int (iI cur)), o10, o11], [], MX L t s4 l1_) (fun res => ∃ s1 l1, res = (some (.int (iI (nudP A x b p o op))), MX L t s1 l1) ∧ (∀ c, c ≠ 598 ∧ c ≠ 604 ∧ c ≠ 606 ∧ c ≠ 607 ∧ c ≠ 610 ∧ c ≠ 611 ∧ c ≠ 612 ∧ c ≠ 613 ∧ c ≠ 614 ∧ c ≠ 615 ∧ c ≠ 616 → s1 c = s c) ∧ (∀ c, c ≠ 605 → l1 c = l c) ∧ (∀ k, k ≠ 34 → k ≠ 35 → s1 598 k = s 598 k) ∧ JM s1 A T) := by
                    intro hnt
                    refine wi_ic hc rfl ?_
                    refine wi_is2 (L' := [some (.ref 598), some (.int (iI x)), some (.int (iI b)), some (.int (iI p)), some (.int (iI o)), some (.int (iI op)), some (.int (iI (sKx A x))), some (.int (iI e)), some (.int (iI i)), some (.int (iI cur)), some (.int (iI 0)), o11]) hc rfl (Nat.le_of_ble_eq_true rfl) rfl ?_
                    have loop165_ : ∀ j : Int, j ≤ ((mS (sSx A x) : Nat) : Int) → 0 ≤ j → ∀ (e : Int) (o11 : Option Value) (s5 : Nat → Int → Int), (∀ c, c ≠ 614 ∧ c ≠ 615 ∧ c ≠ 616 → s5 c = s1_ c) → s5 615 i = cur → BFs (nhD (mS (sSx A x)) eb eo o p op) (nhD (mS (sSx A x)) eb eo o p op (sKx A x)) ((fct (mS (sSx A x)) : Nat) : Int) (o = -1 ∨ op ≠ p) (s5 615) (s5 616) i e → i < e → ((o = -1 ∨ op ≠ p) → BIs (nhD (mS (sSx A x)) eb eo o p op) (nhD (mS (sSx A x)) eb eo o p op (sKx A x)) (s5 615) (s5 616) i e (ndO (mS (sSx A x)) cur) j) → mm_wp (mm_Ev mm_ct mm_CM (d + 9)) 271 (165, [some (.ref 598), some (.int (iI x)), some (.int (iI b)), some (.int (iI p)), some (.int (iI o)), some (.int (iI op)), some (.int (iI (sKx A x))), some (.int (iI e)), some (.int (iI i)), some (.int (iI cur)), some (.int (iI j)), o11], [], MX L t s5 l1_) (fun res => ∃ s1 l1, res = (some (.int (iI (nudP A x b p o op))), MX L t s1 l1) ∧ (∀ c, c ≠ 598 ∧ c ≠ 604 ∧ c ≠ 606 ∧ c ≠ 607 ∧ c ≠ 610 ∧ c ≠ 611 ∧ c ≠ 612 ∧ c ≠ 613 ∧ c ≠ 614 ∧ c ≠ 615 ∧ c ≠ 616 → s1 c = s c) ∧ (∀ c, c ≠ 605 → l1 c = l c) ∧ (∀ k, k ≠ 34 → k ≠ 35 → s1 598 k = s 598 k) ∧ JM s1 A T) := by
                      refine up_ind ?_
                      intro j hj9 ihj j0 e o11 s5 hF5 hq5 hb5 hie5 hw5
                      have hle := BFs_le hb5
                      have he1 := hb5.1.2
                      have hJ_s5 := hJ1_.of (hF5 599 (by decide)) (hF5 601 (by decide)) (hF5 604 (by decide))
                      have hO_s5 := hO9.of (hF5 598 (by decide)) (hF5 610 (by decide))
                      have hM_s5 := hM9.of (hF5 613 (by decide))
                      have hL_s5 := hL9.of (hF5 611 (by decide)) (hF5 612 (by decide))
                      refine wi_i2 hc rfl rfl ?_
                      refine wi_ic hc rfl ?_
                      refine wi_add hc rfl ?_
                      refine wi_a1 hc rfl rfl ?_
                      refine wi_gfv (kz := 34) rfl hc rfl rfl (by decide) (Nat.le_of_ble_eq_true rfl) rfl (v := ((mS (sSx A x) : Nat) : Int)) (hO_s5.1) ?_
                      refine wi_cge hc rfl ⟨by omega, by omega⟩ ⟨by omega, by omega⟩ (fun h6_ => ?_) (fun h6_ => ?_)
                      · refine wi_inc (L' := [some (.ref 598), some (.int (iI x)), some (.int (iI b)), some (.int (iI p)), some (.int (iI o)), some (.int (iI op)), some (.int (iI (sKx A x))), some (.int (iI e)), some (.int (iI (i + 1))), some (.int (iI cur)), some (.int (iI j)), o11]) hc rfl rfl rfl ?_
                        refine wi_go hc rfl ?_
                        refine ihi (by omega) (by omega) _ _ _ _ s5 (fun c hc9_ => hF5 c (by omega)) (BFs_up hb5 hie5) (fun hF => BIs_end (hw5 hF) (fun hh => ?_) (by omega) ?_)
                        · rw [hq5] at hh ⊢
                          exact nhD_down hm7 (by omega) (by omega) eb0 eb2 eo0 eo2 hone hF (by omega) (by omega) hopz hh
                        · rw [hq5]; exact hnt hF
                      · refine wi_a1 hc rfl rfl ?_
                        refine wi_i2 hc rfl rfl ?_
                        refine wi_i2 hc rfl rfl ?_
                        obtain ⟨s4_, hE4_, hF4_⟩ := sp_269 (d := 0) (L := L) (t := t) (l := l1_) hm7 hO_s5 hM_s5 hL_s5 (n := cur) (p := j) (by omega) (by omega) (by omega) (by omega)
                        refine wp_cv (b := 598) (As := [.int (iI cur), .int (iI j)]) (r := []) hc rfl (by rw [cm_269]; rfl) rfl (Nat.le_of_ble_eq_true rfl) (show 598 < 621 by decide) (by rw [cm_269]; rfl) (ev_mono hE4_ (by omega)) ?_
                        obtain ⟨nx, hnx⟩ : ∃ z9, z9 = ndO (mS (sSx A x)) cur j := ⟨_, rfl⟩
                        have hnr := (nd_ok hm7 (n := cur) (p := j) (by omega) (by omega) (by omega)).1
                        rw [← hnx] at hnr
                        rw [← hnx]
                        have htr := BFs_tr hb5 hnr.1 hnr.2
                        have hcr := (hb5.2.1 i (by omega) (by omega)).2
                        rw [hq5] at hcr
                        show mm_wp _ _ (184, [some (.ref 598), some (.int (iI x)), some (.int (iI b)), some (.int (iI p)), some (.int (iI o)), some (.int (iI op)), some (.int (iI (sKx A x))), some (.int (iI e)), some (.int (iI i)), some (.int (iI cur)), some (.int (iI j)), o11], [.int (iI nx)], MX L t s4_ l1_) _
                        refine wi_is2 (L' := [some (.ref 598), some (.int (iI x)), some (.int (iI b)), some (.int (iI p)), some (.int (iI o)), some (.int (iI op)), some (.int (iI (sKx A x))), some (.int (iI e)), some (.int (iI i)), some (.int (iI cur)), some (.int (iI j)), some (.int (iI nx))]) hc rfl (Nat.le_of_ble_eq_true rfl) rfl ?_
                        refine wi_a1 hc rfl rfl ?_
                        refine wi_gr (w := 616) hc rfl rfl (by decide) (Nat.le_of_ble_eq_true rfl) rfl ?_
                        refine wi_i2 hc rfl rfl ?_
                        refine wi_ildv (N := 720) hc rfl rfl (by decide) (by decide) (by omega) (by omega) (v := s5 616 nx) (congrFun (hF4_ 616 (by decide)) _) ?_
                        refine wi_zlt hc rfl ⟨by omega, by omega⟩ (fun h7_ => ?_) (fun h7_ => ?_)
                        · have hlt := BFs_lt hb5 hie5 hnr.1 hnr.2 (by omega)
                          refine wi_a1 hc rfl rfl ?_
                          refine wi_gr (w := 616) hc rfl rfl (by decide) (Nat.le_of_ble_eq_true rfl) rfl ?_
                          refine wi_i2 hc rfl rfl ?_
                          refine wi_a1 hc rfl rfl ?_
                          refine wi_gr (w := 616) hc rfl rfl (by decide) (Nat.le_of_ble_eq_true rfl) rfl ?_
                          refine wi_i2 hc rfl rfl ?_
                          refine wi_ildv (N := 720) hc rfl rfl (by decide) (by decide) (by omega) (by omega) (v := s5 616 cur) (congrFun (hF4_ 616 (by decide)) _) ?_
                          refine wi_ic hc rfl ?_
                          refine wi_add hc rfl ?_
                          refine wi_ist (N := 720) hc rfl rfl (by decide) (by decide) (by omega) (by omega) ?_
                          obtain ⟨s5_, es5_⟩ : ∃ q, q = up s4_ 616 nx ((s5 616 cur) + 1) := ⟨_, rfl⟩
                          rw [← es5_]
                          refine wi_a1 hc rfl rfl ?_
                          refine wi_gr (w := 615) hc rfl rfl (by decide) (Nat.le_of_ble_eq_true rfl) rfl ?_
                          refine wi_i2 hc rfl rfl ?_
                          refine wi_i2 hc rfl rfl ?_
                          refine wi_ist (N := 720) hc rfl rfl (by decide) (by decide) (by omega) (by omega) ?_
                          obtain ⟨s6_, es6_⟩ : ∃ q, q = up s5_ 615 e nx := ⟨_, rfl⟩
                          rw [← es6_]
                          refine wi_inc (L' := [some (.ref 598), some (.int (iI x)), some (.int (iI b)), some (.int (iI p)), some (.int (iI o)), some (.int (iI op)), some (.int (iI (sKx A x))), some (.int (iI (e + 1))), some (.int (iI i)), some (.int (iI cur)), some (.int (iI j)), some (.int (iI nx))]) hc rfl rfl rfl ?_
                          refine wi_inc (L' := [some (.ref 598), some (.int (iI x)), some (.int (iI b)), some (.int (iI p)), some (.int (iI o)), some (.int (iI op)), some (.int (iI (sKx A x))), some (.int (iI (e + 1))), some (.int (iI i)), some (.int (iI cur)), some (.int (iI (j + 1))), some (.int (iI nx))]) hc rfl rfl rfl ?_
                          refine wi_go hc rfl ?_
                          have hq8 : ∀ z9, s6_ 615 z9 = if z9 = e then nx else s5 615 z9 := fun z9 => by
                            rw [es6_, up_ite, es5_, congrFun (up_cc (by decide)) z9, hF4_ 615 (by decide)]
                          have ht8 : ∀ z9, s6_ 616 z9 = if z9 = nx then s5 616 (s5 615 i) + 1 else s5 616 z9 := fun z9 => by
                            rw [es6_, congrFun (up_cc (by decide)) z9, es5_, up_ite, hF4_ 616 (by decide), hq5]
                          have hst : (o = -1 ∨ op ≠ p) → (nhD (mS (sSx A x)) eb eo o p op) (s5 615 i) - 1 ≤ (nhD (mS (sSx A x)) eb eo o p op) nx := fun hF => by
                            rw [hq5, hnx]
                            exact nhD_step hm7 (by omega) (by omega) ⟨j0, by omega⟩ eb0 eb2 eo0 eo2 hone hF
                          have hb8 := BFs_push hb5 hie5 hnr.1 hnr.2 (by omega) hst hq8 ht8
                          refine ihj (by omega) (by omega) _ _ s6_ (fun c hc9_ => ((congrFun es6_ c).trans (up_cc (by omega))).trans (((congrFun es5_ c).trans (up_cc (by omega))).trans ((hF4_ c (by omega)).trans (hF5 c (by omega))))) ?_ hb8 (by omega) (fun hF => ?_)
                          · rw [hq8, if_neg (by omega)]; exact hq5
                          · exact BIs_push hb5 hie5 (by rw [← hnx]; omega) (by rw [← hnx]; exact hq8) (by rw [← hnx]; exact ht8) (hw5 hF)
                        · refine wi_go hc rfl ?_
                          refine wi_inc (L' := [some (.ref 598), some (.int (iI x)), some (.int (iI b)), some (.int (iI p)), some (.int (iI o)), some (.int (iI op)), some (.int (iI (sKx A x))), some (.int (iI e)), some (.int (iI i)), some (.int (iI cur)), some (.int (iI (j + 1))), some (.int (iI nx))]) hc rfl rfl rfl ?_
                          refine wi_go hc rfl ?_
                          refine ihj (by omega) (by omega) e _ s4_ (fun c hc9_ => (hF4_ c (by omega)).trans (hF5 c (by omega))) ?_ ?_ hie5 (fun hF => ?_)
                          · rw [hF4_ 615 (by decide)]; exact hq5
                          · rw [hF4_ 615 (by decide), hF4_ 616 (by decide)]; exact hb5
                          · rw [hF4_ 615 (by decide), hF4_ 616 (by decide)]
                            exact BIs_seen hb5 hF hie5 (by rw [← hnx]; omega) (by rw [← hnx]; omega) (by rw [← hnx]; omega) (hw5 hF)
                    exact loop165_ 0 (by omega) (by omega) _ _ s4 hF4 hcur.symm hb4 (by omega) (fun hF => BIs_init (hw4 hF))
                  refine wi_a1 hc rfl rfl ?_
                  refine wi_i2 hc rfl rfl ?_
                  refine wi_i1 hc rfl rfl ?_
                  refine wi_i1 hc rfl rfl ?_
                  refine wp_cv (b := 598) (As := [.int (iI cur), .int (iI b), .int (iI p)]) (r := []) hc rfl (by rw [cm_268]; rfl) rfl (Nat.le_of_ble_eq_true rfl) (show 598 < 621 by decide) (by rw [cm_268]; rfl) (ev_mono (sp_268 (d := 0) hm7 hO_s4 rfl hM_s4 hL_s4 (n := cur) (b := b) (p := p) hqi.1.1 hqi.1.2 hb (by omega)) (by omega)) ?_
                  show mm_wp _ _ (138, [some (.ref 598), some (.int (iI x)), some (.int (iI b)), some (.int (iI p)), some (.int (iI o)), some (.int (iI op)), some (.int (iI (sKx A x))), some (.int (iI e)), some (.int (iI i)), some (.int (iI cur)), o10, o11], [.int (iI (bI (b = -1 ∨ elF (sSx A x) (dgI (mS (sSx A x)) cur p) = b)))], MX L t s4 l1_) _
                  refine wi_beq hc rfl (fun h8_ => ?_) (fun h8_ => ?_)
                  · have hnt : (o = -1 ∨ op ≠ p) → (nhD (mS (sSx A x)) eb eo o p op) cur ≠ 0 := fun hF q => by
                      have hz := (nhD_0 (P := p) (OP := op) hm7 (k := cur) (by omega) (by omega) eb0 eb2 eo0 eo2 hone hF).mp q
                      have h1 := hib.mpr hz.1.symm
                      by_cases z : o = -1
                      · omega
                      · have h2 := (hio z).mpr (by rcases hz.2 with y | y; exact absurd y z; exact y.symm)
                        omega
                    exact join162_ hnt
                  · refine wi_a1 hc rfl rfl ?_
                    refine wi_i2 hc rfl rfl ?_
                    refine wi_i2 hc rfl rfl ?_
                    refine wi_i2 hc rfl rfl ?_
                    refine wp_cv (b := 598) (As := [.int (iI cur), .int (iI o), .int (iI op)]) (r := []) hc rfl (by rw [cm_268]; rfl) rfl (Nat.le_of_ble_eq_true rfl) (show 598 < 621 by decide) (by rw [cm_268]; rfl) (ev_mono (sp_268 (d := 0) hm7 hO_s4 rfl hM_s4 hL_s4 (n := cur) (b := o) (p := op) hqi.1.1 hqi.1.2 ho hop9) (by omega)) ?_
                    show mm_wp _ _ (151, [some (.ref 598), some (.int (iI x)), some (.int (iI b)), some (.int (iI p)), some (.int (iI o)), some (.int (iI op)), some (.int (iI (sKx A x))), some (.int (iI e)), some (.int (iI i)), some (.int (iI cur)), o10, o11], [.int (iI (bI (o = -1 ∨ elF (sSx A x) (dgI (mS (sSx A x)) cur op) = o)))], MX L t s4 l1_) _
                    refine wi_beq hc rfl (fun h9_ => ?_) (fun h9_ => ?_)
                    · have hnt : (o = -1 ∨ op ≠ p) → (nhD (mS (sSx A x)) eb eo o p op) cur ≠ 0 := fun hF q => by
                        have hz := (nhD_0 (P := p) (OP := op) hm7 (k := cur) (by omega) (by omega) eb0 eb2 eo0 eo2 hone hF).mp q
                        have h1 := hib.mpr hz.1.symm
                        by_cases z : o = -1
                        · omega
                        · have h2 := (hio z).mpr (by rcases hz.2 with y | y; exact absurd y z; exact y.symm)
                          omega
                      exact join162_ hnt
                    · refine wi_a1 hc rfl rfl ?_
                      refine wi_gr (w := 616) hc rfl rfl (by decide) (Nat.le_of_ble_eq_true rfl) rfl ?_
                      refine wi_i2 hc rfl rfl ?_
                      refine wi_ildv (N := 720) hc rfl rfl (by decide) (by decide) (by omega) (by omega) (v := tcur) (htc.symm) ?_
                      have hpb : poI (mS (sSx A x)) eb cur = p := (hib.mp (by omega)).symm
                      have hpo : o = -1 ∨ poI (mS (sSx A x)) eo cur = op := by
                        by_cases z : o = -1
                        · exact Or.inl z
                        · exact Or.inr ((hio z).mp (by omega)).symm
                      have hFF : (o = -1 ∨ op ≠ p) := by
                        by_cases z : o = -1
                        · exact Or.inl z
                        · refine Or.inr (fun q => ?_)
                          have hn := poI_ne hm7 (k := cur) (by omega) (by omega) eb0 eb2 eo0 eo2 (fun q => hone z q.symm)
                          omega
                      have hz0 := (nhD_0 (P := p) (OP := op) hm7 (k := cur) (by omega) (by omega) eb0 eb2 eo0 eo2 hone hFF).mpr ⟨hpb, hpo⟩
                      rw [hcur] at hz0
                      have hhit := BFs_hit hb4 hFF (by omega) (fun k => hD_nn _ _ _ _ _) (hw4 hFF) hz0
                      rw [← hcur, ← htc] at hhit
                      refine wi_ri hc rfl (by rw [cm_271]; rfl) ?_
                      have hpB := poI_sh hB hx9.1 hx9.2 (by omega) eb0 eb1 hebb (by omega) (by omega) (by omega)
                      have hR : nudP A x b p o op = tcur := by
                        rw [hhit]
                        unfold nhD nudP
                        rw [if_pos (by omega), hpB]
                        by_cases z : o = -1
                        · rw [if_pos z]
                          unfold hD
                          rw [if_pos z]
                        · have hoz := nuC_o hoc z
                          rw [if_neg z, if_pos (by omega), poI_sh hB hx9.1 hx9.2 (by omega) eo0 (by omega) (heo z).1 (by omega) (by omega) (by omega)]
                      rw [hR]
                      exact ⟨s4, l1_, rfl, fun c hc9_ => (hF4 c (by omega)).trans (hF1_ c (by omega)), fun c hc9_ => hG1_ c (by omega), fun k a b => (congrFun (hF4 598 (by decide)) k).trans (hk1_ k a b), hJ_s4⟩
              have hq9 : s3_ 615 0 = sKx A x := by rw [es3_, up_ite, if_pos rfl]
              have ht9 : ∀ v, 0 ≤ v → v < ((fct (mS (sSx A x)) : Nat) : Int) → s3_ 616 v = if v = sKx A x then 0 else -1 := fun v v0 v1 => by
                rw [es3_, congrFun (up_cc (by decide)) v, es2_, up_ite]
                by_cases z9 : v = sKx A x
                · rw [if_pos z9, if_pos z9]
                · rw [if_neg z9, if_neg z9]; exact hw3 v v0 (by omega)
              have hbs := BFs_start (h := (nhD (mS (sSx A x)) eb eo o p op)) (F := (o = -1 ∨ op ≠ p)) hk0.1 hk0.2 hq9 ht9
              exact loop114_ 0 (by omega) (by omega) _ _ _ _ s3_ (fun c hc9_ => ((congrFun es3_ c).trans (up_cc (by omega))).trans (((congrFun es2_ c).trans (up_cc (by omega))).trans (hF3 c (by omega)))) hbs.1 (fun _ => hbs.2)
            · refine wi_a1 hc rfl rfl ?_
              refine wi_gr (w := 616) hc rfl rfl (by decide) (Nat.le_of_ble_eq_true rfl) rfl ?_
              refine wi_i2 hc rfl rfl ?_
              refine wi_ic hc rfl ?_
              refine wi_ist (N := 720) hc rfl rfl (by decide) (by decide) (by omega) (by omega) ?_
              obtain ⟨s7_, es7_⟩ : ∃ q, q = up s3 616 k (-1) := ⟨_, rfl⟩
              rw [← es7_]
              refine wi_inc (L' := [some (.ref 598), some (.int (iI x)), some (.int (iI b)), some (.int (iI p)), some (.int (iI o)), some (.int (iI op)), some (.int (iI (sKx A x))), some (.int (iI (k + 1))), none, none, none, none]) hc rfl rfl rfl ?_
              refine wi_go hc rfl ?_
              refine ih (by omega) (by omega) s7_ (fun c hc9_ => ((congrFun es7_ c).trans (up_cc (by omega))).trans (hF3 c (by omega))) (fun v v0 v1 => ?_)
              rw [es7_, up_ite]
              by_cases z9 : v = k
              · rw [if_pos z9]
              · rw [if_neg z9]; exact hw3 v v0 (by omega)
          exact loop69_ 0 (by omega) (by omega) s1_ (fun c _ => rfl) (fun v v0 v1 => by omega)
        refine wi_i2 hc rfl rfl ?_
        refine wi_ic hc rfl ?_
        refine wi_ceq hc rfl ho ⟨by decide, by decide⟩ (fun h10_ => ?_) (fun h10_ => ?_)
        · exact join59_ (by unfold nuC; omega)
        · refine wi_i2 hc rfl rfl ?_
          refine wi_i1 hc rfl rfl ?_
          refine wi_ceq hc rfl ho hb (fun h11_ => ?_) (fun h11_ => ?_)
          · refine wi_ic hc rfl ?_
            refine wi_ri hc rfl (by rw [cm_271]; rfl) ?_
            have hR : nudP A x b p o op = -1 := by
              unfold nudP
              (repeat' split) <;> omega
            rw [hR]
            exact ⟨s, l, rfl, fun c _ => rfl, fun c _ => rfl, fun k _ _ => rfl, hJ⟩
          · refine wi_a1 hc rfl rfl ?_
            refine wi_i2 hc rfl rfl ?_
            refine wi_i1 hc rfl rfl ?_
            refine wi_i2 hc rfl rfl ?_
            refine wp_cv (b := 598) (As := [.int (iI o), .int (iI x), .int (iI op)]) (r := []) hc rfl (by rw [cm_270]; rfl) rfl (Nat.le_of_ble_eq_true rfl) (show 598 < 621 by decide) (by rw [cm_270]; rfl) (ev_mono (sp_270 (d := 0) hJ hK (b := o) (x := x) (p := op) ho (by omega) hop) (by omega)) ?_
            show mm_wp _ _ (54, [some (.ref 598), some (.int (iI x)), some (.int (iI b)), some (.int (iI p)), some (.int (iI o)), some (.int (iI op)), none, none, none, none, none, none], [.int (iI (bI (((0 ≤ o ∧ o < A 0) ∧ A (46 + 6 * o + 5) = x) ∧ (0 ≤ op ∧ op < A (13 + x)))))], MX L t s l) _
            refine wi_bne hc rfl (fun h12_ => ?_) (fun h12_ => ?_)
            · exact join59_ (by unfold nuC; omega)
            · refine wi_ic hc rfl ?_
              refine wi_ri hc rfl (by rw [cm_271]; rfl) ?_
              have hR : nudP A x b p o op = -1 := by
                unfold nudP
                (repeat' split) <;> omega
              rw [hR]
              exact ⟨s, l, rfl, fun c _ => rfl, fun c _ => rfl, fun k _ _ => rfl, hJ⟩
      · refine wi_ic hc rfl ?_
        refine wi_ri hc rfl (by rw [cm_271]; rfl) ?_
        have hR : nudP A x b p o op = -1 := by
          unfold nudP
          (repeat' split) <;> omega
        rw [hR]
        exact ⟨s, l, rfl, fun c _ => rfl, fun c _ => rfl, fun k _ _ => rfl, hJ⟩
