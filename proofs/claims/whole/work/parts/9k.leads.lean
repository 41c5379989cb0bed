/-! The model's leads and sets. -/
theorem OM.of {m : Nat} {s s1 : Nat → Int → Int} (h : OM m s) (e1 : s1 598 = s 598) (e2 : s1 610 = s 610) : OM m s1 := by
  unfold OM
  rw [e1, e2]
  exact h
theorem EM.of {S : Int} {m : Nat} {s s1 : Nat → Int → Int} (h : EM S m s) (e : s1 613 = s 613) : EM S m s1 := by
  unfold EM
  rw [e]
  exact h
theorem LM.of {c : Int → Int → Int} {S : Int} {m : Nat} {s s1 : Nat → Int → Int} (h : LM c S m s) (e1 : s1 611 = s 611) (e2 : s1 612 = s 612) : LM c S m s1 := by
  unfold LM
  rw [e1, e2]
  exact h
theorem blN_s (S n : Nat) : blN S (n + 1) = blN S n ++ (if S / 2 ^ n % 2 = 1 then [n] else []) := by
  unfold blN
  rw [List.range_succ, List.filter_append]
  congr 1
  by_cases c : S / 2 ^ n % 2 = 1
  · rw [if_pos c, List.filter_cons_of_pos (by rw [c]; rfl), List.filter_nil]
  · rw [if_neg c, List.filter_cons_of_neg (by simpa using c), List.filter_nil]
theorem blN_le (S n : Nat) : (blN S n).length ≤ n := by
  have := List.length_filter_le (fun b => S / 2 ^ b % 2 == 1) (List.range n)
  rw [List.length_range] at this
  exact this
theorem blN_low {S : Int} {n : Nat} (h0 : 0 ≤ S) (h1 : S < 2 ^ n) : ∀ k : Nat, blN S.toNat (n + k) = blN S.toNat n
  | 0 => rfl
  | k + 1 => by
    rw [← Nat.add_assoc, blN_s, blN_low h0 h1 k, if_neg, List.append_nil]
    intro q
    have h2 : S / 2 ^ (n + k) % 2 = 1 := by
      rw [show S = ((S.toNat : Nat) : Int) by omega, p2c, dvc]
      exact_mod_cast q
    have := set_bit h0 h1 h2
    omega
theorem blN_10 {S : Int} {a : Int} (ha0 : 0 ≤ a) (ha1 : a ≤ 10) (h0 : 0 ≤ S) (h1 : S < 2 ^ a.toNat) : blN S.toNat 10 = blN S.toNat a.toNat := by
  have := blN_low h0 h1 (10 - a.toNat)
  rwa [show a.toNat + (10 - a.toNat) = 10 by omega] at this
theorem getD_app1 {l : List Nat} {x e : Nat} (h : e < l.length) : (l ++ [x]).getD e 0 = l.getD e 0 := by
  rw [List.getD_eq_getElem?_getD, List.getD_eq_getElem?_getD, List.getElem?_append_left h]
theorem getD_app2 {l : List Nat} {x : Nat} : (l ++ [x]).getD l.length 0 = x := by
  rw [List.getD_eq_getElem?_getD, List.getElem?_append_right (Nat.le_refl _), Nat.sub_self]
  rfl
theorem clN_nat {c : Int → Int → Int} {f : Int → Int} {p : Int} (p0 : 0 ≤ p) : clN c f (p + 1).toNat = if c (f p) (f (p + 1)) = 1 then 0 else clN c f p.toNat := clN_s p0
def lnB (S b : Int) : Int := (((blN S.toNat b.toNat).length : Nat) : Int)
theorem lnB_r {S b : Int} (b0 : 0 ≤ b) : 0 ≤ lnB S b ∧ lnB S b ≤ b := by
  have := blN_le S.toNat b.toNat
  unfold lnB
  omega
theorem bitS {S b : Int} (h0 : 0 ≤ S) (b0 : 0 ≤ b) : S / 2 ^ b.toNat % 2 = 1 ↔ S.toNat / 2 ^ b.toNat % 2 = 1 := by
  have := bit_cast (u := S.toNat) (e := b)
  rwa [show ((S.toNat : Nat) : Int) = S by omega] at this
theorem lnB_s {S b : Int} (h0 : 0 ≤ S) (b0 : 0 ≤ b) : lnB S (b + 1) = lnB S b + (if S / 2 ^ b.toNat % 2 = 1 then 1 else 0) := by
  unfold lnB
  rw [show (b + 1).toNat = b.toNat + 1 by omega, blN_s, List.length_append]
  by_cases c : S / 2 ^ b.toNat % 2 = 1
  · rw [if_pos c, if_pos ((bitS h0 b0).mp c)]
    simp only [List.length_cons, List.length_nil]
    omega
  · rw [if_neg c, if_neg (fun q => c ((bitS h0 b0).mpr q))]
    simp only [List.length_nil]
    omega
/-- the first books of a set lie there -/
def ElB (S b : Int) (g : Int → Int) : Prop := ∀ e, 0 ≤ e → e < lnB S b → g e = (((blN S.toNat b.toNat).getD e.toNat 0 : Nat) : Int)
theorem ElB.no {S b : Int} {g : Int → Int} (h : ElB S b g) (h0 : 0 ≤ S) (b0 : 0 ≤ b) (c : ¬ S / 2 ^ b.toNat % 2 = 1) : ElB S (b + 1) g := by
  intro e e0 e1
  rw [lnB_s h0 b0, if_neg c] at e1
  rw [h e e0 (by omega), show (b + 1).toNat = b.toNat + 1 by omega, blN_s, if_neg (fun q => c ((bitS h0 b0).mpr q)), List.append_nil]
theorem ElB.yes {S b : Int} {g g' : Int → Int} (h : ElB S b g) (h0 : 0 ≤ S) (b0 : 0 ≤ b) (c : S / 2 ^ b.toNat % 2 = 1) (hg : ∀ e, g' e = if e = lnB S b then b else g e) : ElB S (b + 1) g' := by
  intro e e0 e1
  rw [lnB_s h0 b0, if_pos c] at e1
  rw [hg, show (b + 1).toNat = b.toNat + 1 by omega, blN_s, if_pos ((bitS h0 b0).mp c)]
  by_cases q : e = lnB S b
  · rw [if_pos q]
    have : e.toNat = (blN S.toNat b.toNat).length := by unfold lnB at q; omega
    rw [this, getD_app2]
    omega
  · rw [if_neg q, getD_app1 (by unfold lnB at q e1; omega)]
    exact h e e0 (by omega)
theorem sp_254 {d L t : Nat} {s l : Nat → Int → Int} {c : Int → Int → Int} {S N : Int} {m : Nat} (m7 : m < 7) (hO : OM m s) (hE : EM S m s) (hC : CHm s c N) (h01 : ∀ x y, c x y = 0 ∨ c x y = 1) (hel : ∀ e, 0 ≤ e → e < (m : Int) → 0 ≤ elF S e ∧ elF S e < N) (N1 : N ≤ 10) : ∃ s1, mm_Ev mm_ct mm_CM (d + 2) 254 [.ref 598] (MX L t s l) (none, MX L t s1 l) ∧ (∀ c, c ≠ 611 ∧ c ≠ 612 ∧ c ≠ 614 → s1 c = s c) ∧ LM c S m s1 := by
  have hc : (mm_CM 254).2.2.2.2.2.2.2 = mm_cf cd_254 := by rw [cm_254]; rfl
  refine ev_xs ?_
  refine ev_to (mx := 4) (by rw [cm_254]; decide) (by rw [cm_254]; rfl) (by show 1 ≤ _; decide) ?_
  show mm_wp _ _ (0, [some (.ref 598), none, none, none], [], MX L t s l) (fun res => ∃ s1, res = (none, MX L t s1 l) ∧ (∀ c, c ≠ 611 ∧ c ≠ 612 ∧ c ≠ 614 → s1 c = s c) ∧ LM c S m s1)
  have hfm := fct_r m
  refine wi_ic hc rfl ?_
  refine wi_is1 (L' := [some (.ref 598), some (.int (iI 0)), none, none]) hc rfl (Nat.le_of_ble_eq_true rfl) rfl ?_
  have loop2_ : ∀ n : Int, n ≤ ((fct m : Nat) : Int) → 0 ≤ n → ∀ (o2 o3 : Option Value) (s2 : Nat → Int → Int), (∀ c, c ≠ 611 ∧ c ≠ 612 ∧ c ≠ 614 → s2 c = s c) → (∀ n9 k9, 0 ≤ n9 → 0 ≤ k9 → k9 ≤ 1 → (n9 < n ∨ n9 = n ∧ k9 < 0) → s2 611 (2 * n9 + k9) = rkI m (nF (cE c S) m k9 (dgI m n9))) → (∀ n9, 0 ≤ n9 → n9 < n → s2 612 n9 = cmO c S m n9) → mm_wp (mm_Ev mm_ct mm_CM (d + 1)) 254 (2, [some (.ref 598), some (.int (iI n)), o2, o3], [], MX L t s2 l) (fun res => ∃ s1, res = (none, MX L t s1 l) ∧ (∀ c, c ≠ 611 ∧ c ≠ 612 ∧ c ≠ 614 → s1 c = s c) ∧ LM c S m s1) := by
    refine up_ind ?_
    intro n hn9 ihn n0 o2 o3 s2 hF2 hT2 hU2
    have hO2 : OM m s2 := hO.of (hF2 598 (by decide)) (hF2 610 (by decide))
    refine wi_i1 hc rfl rfl ?_
    refine wi_a1 hc rfl rfl ?_
    refine wi_gfv (kz := 35) rfl hc rfl rfl (by decide) (Nat.le_of_ble_eq_true rfl) rfl (v := ((fct m : Nat) : Int)) (hO2.2.1) ?_
    refine wi_cge hc rfl ⟨by omega, by omega⟩ ⟨by omega, by omega⟩ (fun h1_ => ?_) (fun h1_ => ?_)
    · refine wi_rv hc rfl (by rw [cm_254]; rfl) ?_
      exact ⟨s2, rfl, hF2, fun n9 k9 a b d e => hT2 n9 k9 a d e (by omega), fun n9 a b => hU2 n9 a (by omega)⟩
    · have hdg := dg_ok m7 n0 (by omega : n < ((fct m : Nat) : Int))
      refine wi_ic hc rfl ?_
      refine wi_is1 (L' := [some (.ref 598), some (.int (iI n)), some (.int (iI 0)), o3]) hc rfl (Nat.le_of_ble_eq_true rfl) rfl ?_
      have loop12_ : ∀ k : Int, k ≤ 2 → 0 ≤ k → ∀ (o3 : Option Value) (s3 : Nat → Int → Int), (∀ c, c ≠ 611 ∧ c ≠ 612 ∧ c ≠ 614 → s3 c = s c) → (∀ n9 k9, 0 ≤ n9 → 0 ≤ k9 → k9 ≤ 1 → (n9 < n ∨ n9 = n ∧ k9 < k) → s3 611 (2 * n9 + k9) = rkI m (nF (cE c S) m k9 (dgI m n9))) → (∀ n9, 0 ≤ n9 → n9 < n → s3 612 n9 = cmO c S m n9) → mm_wp (mm_Ev mm_ct mm_CM (d + 1)) 254 (12, [some (.ref 598), some (.int (iI n)), some (.int (iI k)), o3], [], MX L t s3 l) (fun res => ∃ s1, res = (none, MX L t s1 l) ∧ (∀ c, c ≠ 611 ∧ c ≠ 612 ∧ c ≠ 614 → s1 c = s c) ∧ LM c S m s1) := by
        refine up_ind ?_
        intro k hk9 ihk k0 o3 s3 hF3 hT3 hU3
        have hO3 : OM m s3 := hO.of (hF3 598 (by decide)) (hF3 610 (by decide))
        refine wi_i1 hc rfl rfl ?_
        refine wi_ic hc rfl ?_
        refine wi_cge hc rfl ⟨by omega, by omega⟩ ⟨by decide, by decide⟩ (fun h2_ => ?_) (fun h2_ => ?_)
        · refine wi_a1 hc rfl rfl ?_
          refine wi_i1 hc rfl rfl ?_
          have hOt : OM m s3 := hO.of (hF3 598 (by decide)) (hF3 610 (by decide))
          have hEt : EM S m s3 := hE.of (hF3 613 (by decide))
          have hCt : CHm s3 c N := hC.of (hF3 607 (by decide))
          obtain ⟨s1_, hE1_, hF1_, hw1_⟩ := sp_250 (d := 0) (L := L) (t := t) (s := s3) (l := l) (f := dgI m n) m7 n0 (by omega) hOt.1 (fun p p0 p1 => hOt.2.2 n p n0 (by omega) p0 p1)
          refine wp_cv (b := 598) (As := [.int (iI n)]) (r := []) hc rfl (by rw [cm_250]; rfl) rfl (Nat.le_of_ble_eq_true rfl) (show 598 < 621 by decide) (by rw [cm_250]; rfl) (ev_mono hE1_ (by omega)) ?_
          have hOu : OM m s1_ := hO.of ((hF1_ 598 (by decide)).trans (hF3 598 (by decide))) ((hF1_ 610 (by decide)).trans (hF3 610 (by decide)))
          have hEu : EM S m s1_ := hE.of ((hF1_ 613 (by decide)).trans (hF3 613 (by decide)))
          have hCu : CHm s1_ c N := hC.of ((hF1_ 607 (by decide)).trans (hF3 607 (by decide)))
          show mm_wp _ _ (78, [some (.ref 598), some (.int (iI n)), some (.int (iI k)), o3], [], MX L t s1_ l) _
          refine wi_a1 hc rfl rfl ?_
          refine wi_gr (w := 612) hc rfl rfl (by decide) (Nat.le_of_ble_eq_true rfl) rfl ?_
          refine wi_i1 hc rfl rfl ?_
          refine wi_ic hc rfl ?_
          refine wi_bst (N := 720) hc rfl rfl (by decide) (by decide) (by omega) (by omega) (by omega) ?_
          obtain ⟨s2_, es2_⟩ : ∃ q, q = up s1_ 612 n 1 := ⟨_, rfl⟩
          rw [← es2_]
          refine wi_ic hc rfl ?_
          refine wi_is1 (L' := [some (.ref 598), some (.int (iI n)), some (.int (iI 0)), o3]) hc rfl (Nat.le_of_ble_eq_true rfl) rfl ?_
          have loop87_ : ∀ p : Int, p ≤ (m : Int) → 0 ≤ p → (p = 0 ∨ p + 1 ≤ (m : Int)) → ∀ s7 : Nat → Int → Int, (∀ c, c ≠ 612 → s7 c = s2_ c) → s7 612 n = clN (cE c S) (dgI m n) p.toNat → (∀ n9, n9 ≠ n → s7 612 n9 = s3 612 n9) → mm_wp (mm_Ev mm_ct mm_CM (d + 1)) 254 (87, [some (.ref 598), some (.int (iI n)), some (.int (iI p)), o3], [], MX L t s7 l) (fun res => ∃ s1, res = (none, MX L t s1 l) ∧ (∀ c, c ≠ 611 ∧ c ≠ 612 ∧ c ≠ 614 → s1 c = s c) ∧ LM c S m s1) := by
            refine up_ind ?_
            intro p hp9 ihp p0 p1 s7 hF7 hc7 hd7
            have hcl := clN_01 (cE c S) (dgI m n) p.toNat
            have hO7 : OM m s7 := hOu.of ((hF7 598 (by decide)).trans ((congrFun es2_ 598).trans (up_cc (by decide)))) ((hF7 610 (by decide)).trans ((congrFun es2_ 610).trans (up_cc (by decide))))
            have hE7 : EM S m s7 := hEu.of ((hF7 613 (by decide)).trans ((congrFun es2_ 613).trans (up_cc (by decide))))
            have hC7 : CHm s7 c N := hCu.of ((hF7 607 (by decide)).trans ((congrFun es2_ 607).trans (up_cc (by decide))))
            have hw7 : ∀ q, 0 ≤ q → q < (m : Int) → s7 614 q = dgI m n q := fun q q0 q1 => (congrFun ((hF7 614 (by decide)).trans ((congrFun es2_ 614).trans (up_cc (by decide)))) q).trans (hw1_ q q0 q1)
            refine wi_i1 hc rfl rfl ?_
            refine wi_ic hc rfl ?_
            refine wi_add hc rfl ?_
            refine wi_a1 hc rfl rfl ?_
            refine wi_gfv (kz := 34) rfl hc rfl rfl (by decide) (Nat.le_of_ble_eq_true rfl) rfl (v := (m : Int)) (hO7.1) ?_
            refine wi_cge hc rfl ⟨by omega, by omega⟩ ⟨by omega, by omega⟩ (fun h3_ => ?_) (fun h3_ => ?_)
            · refine wi_inc (L' := [some (.ref 598), some (.int (iI (n + 1))), some (.int (iI p)), o3]) hc rfl rfl rfl ?_
              refine wi_go hc rfl ?_
              refine ihn (by omega) (by omega) _ _ s7 (fun c9 hc9 => (hF7 c9 (by omega)).trans (((congrFun es2_ c9).trans (up_cc (by omega))).trans ((hF1_ c9 (by omega)).trans (hF3 c9 (by omega))))) (fun n9 k9 a b d q => ?_) (fun n9 a b => ?_)
              · rw [show s7 611 = s3 611 from (hF7 611 (by decide)).trans (((congrFun es2_ 611).trans (up_cc (by decide))).trans (hF1_ 611 (by decide)))]
                exact hT3 n9 k9 a b d (by omega)
              · by_cases z9 : n9 = n
                · rw [z9, hc7, show p.toNat = m - 1 by omega]
                  rfl
                · rw [hd7 n9 z9]
                  exact hU3 n9 a (by omega)
            · refine wi_a1 hc rfl rfl ?_
              refine wi_gr (w := 612) hc rfl rfl (by decide) (Nat.le_of_ble_eq_true rfl) rfl ?_
              refine wi_i1 hc rfl rfl ?_
              refine wi_a1 hc rfl rfl ?_
              refine wi_gr (w := 612) hc rfl rfl (by decide) (Nat.le_of_ble_eq_true rfl) rfl ?_
              refine wi_i1 hc rfl rfl ?_
              refine wi_bldv (N := 720) hc rfl rfl (by decide) (by decide) (by omega) (by omega) (v := clN (cE c S) (dgI m n) p.toNat) (hc7) ?_
              refine wi_zeq hc rfl ⟨by omega, by omega⟩ (fun h4_ => ?_) (fun h4_ => ?_)
              · refine wi_ic hc rfl ?_
                refine wi_bst (N := 720) hc rfl rfl (by decide) (by decide) (by omega) (by omega) (by omega) ?_
                obtain ⟨s3_, es3_⟩ : ∃ q, q = up s7 612 n 0 := ⟨_, rfl⟩
                rw [← es3_]
                refine wi_inc (L' := [some (.ref 598), some (.int (iI n)), some (.int (iI (p + 1))), o3]) hc rfl rfl rfl ?_
                refine wi_go hc rfl ?_
                refine ihp (by omega) (by omega) (by omega) s3_ (fun c9 hc9 => ((congrFun es3_ c9).trans (up_cc (by omega))).trans (hF7 c9 hc9)) ?_ (fun n9 hn9 => by rw [es3_, up_ite, if_neg hn9]; exact hd7 n9 hn9)
                rw [es3_, up_at, clN_nat p0]
                by_cases z9 : cE c S (dgI m n p) (dgI m n (p + 1)) = 1
                · rw [if_pos z9]
                · rw [if_neg z9]; omega
              · refine wi_a1 hc rfl rfl ?_
                refine wi_i1 hc rfl rfl ?_
                refine wp_cv (b := 598) (As := [.int (iI p)]) (r := [.int (iI n), .ref 612]) hc rfl (by rw [cm_252]; rfl) rfl (Nat.le_of_ble_eq_true rfl) (show 598 < 621 by decide) (by rw [cm_252]; rfl) (ev_mono (sp_252 (d := 0) (f := dgI m n) m7 hw7 hdg.1 hO7.1 h01 hC7 hE7 hel N1 (p := p) (by omega) (by omega)) (by omega)) ?_
                have h9_ := cE_01 h01 S (dgI m n p) (dgI m n (p + 1))
                show mm_wp _ _ (116, [some (.ref 598), some (.int (iI n)), some (.int (iI p)), o3], [.int (iI (cE c S (dgI m n p) (dgI m n (p + 1)))), .int (iI n), .ref 612], MX L t s7 l) _
                refine wi_zne hc rfl ⟨by omega, by omega⟩ (fun h5_ => ?_) (fun h5_ => ?_)
                · refine wi_ic hc rfl ?_
                  refine wi_bst (N := 720) hc rfl rfl (by decide) (by decide) (by omega) (by omega) (by omega) ?_
                  obtain ⟨s4_, es4_⟩ : ∃ q, q = up s7 612 n 0 := ⟨_, rfl⟩
                  rw [← es4_]
                  refine wi_inc (L' := [some (.ref 598), some (.int (iI n)), some (.int (iI (p + 1))), o3]) hc rfl rfl rfl ?_
                  refine wi_go hc rfl ?_
                  refine ihp (by omega) (by omega) (by omega) s4_ (fun c9 hc9 => ((congrFun es4_ c9).trans (up_cc (by omega))).trans (hF7 c9 hc9)) ?_ (fun n9 hn9 => by rw [es4_, up_ite, if_neg hn9]; exact hd7 n9 hn9)
                  rw [es4_, up_at, clN_nat p0]
                  by_cases z9 : cE c S (dgI m n p) (dgI m n (p + 1)) = 1
                  · rw [if_pos z9]
                  · rw [if_neg z9]; omega
                · refine wi_ic hc rfl ?_
                  refine wi_go hc rfl ?_
                  refine wi_bst (N := 720) hc rfl rfl (by decide) (by decide) (by omega) (by omega) (by omega) ?_
                  obtain ⟨s5_, es5_⟩ : ∃ q, q = up s7 612 n 1 := ⟨_, rfl⟩
                  rw [← es5_]
                  refine wi_inc (L' := [some (.ref 598), some (.int (iI n)), some (.int (iI (p + 1))), o3]) hc rfl rfl rfl ?_
                  refine wi_go hc rfl ?_
                  refine ihp (by omega) (by omega) (by omega) s5_ (fun c9 hc9 => ((congrFun es5_ c9).trans (up_cc (by omega))).trans (hF7 c9 hc9)) ?_ (fun n9 hn9 => by rw [es5_, up_ite, if_neg hn9]; exact hd7 n9 hn9)
                  rw [es5_, up_at, clN_nat p0]
                  rw [if_neg (by omega)]
                  omega
          refine loop87_ 0 (by omega) (by omega) (by omega) s2_ (fun c _ => rfl) (by rw [es2_, up_at]; rfl) (fun n9 hn9 => ?_)
          rw [es2_, up_ite, if_neg hn9]
          exact congrFun (hF1_ 612 (by decide)) n9
        · refine wi_a1 hc rfl rfl ?_
          refine wi_i1 hc rfl rfl ?_
          have hOt : OM m s3 := hO.of (hF3 598 (by decide)) (hF3 610 (by decide))
          have hEt : EM S m s3 := hE.of (hF3 613 (by decide))
          have hCt : CHm s3 c N := hC.of (hF3 607 (by decide))
          obtain ⟨s6_, hE6_, hF6_, hw6_⟩ := sp_250 (d := 0) (L := L) (t := t) (s := s3) (l := l) (f := dgI m n) m7 n0 (by omega) hOt.1 (fun p p0 p1 => hOt.2.2 n p n0 (by omega) p0 p1)
          refine wp_cv (b := 598) (As := [.int (iI n)]) (r := []) hc rfl (by rw [cm_250]; rfl) rfl (Nat.le_of_ble_eq_true rfl) (show 598 < 621 by decide) (by rw [cm_250]; rfl) (ev_mono hE6_ (by omega)) ?_
          have hOu : OM m s6_ := hO.of ((hF6_ 598 (by decide)).trans (hF3 598 (by decide))) ((hF6_ 610 (by decide)).trans (hF3 610 (by decide)))
          have hEu : EM S m s6_ := hE.of ((hF6_ 613 (by decide)).trans (hF3 613 (by decide)))
          have hCu : CHm s6_ c N := hC.of ((hF6_ 607 (by decide)).trans (hF3 607 (by decide)))
          show mm_wp _ _ (22, [some (.ref 598), some (.int (iI n)), some (.int (iI k)), o3], [], MX L t s6_ l) _
          refine wi_i1 hc rfl rfl ?_
          refine wi_is1 (L' := [some (.ref 598), some (.int (iI n)), some (.int (iI k)), some (.int (iI k))]) hc rfl (Nat.le_of_ble_eq_true rfl) rfl ?_
          have loop24_ : ∀ p : Int, p ≤ (m : Int) + 1 → k ≤ p → (p - k) % 2 = 0 → (p = k ∨ p ≤ (m : Int)) → ∀ s5 : Nat → Int → Int, (∀ c, c ≠ 614 → s5 c = s6_ c) → (∀ q, 0 ≤ q → q < (m : Int) → s5 614 q = nwP (cE c S) k p (dgI m n) q) → mm_wp (mm_Ev mm_ct mm_CM (d + 1)) 254 (24, [some (.ref 598), some (.int (iI n)), some (.int (iI k)), some (.int (iI p))], [], MX L t s5 l) (fun res => ∃ s1, res = (none, MX L t s1 l) ∧ (∀ c, c ≠ 611 ∧ c ≠ 612 ∧ c ≠ 614 → s1 c = s c) ∧ LM c S m s1) := by
            refine up_ind2 ?_
            intro p hp9 ihp i0 i1 i2 s5 hF5 hw5
            have hO5 : OM m s5 := hOu.of (hF5 598 (by decide)) (hF5 610 (by decide))
            have hE5 : EM S m s5 := hEu.of (hF5 613 (by decide))
            have hC5 : CHm s5 c N := hCu.of (hF5 607 (by decide))
            have hr5 : ∀ q, 0 ≤ q → q < (m : Int) → 0 ≤ nwP (cE c S) k p (dgI m n) q ∧ nwP (cE c S) k p (dgI m n) q < m := nwP_all (P := fun v => 0 ≤ v ∧ v < (m : Int)) hdg.1 (by omega) i1 i2
            refine wi_i1 hc rfl rfl ?_
            refine wi_ic hc rfl ?_
            refine wi_add hc rfl ?_
            refine wi_a1 hc rfl rfl ?_
            refine wi_gfv (kz := 34) rfl hc rfl rfl (by decide) (Nat.le_of_ble_eq_true rfl) rfl (v := (m : Int)) (hO5.1) ?_
            refine wi_cge hc rfl ⟨by omega, by omega⟩ ⟨by omega, by omega⟩ (fun h6_ => ?_) (fun h6_ => ?_)
            · refine wi_a1 hc rfl rfl ?_
              refine wi_gr (w := 611) hc rfl rfl (by decide) (Nat.le_of_ble_eq_true rfl) rfl ?_
              refine wi_ic hc rfl ?_
              refine wi_i1 hc rfl rfl ?_
              refine wi_mul hc rfl ?_
              refine wi_i1 hc rfl rfl ?_
              refine wi_add hc rfl ?_
              refine wi_a1 hc rfl rfl ?_
              have hrke : rkI m (nwP (cE c S) k p (dgI m n)) = rkI m (nF (cE c S) m k (dgI m n)) := rkI_congr (fun q q0 q1 => nF_end i1 (by omega) i2 q1)
              refine wp_cv (b := 598) (As := []) (r := [.int (iI ((2 * n) + k)), .ref 611]) hc rfl (by rw [cm_249]; rfl) rfl (Nat.le_of_ble_eq_true rfl) (show 598 < 621 by decide) (by rw [cm_249]; rfl) (ev_mono (by have h := sp_249 (d := 0) (L := L) (t := t) (s := s5) (l := l) (f := nwP (cE c S) k p (dgI m n)) m7 hw5 hr5 hO5.1; rw [hrke] at h; exact h) (by omega)) ?_
              show mm_wp _ _ (66, [some (.ref 598), some (.int (iI n)), some (.int (iI k)), some (.int (iI p))], [.int (iI (rkI m (nF (cE c S) m k (dgI m n)))), .int (iI ((2 * n) + k)), .ref 611], MX L t s5 l) _
              refine wi_ist (N := 1440) hc rfl rfl (by decide) (by decide) (by omega) (by omega) ?_
              obtain ⟨s7_, es7_⟩ : ∃ q, q = up s5 611 ((2 * n) + k) (rkI m (nF (cE c S) m k (dgI m n))) := ⟨_, rfl⟩
              rw [← es7_]
              refine wi_inc (L' := [some (.ref 598), some (.int (iI n)), some (.int (iI (k + 1))), some (.int (iI p))]) hc rfl rfl rfl ?_
              refine wi_go hc rfl ?_
              refine ihk (by omega) (by omega) _ s7_ (fun c hc9_ => ((congrFun es7_ c).trans (up_cc (by omega))).trans ((hF5 c (by omega)).trans ((hF6_ c (by omega)).trans (hF3 c (by omega))))) (fun n9 k9 a b d q => ?_) (fun n9 a b => (congrFun (congrFun es7_ 612) _).trans ((congrFun (up_cc (by decide)) _).trans ((congrFun ((hF5 612 (by decide)).trans (hF6_ 612 (by decide))) _).trans (hU3 n9 a b))))
              rw [es7_, up_ite]
              by_cases z9 : n9 = n ∧ k9 = k
              · rw [if_pos (by omega), z9.1, z9.2]
              · rw [if_neg (by omega), show s5 611 = s3 611 from (hF5 611 (by decide)).trans (hF6_ 611 (by decide))]
                exact hT3 n9 k9 a b d (by omega)
            · refine wi_a1 hc rfl rfl ?_
              refine wi_i1 hc rfl rfl ?_
              have hnp := nwP_at (c := cE c S) (f := dgI m n) (Int.le_refl p) i1
              have hnq := nwP_at (c := cE c S) (f := dgI m n) (show p ≤ p + 1 by omega) i1
              refine wp_cv (b := 598) (As := [.int (iI p)]) (r := []) hc rfl (by rw [cm_252]; rfl) rfl (Nat.le_of_ble_eq_true rfl) (show 598 < 621 by decide) (by rw [cm_252]; rfl) (ev_mono (by have h := sp_252 (d := 0) (L := L) (t := t) (s := s5) (l := l) (f := nwP (cE c S) k p (dgI m n)) m7 hw5 hr5 hO5.1 h01 hC5 hE5 hel N1 (p := p) (by omega) (by omega); rw [hnp, hnq] at h; exact h) (by omega)) ?_
              have h9_ := cE_01 h01 S (dgI m n p) (dgI m n (p + 1))
              show mm_wp _ _ (39, [some (.ref 598), some (.int (iI n)), some (.int (iI k)), some (.int (iI p))], [.int (iI (cE c S (dgI m n p) (dgI m n (p + 1))))], MX L t s5 l) _
              refine wi_zeq hc rfl ⟨by omega, by omega⟩ (fun h7_ => ?_) (fun h7_ => ?_)
              · refine wi_inc (L' := [some (.ref 598), some (.int (iI n)), some (.int (iI k)), some (.int (iI (p + 2)))]) hc rfl rfl rfl ?_
                refine wi_go hc rfl ?_
                exact ihp (by omega) (by omega) (by omega) (by omega) s5 hF5 (fun q q0 q1 => by rw [hw5 q q0 q1, nwP_step i0 i1, if_neg (by omega)])
              · refine wi_a1 hc rfl rfl ?_
                refine wi_i1 hc rfl rfl ?_
                obtain ⟨s8_, hE8_, hF8_, hp8_⟩ := sp_251 (d := 0) (L := L) (t := t) (s := s5) (l := l) (i := p) (by omega) (by omega)
                refine wp_cv (b := 598) (As := [.int (iI p)]) (r := []) hc rfl (by rw [cm_251]; rfl) rfl (Nat.le_of_ble_eq_true rfl) (show 598 < 621 by decide) (by rw [cm_251]; rfl) (ev_mono hE8_ (by omega)) ?_
                show mm_wp _ _ (47, [some (.ref 598), some (.int (iI n)), some (.int (iI k)), some (.int (iI p))], [], MX L t s8_ l) _
                refine wi_inc (L' := [some (.ref 598), some (.int (iI n)), some (.int (iI k)), some (.int (iI (p + 2)))]) hc rfl rfl rfl ?_
                refine wi_go hc rfl ?_
                exact ihp (by omega) (by omega) (by omega) (by omega) s8_ (fun c9 hc9 => (hF8_ c9 hc9).trans (hF5 c9 hc9)) (fun q q0 q1 => nwP_sw i0 i1 (by omega) (by omega) hw5 hp8_ (by omega) q0 q1)
          exact loop24_ k (by omega) (by omega) (by omega) (by omega) s6_ (fun c _ => rfl) (fun q q0 q1 => by rw [nwP_0]; exact hw6_ q q0 q1)
      exact loop12_ 0 (by omega) (by omega) _ s2 hF2 hT2 hU2
  exact loop2_ 0 (by omega) (by omega) _ _ s (fun c _ => rfl) (fun n9 k9 a b d q => by omega) (fun n9 a b => by omega)
