/-! RANK on both sides. -/
theorem blN_pre (S n : Nat) {e : Nat} : ∀ k : Nat, e < (blN S n).length → (blN S (n + k)).getD e 0 = (blN S n).getD e 0 ∧ (blN S n).length ≤ (blN S (n + k)).length
  | 0, _ => ⟨rfl, Nat.le_refl _⟩
  | k + 1, h => by
    obtain ⟨i1, i2⟩ := blN_pre S n k h
    rw [← Nat.add_assoc, blN_s]
    split
    · refine ⟨?_, by rw [List.length_append]; omega⟩
      rw [getD_app1 (by omega), i1]
    · rw [List.append_nil]
      exact ⟨i1, i2⟩
theorem elF_ln {S b : Int} (S0 : 0 ≤ S) (b0 : 0 ≤ b) (b1 : b < 10) (h : S / 2 ^ b.toNat % 2 = 1) : elF S (lnB S b) = b ∧ lnB S b < ((mS S : Nat) : Int) := by
  have hs := blN_s S.toNat b.toNat
  rw [if_pos ((bitS S0 b0).mp h)] at hs
  have hl : (blN S.toNat b.toNat).length < (blN S.toNat (b.toNat + 1)).length := by
    rw [hs, List.length_append]
    simp only [List.length_cons, List.length_nil]
    omega
  have hp := blN_pre S.toNat (b.toNat + 1) (10 - (b.toNat + 1)) hl
  rw [show b.toNat + 1 + (10 - (b.toNat + 1)) = 10 by omega] at hp
  unfold elF lnB mS
  rw [Int.toNat_natCast, hp.1, hs, getD_app2]
  omega
theorem lnB_10 (S : Int) : lnB S 10 = ((mS S : Nat) : Int) := rfl
theorem cA_stay {c : Int → Int → Int} {e : Int} {k : Nat} (h : cA c e k = -1) : ∀ j : Nat, cA c e (k + j) = -1
  | 0 => h
  | j + 1 => by
    show cA c e (k + j + 1) = -1
    rw [cA, if_pos (cA_stay h j)]
theorem cA_r2 {c : Int → Int → Int} (h01 : ∀ x y, c x y = 0 ∨ c x y = 1) (e : Int) (k : Nat) : cA c e k = -1 ∨ (0 ≤ cA c e k ∧ cA c e k ≤ k) := by
  rcases cA_r h01 e k with h | h
  · exact Or.inl h.1
  · exact Or.inr h.2.2
/-- what was found among the first k -/
def FDp (c : Int → Int → Int) (S : Int) (m k : Nat) (pl fd : Int) : Prop := (fd = -1 ∧ ∀ j : Nat, j < k → cA (cE c S) j m ≠ pl) ∨ ∃ j : Nat, j < k ∧ cA (cE c S) j m = pl ∧ fd = elF S j
theorem cA_s {c : Int → Int → Int} {e k : Int} (k0 : 0 ≤ k) : cA c e (k + 1).toNat = if cA c e k.toNat = -1 then -1 else if e = k then cA c e k.toNat else if c e k = c k e then -1 else cA c e k.toNat + c e k := by
  rw [show (k + 1).toNat = k.toNat + 1 by omega, cA, show ((k.toNat : Nat) : Int) = k by omega]
section RKS
variable {c : Int → Int → Int} {S : Int} {m : Nat}
theorem dg_at (hm : m < 7) {n : Int} (n0 : 0 ≤ n) (n1 : n < fct m) {k : Nat} (hk : k < m) : ∃ p : Nat, p < m ∧ dgI m n p = k := by
  have db := dg_ok hm n0 n1
  exact surj_inj (n := m) (f := fun i => dgI m n i) (fun i hi => db.1 i (by omega) (by omega)) (fun x y hxy hy => db.2.1 x y (by omega) (by omega) (by omega)) hk
theorem rk_fail1 (h01 : ∀ x y, c x y = 0 ∨ c x y = 1) (hm : m < 7) {k : Nat} (hk : k < m) (h : cA (cE c S) k m = -1) (pl : Int) : rnkA c S m pl = -1 := by
  refine rnkA_no (fun n n0 n1 hr => ?_)
  have db := dg_ok hm n0 n1
  obtain ⟨p, hp, e⟩ := dg_at hm n0 n1 hk
  have := isRk_sc (cE_01 h01 S) db.1 db.2.1 hr (p := (p : Int)) (by omega) (by omega)
  rw [e, h] at this
  omega
theorem rk_fail2 (h01 : ∀ x y, c x y = 0 ∨ c x y = 1) (hm : m < 7) {j k : Nat} (hj : j < k) (hk : k < m) (h : cA (cE c S) j m = cA (cE c S) k m) (pl : Int) : rnkA c S m pl = -1 := by
  refine rnkA_no (fun n n0 n1 hr => ?_)
  have db := dg_ok hm n0 n1
  obtain ⟨p, hp, e⟩ := dg_at hm n0 n1 (show j < m by omega)
  obtain ⟨q, hq, e2⟩ := dg_at hm n0 n1 hk
  have a := isRk_sc (cE_01 h01 S) db.1 db.2.1 hr (p := (p : Int)) (by omega) (by omega)
  have b := isRk_sc (cE_01 h01 S) db.1 db.2.1 hr (p := (q : Int)) (by omega) (by omega)
  rw [e] at a
  rw [e2] at b
  have : p = q := by omega
  rw [this, e2] at e
  omega
theorem rk_succ (h01 : ∀ x y, c x y = 0 ∨ c x y = 1) (hm : m < 7) (h0 : ∀ e : Nat, e < m → 0 ≤ cA (cE c S) e m ∧ cA (cE c S) e m < m) (hd : ∀ a b : Nat, a < b → b < m → cA (cE c S) a m ≠ cA (cE c S) b m) {pl v : Int} (p0 : 0 ≤ pl) (p1 : pl < m) (hv : (v = -1 ∧ ∀ j : Nat, j < m → cA (cE c S) j m ≠ pl) ∨ ∃ j : Nat, j < m ∧ cA (cE c S) j m = pl ∧ v = elF S j) : rnkA c S m pl = v := by
  obtain ⟨f, hf, fi, fr⟩ := sc_isRk (cE_01 h01 S) h0 hd
  have g := hf pl p0 p1
  have ro := rk_ok hm (fun p a b => (hf p a b).1) fi
  rcases hv with ⟨_, hn⟩ | ⟨j, hj, e1, e2⟩
  · exfalso
    exact hn (f pl).toNat (by omega) (by rw [show (((f pl).toNat : Nat) : Int) = f pl by omega]; exact g.2)
  · have ej : f pl = j := by
      rcases Nat.lt_trichotomy (f pl).toNat j with z | z | z
      · exact absurd (by rw [show (((f pl).toNat : Nat) : Int) = f pl by omega, g.2, e1]) (hd _ _ z hj)
      · omega
      · exact absurd (by rw [show (((f pl).toNat : Nat) : Int) = f pl by omega, g.2, e1]) (hd _ _ z (by omega))
    refine rnkA_of h01 hm p0 p1 ⟨rkI m f, ro.1, fun p q a b d => ?_, ?_⟩
    · rw [ro.2.1 p a (by omega), ro.2.1 q (by omega) d]
      exact fr p q a b d
    · rw [ro.2.1 pl p0 p1, ej, e2]
end RKS
theorem sp_42 {d L t : Nat} {s l : Nat → Int → Int} {c : Int → Int → Int} {S : Int} {m : Nat} (S0 : 0 ≤ S) (S1 : S < 1024) (hm : m = mS S) (m7 : m < 7) (hC : CHc s c S) (h01 : ∀ x y, c x y = 0 ∨ c x y = 1) {e : Int} (e0 : 0 ≤ e) (e1 : e < m) : mm_Ev mm_ct mm_CM (d + 3) 42 [.ref 590, .int (iI S), .int (iI (elF S e))] (MX L t s l) (some (.int (iI (cA (cE c S) e m))), MX L t s l) := by
  have hc : (mm_CM 42).2.2.2.2.2.2.2 = mm_cf cd_42 := by rw [cm_42]; rfl
  refine ev_of (mx := 6) (by rw [cm_42]; decide) (by rw [cm_42]; rfl) (by show 3 ≤ _; decide) ?_
  show mm_wp _ _ (0, [some (.ref 590), some (.int (iI S)), some (.int (iI (elF S e))), none, none, none], [], MX L t s l) (fun r => r = (some (.int (iI (cA (cE c S) e m))), MX L t s l))
  have ger := elF_r (S := S) hm.symm e0 e1
  have geb := elF_bit (S := S) S0 hm.symm e0 e1
  refine wi_ic hc rfl ?_
  refine wi_is1 (L' := [some (.ref 590), some (.int (iI S)), some (.int (iI (elF S e))), some (.int (iI 0)), none, none]) hc rfl (Nat.le_of_ble_eq_true rfl) rfl ?_
  refine wi_ic hc rfl ?_
  refine wi_is2 (L' := [some (.ref 590), some (.int (iI S)), some (.int (iI (elF S e))), some (.int (iI 0)), some (.int (iI 0)), none]) hc rfl (Nat.le_of_ble_eq_true rfl) rfl ?_
  have loop5_ : ∀ b : Int, b ≤ 10 → 0 ≤ b → ∀ o5 : Option Value, cA (cE c S) e (lnB S b).toNat ≠ -1 → mm_wp (mm_Ev mm_ct mm_CM (d + 2)) 42 (5, [some (.ref 590), some (.int (iI S)), some (.int (iI (elF S e))), some (.int (iI (cA (cE c S) e (lnB S b).toNat))), some (.int (iI b)), o5], [], MX L t s l) (fun r => r = (some (.int (iI (cA (cE c S) e m))), MX L t s l)) := by
    refine up_ind ?_
    intro b hb9 ih b0 o5 hne1
    have hlr := lnB_r (S := S) b0
    have hls := lnB_s (S := S) S0 b0
    have hcr := cA_r2 (cE_01 h01 S) e (lnB S b).toNat
    have hlm : b = 10 → lnB S b = (m : Int) := fun q => by rw [q, lnB_10, hm]
    refine wi_i2 hc rfl rfl ?_
    refine wi_bi hc rfl rfl ?_
    refine wi_cge hc rfl ⟨by omega, by omega⟩ ⟨by decide, by decide⟩ (fun h1_ => ?_) (fun h1_ => ?_)
    · refine wi_i1 hc rfl rfl ?_
      refine wi_ri hc rfl (by rw [cm_42]; rfl) ?_
      have := hlm (by omega)
      rw [show (lnB S b).toNat = m by omega]
    · refine wi_i2 hc rfl rfl ?_
      refine wi_i1 hc rfl rfl ?_
      refine wi_ceq hc rfl ⟨by omega, by omega⟩ ⟨by omega, by omega⟩ (fun h2_ => ?_) (fun h2_ => ?_)
      · refine wi_inc (L' := [some (.ref 590), some (.int (iI S)), some (.int (iI (elF S e))), some (.int (iI (cA (cE c S) e (lnB S b).toNat))), some (.int (iI (b + 1))), o5]) hc rfl rfl rfl ?_
        refine wi_go hc rfl ?_
        have e9 : cA (cE c S) e (lnB S b).toNat = cA (cE c S) e (lnB S (b + 1)).toNat := by
          by_cases q : S / 2 ^ b.toNat % 2 = 1
          · have hcs := cA_s (c := cE c S) (e := e) (k := lnB S b) hlr.1
            have hel := elF_ln S0 b0 (by omega) q
            have hbe : e = lnB S b := by
              rcases Int.lt_trichotomy e (lnB S b) with z | z | z
              · have := elF_mono (S := S) hm.symm e0 z (by omega); omega
              · exact z
              · have := elF_mono (S := S) hm.symm hlr.1 z e1; omega
            rw [hls, if_pos q, hcs, if_neg (by omega), if_pos hbe]
          · rw [hls, if_neg q, Int.add_zero]
        rw [e9]
        exact ih (by omega) (by omega) _ (by omega)
      · refine wi_i1 hc rfl rfl ?_
        refine wi_i2 hc rfl rfl ?_
        refine wp_cs (As := [.int (iI S), .int (iI b)]) (r := []) hc rfl (by rw [cm_128]; rfl) rfl (Nat.le_of_ble_eq_true rfl) (ev_mono (sp_128 (d := 0) (rI_of (by omega) (by omega)) (by omega) (by omega) (by omega)) (by omega)) ?_
        show mm_wp _ _ (24, [some (.ref 590), some (.int (iI S)), some (.int (iI (elF S e))), some (.int (iI (cA (cE c S) e (lnB S b).toNat))), some (.int (iI b)), o5], [.int (iI (S / 2 ^ b.toNat % 2))], MX L t s l) _
        refine wi_zeq hc rfl ⟨by omega, by omega⟩ (fun h3_ => ?_) (fun h3_ => ?_)
        · refine wi_inc (L' := [some (.ref 590), some (.int (iI S)), some (.int (iI (elF S e))), some (.int (iI (cA (cE c S) e (lnB S b).toNat))), some (.int (iI (b + 1))), o5]) hc rfl rfl rfl ?_
          refine wi_go hc rfl ?_
          have e9 : cA (cE c S) e (lnB S b).toNat = cA (cE c S) e (lnB S (b + 1)).toNat := by
            by_cases q : S / 2 ^ b.toNat % 2 = 1
            · have hcs := cA_s (c := cE c S) (e := e) (k := lnB S b) hlr.1
              have hel := elF_ln S0 b0 (by omega) q
              have hbe : e = lnB S b := by
                rcases Int.lt_trichotomy e (lnB S b) with z | z | z
                · have := elF_mono (S := S) hm.symm e0 z (by omega); omega
                · exact z
                · have := elF_mono (S := S) hm.symm hlr.1 z e1; omega
              rw [hls, if_pos q, hcs, if_neg (by omega), if_pos hbe]
            · rw [hls, if_neg q, Int.add_zero]
          rw [e9]
          exact ih (by omega) (by omega) _ (by omega)
        · refine wi_a1 hc rfl rfl ?_
          refine wi_i1 hc rfl rfl ?_
          refine wi_i2 hc rfl rfl ?_
          refine wp_cv (b := 590) (As := [.int (iI (elF S e)), .int (iI b)]) (r := []) hc rfl (by rw [cm_17]; rfl) rfl (Nat.le_of_ble_eq_true rfl) (show 590 < 621 by decide) (by rw [cm_17]; rfl) (ev_mono (by have h := sp_17c (d := 0) (L := L) (t := t) (s := s) (l := l) hC (x := elF S e) (y := b) (by omega) (by omega) (by omega) (by omega) (by omega) (by omega); exact h) (by omega)) ?_
          have h5_ := h01 (elF S e) b
          show mm_wp _ _ (34, [some (.ref 590), some (.int (iI S)), some (.int (iI (elF S e))), some (.int (iI (cA (cE c S) e (lnB S b).toNat))), some (.int (iI b)), o5], [.int (iI (c (elF S e) b))], MX L t s l) _
          refine wi_is2 (L' := [some (.ref 590), some (.int (iI S)), some (.int (iI (elF S e))), some (.int (iI (cA (cE c S) e (lnB S b).toNat))), some (.int (iI b)), some (.int (iI (c (elF S e) b)))]) hc rfl (Nat.le_of_ble_eq_true rfl) rfl ?_
          refine wi_i2 hc rfl rfl ?_
          refine wi_a1 hc rfl rfl ?_
          refine wi_i2 hc rfl rfl ?_
          refine wi_i1 hc rfl rfl ?_
          refine wp_cv (b := 590) (As := [.int (iI b), .int (iI (elF S e))]) (r := [.int (iI (c (elF S e) b))]) hc rfl (by rw [cm_17]; rfl) rfl (Nat.le_of_ble_eq_true rfl) (show 590 < 621 by decide) (by rw [cm_17]; rfl) (ev_mono (by have h := sp_17c (d := 0) (L := L) (t := t) (s := s) (l := l) hC (x := b) (y := elF S e) (by omega) (by omega) (by omega) (by omega) (by omega) (by omega); exact h) (by omega)) ?_
          have h6_ := h01 b (elF S e)
          show mm_wp _ _ (45, [some (.ref 590), some (.int (iI S)), some (.int (iI (elF S e))), some (.int (iI (cA (cE c S) e (lnB S b).toNat))), some (.int (iI b)), some (.int (iI (c (elF S e) b)))], [.int (iI (c b (elF S e))), .int (iI (c (elF S e) b))], MX L t s l) _
          refine wi_cne hc rfl ⟨by omega, by omega⟩ ⟨by omega, by omega⟩ (fun h4_ => ?_) (fun h4_ => ?_)
          · refine wi_i1 hc rfl rfl ?_
            refine wi_i2 hc rfl rfl ?_
            refine wi_b01 hc rfl rfl rfl rfl (by omega) ?_
            refine wi_add hc rfl ?_
            refine wi_is1 (L' := [some (.ref 590), some (.int (iI S)), some (.int (iI (elF S e))), some (.int (iI ((cA (cE c S) e (lnB S b).toNat) + (c (elF S e) b)))), some (.int (iI b)), some (.int (iI (c (elF S e) b)))]) hc rfl (Nat.le_of_ble_eq_true rfl) rfl ?_
            refine wi_inc (L' := [some (.ref 590), some (.int (iI S)), some (.int (iI (elF S e))), some (.int (iI ((cA (cE c S) e (lnB S b).toNat) + (c (elF S e) b)))), some (.int (iI (b + 1))), some (.int (iI (c (elF S e) b)))]) hc rfl rfl rfl ?_
            refine wi_go hc rfl ?_
            have hel := elF_ln S0 b0 (by omega) (by omega)
            have hne : e ≠ lnB S b := fun q => by rw [← q] at hel; omega
            have e8 : cE c S e (lnB S b) = c (elF S e) b := by unfold cE; rw [hel.1]
            have e7 : cE c S (lnB S b) e = c b (elF S e) := by unfold cE; rw [hel.1]
            have hcs := cA_s (c := cE c S) (e := e) (k := lnB S b) hlr.1
            rw [if_neg (by omega), if_neg hne, e8, e7, if_neg (by omega)] at hcs
            have e9 : (cA (cE c S) e (lnB S b).toNat) + (c (elF S e) b) = cA (cE c S) e (lnB S (b + 1)).toNat := by rw [hls, if_pos (by omega), hcs]
            rw [e9]
            exact ih (by omega) (by omega) _ (by omega)
          · refine wi_ic hc rfl ?_
            refine wi_ri hc rfl (by rw [cm_42]; rfl) ?_
            have hel := elF_ln S0 b0 (by omega) (by omega)
            have hne : e ≠ lnB S b := fun q => by rw [← q] at hel; omega
            have e8 : cE c S e (lnB S b) = c (elF S e) b := by unfold cE; rw [hel.1]
            have e7 : cE c S (lnB S b) e = c b (elF S e) := by unfold cE; rw [hel.1]
            have hcs := cA_s (c := cE c S) (e := e) (k := lnB S b) hlr.1
            rw [if_neg (by omega), if_neg hne, e8, e7, if_pos (by omega)] at hcs
            have hst := cA_stay hcs (m - (lnB S b + 1).toNat)
            rw [show (lnB S b + 1).toNat + (m - (lnB S b + 1).toNat) = m by omega] at hst
            rw [hst]
  exact loop5_ 0 (by omega) (by omega) _ (by show (0 : Int) ≠ -1; decide)
theorem cA_lt {c : Int → Int → Int} (h01 : ∀ x y, c x y = 0 ∨ c x y = 1) {m : Nat} {e : Int} (h : 0 ≤ cA c e m) (e0 : 0 ≤ e) (e1 : e < m) : cA c e m < m := by
  rcases cA_r h01 e m with ⟨z, _⟩ | ⟨_, g2, _, _⟩
  · omega
  · rw [g2]
    have hs := smN_skip (h := hN c e) (q := e.toNat) m (by omega)
    have h0 : hN c e e.toNat = 0 := by unfold hN; rw [if_pos (by omega)]
    rw [hs, h0]
    have key : ∀ (g : Nat → Int) (n : Nat), (∀ i, g i ≤ 1) → smN g n ≤ n := by
      intro g n hg
      induction n with
      | zero => exact Int.le_refl _
      | succ n ih => have := hg n; rw [smN]; omega
    have := key (fun i => if i < e.toNat then hN c e i else hN c e (i + 1)) (m - 1) (fun i => by
      have a : ∀ j : Nat, hN c e j ≤ 1 := fun j => by
        unfold hN
        have := h01 e j
        split <;> omega
      split
      · exact a _
      · exact a _)
    omega
theorem sp_41 {d L t : Nat} {s l : Nat → Int → Int} {c : Int → Int → Int} {S : Int} {m : Nat} (S0 : 0 ≤ S) (S1 : S < 1024) (hm : m = mS S) (m7 : m < 7) (hC : CHc s c S) (h01 : ∀ x y, c x y = 0 ∨ c x y = 1) {pl : Int} (p0 : 0 ≤ pl) (p1 : pl < m) : mm_Ev mm_ct mm_CM (d + 4) 41 [.ref 594, .ref 590, .int (iI S), .int (iI pl)] (MX L t s l) (some (.int (iI (rnkA c S m pl))), MX L t s l) := by
  have hc : (mm_CM 41).2.2.2.2.2.2.2 = mm_cf cd_41 := by rw [cm_41]; rfl
  refine ev_of (mx := 8) (by rw [cm_41]; decide) (by rw [cm_41]; rfl) (by show 4 ≤ _; decide) ?_
  show mm_wp _ _ (0, [some (.ref 594), some (.ref 590), some (.int (iI S)), some (.int (iI pl)), none, none, none, none], [], MX L t s l) (fun r => r = (some (.int (iI (rnkA c S m pl))), MX L t s l))
  refine wi_ic hc rfl ?_
  refine wi_is2 (L' := [some (.ref 594), some (.ref 590), some (.int (iI S)), some (.int (iI pl)), some (.int (iI (-1))), none, none, none]) hc rfl (Nat.le_of_ble_eq_true rfl) rfl ?_
  refine wi_ic hc rfl ?_
  refine wi_is2 (L' := [some (.ref 594), some (.ref 590), some (.int (iI S)), some (.int (iI pl)), some (.int (iI (-1))), some (.int (iI 0)), none, none]) hc rfl (Nat.le_of_ble_eq_true rfl) rfl ?_
  refine wi_ic hc rfl ?_
  refine wi_is2 (L' := [some (.ref 594), some (.ref 590), some (.int (iI S)), some (.int (iI pl)), some (.int (iI (-1))), some (.int (iI 0)), some (.int (iI 0)), none]) hc rfl (Nat.le_of_ble_eq_true rfl) rfl ?_
  have loop9_ : ∀ b : Int, b ≤ 10 → 0 ≤ b → ∀ (fd9 rk9 : Int) (o7 : Option Value), (∀ j : Nat, j < (lnB S b).toNat → 0 ≤ cA (cE c S) j m ∧ cA (cE c S) j m < m) → (∀ i j : Nat, i < j → j < (lnB S b).toNat → cA (cE c S) i m ≠ cA (cE c S) j m) → (0 ≤ rk9 ∧ rk9 < 1024) → (∀ x : Nat, x < 10 → (rk9 / 2 ^ x % 2 = 1 ↔ ∃ j : Nat, j < (lnB S b).toNat ∧ cA (cE c S) j m = x)) → FDp c S m (lnB S b).toNat pl fd9 → mm_wp (mm_Ev mm_ct mm_CM (d + 3)) 41 (9, [some (.ref 594), some (.ref 590), some (.int (iI S)), some (.int (iI pl)), some (.int (iI fd9)), some (.int (iI rk9)), some (.int (iI b)), o7], [], MX L t s l) (fun r => r = (some (.int (iI (rnkA c S m pl))), MX L t s l)) := by
    refine up_ind ?_
    intro b hb9 ih b0 fd9 rk9 o7 hA hD hR0 hR hF
    have hlr := lnB_r (S := S) b0
    have hls := lnB_s (S := S) S0 b0
    have hlm : b = 10 → lnB S b = (m : Int) := fun q => by rw [q, lnB_10, hm]
    refine wi_i2 hc rfl rfl ?_
    refine wi_bi hc rfl rfl ?_
    refine wi_cge hc rfl ⟨by omega, by omega⟩ ⟨by decide, by decide⟩ (fun h1_ => ?_) (fun h1_ => ?_)
    · refine wi_i2 hc rfl rfl ?_
      refine wi_ri hc rfl (by rw [cm_41]; rfl) ?_
      have hk9 := hlm (by omega)
      rw [show (lnB S b).toNat = m by omega] at hA hD hF
      rw [rk_succ h01 m7 hA hD p0 p1 hF]
    · refine wi_i1 hc rfl rfl ?_
      refine wi_i2 hc rfl rfl ?_
      refine wp_cs (As := [.int (iI S), .int (iI b)]) (r := []) hc rfl (by rw [cm_128]; rfl) rfl (Nat.le_of_ble_eq_true rfl) (ev_mono (sp_128 (d := 0) (rI_of (by omega) (by omega)) (by omega) (by omega) (by omega)) (by omega)) ?_
      show mm_wp _ _ (22, [some (.ref 594), some (.ref 590), some (.int (iI S)), some (.int (iI pl)), some (.int (iI fd9)), some (.int (iI rk9)), some (.int (iI b)), o7], [.int (iI (S / 2 ^ b.toNat % 2))], MX L t s l) _
      refine wi_zeq hc rfl ⟨by omega, by omega⟩ (fun h2_ => ?_) (fun h2_ => ?_)
      · refine wi_inc (L' := [some (.ref 594), some (.ref 590), some (.int (iI S)), some (.int (iI pl)), some (.int (iI fd9)), some (.int (iI rk9)), some (.int (iI (b + 1))), o7]) hc rfl rfl rfl ?_
        refine wi_go hc rfl ?_
        have e9 : lnB S (b + 1) = lnB S b := by rw [hls, if_neg (by omega)]; omega
        exact ih (by omega) (by omega) _ _ _ (by rw [e9]; exact hA) (by rw [e9]; exact hD) hR0 (by rw [e9]; exact hR) (by rw [e9]; exact hF)
      · refine wi_a1 hc rfl rfl ?_
        refine wi_i1 hc rfl rfl ?_
        refine wi_i2 hc rfl rfl ?_
        have hel := elF_ln S0 b0 (by omega) (by omega)
        rw [← hm] at hel
        refine wp_cs (As := [.ref 590, .int (iI S), .int (iI b)]) (r := []) hc rfl (by rw [cm_42]; rfl) rfl (Nat.le_of_ble_eq_true rfl) (ev_mono (by have h := sp_42 (d := 0) (L := L) (t := t) (s := s) (l := l) S0 S1 hm m7 hC h01 (e := lnB S b) hlr.1 hel.2; rw [hel.1] at h; exact h) (by omega)) ?_
        have hck := cA_r2 (cE_01 h01 S) (lnB S b) m
        show mm_wp _ _ (32, [some (.ref 594), some (.ref 590), some (.int (iI S)), some (.int (iI pl)), some (.int (iI fd9)), some (.int (iI rk9)), some (.int (iI b)), o7], [.int (iI (cA (cE c S) (lnB S b) m))], MX L t s l) _
        refine wi_is2 (L' := [some (.ref 594), some (.ref 590), some (.int (iI S)), some (.int (iI pl)), some (.int (iI fd9)), some (.int (iI rk9)), some (.int (iI b)), some (.int (iI (cA (cE c S) (lnB S b) m)))]) hc rfl (Nat.le_of_ble_eq_true rfl) rfl ?_
        refine wi_i2 hc rfl rfl ?_
        refine wi_ic hc rfl ?_
        refine wi_ceq hc rfl ⟨by omega, by omega⟩ ⟨by decide, by decide⟩ (fun h3_ => ?_) (fun h3_ => ?_)
        · refine wi_ic hc rfl ?_
          refine wi_ri hc rfl (by rw [cm_41]; rfl) ?_
          first
          | (have hbad : cA (cE c S) (lnB S b) m = -1 := by omega
             rw [rk_fail1 h01 m7 (k := (lnB S b).toNat) (by omega) (by rw [show (((lnB S b).toNat : Nat) : Int) = lnB S b by omega]; exact hbad) pl])
          | (obtain ⟨j, hj, ej⟩ := (hR (cA (cE c S) (lnB S b) m).toNat (by omega)).mp (by omega)
             rw [rk_fail2 h01 m7 (j := j) (k := (lnB S b).toNat) hj (by omega) (by rw [show (((lnB S b).toNat : Nat) : Int) = lnB S b by omega]; omega) pl])
        · have hck0 : 0 ≤ cA (cE c S) (lnB S b) m ∧ cA (cE c S) (lnB S b) m ≤ m := by omega
          refine wi_i2 hc rfl rfl ?_
          refine wi_i2 hc rfl rfl ?_
          refine wp_cs (As := [.int (iI rk9), .int (iI (cA (cE c S) (lnB S b) m))]) (r := []) hc rfl (by rw [cm_128]; rfl) rfl (Nat.le_of_ble_eq_true rfl) (ev_mono (sp_128 (d := 0) ⟨by omega, by omega⟩ (by omega) (by omega) (by omega)) (by omega)) ?_
          show mm_wp _ _ (47, [some (.ref 594), some (.ref 590), some (.int (iI S)), some (.int (iI pl)), some (.int (iI fd9)), some (.int (iI rk9)), some (.int (iI b)), some (.int (iI (cA (cE c S) (lnB S b) m)))], [.int (iI (rk9 / 2 ^ (cA (cE c S) (lnB S b) m).toNat % 2))], MX L t s l) _
          refine wi_zeq hc rfl ⟨by omega, by omega⟩ (fun h4_ => ?_) (fun h4_ => ?_)
          · refine wi_i2 hc rfl rfl ?_
            refine wi_ic hc rfl ?_
            refine wi_i2 hc rfl rfl ?_
            refine wi_shl (2 ^ (cA (cE c S) (lnB S b) m).toNat) rfl hc rfl (by omega) (by omega) ?_
            have hp9 : (0 : Int) ≤ 2 ^ (cA (cE c S) (lnB S b) m).toNat := by rw [p2c]; exact Int.natCast_nonneg _
            refine wi_or hc rfl (by omega) (by omega) ?_
            refine wi_is2 (L' := [some (.ref 594), some (.ref 590), some (.int (iI S)), some (.int (iI pl)), some (.int (iI fd9)), some (.int (iI (orI rk9 (1 * (2 ^ (cA (cE c S) (lnB S b) m).toNat))))), some (.int (iI b)), some (.int (iI (cA (cE c S) (lnB S b) m)))]) hc rfl (Nat.le_of_ble_eq_true rfl) rfl ?_
            refine wi_i2 hc rfl rfl ?_
            refine wi_i1 hc rfl rfl ?_
            refine wi_cne hc rfl ⟨by omega, by omega⟩ ⟨by omega, by omega⟩ (fun h5_ => ?_) (fun h5_ => ?_)
            · refine wi_i2 hc rfl rfl ?_
              refine wi_is2 (L' := [some (.ref 594), some (.ref 590), some (.int (iI S)), some (.int (iI pl)), some (.int (iI fd9)), some (.int (iI (orI rk9 (1 * (2 ^ (cA (cE c S) (lnB S b) m).toNat))))), some (.int (iI b)), some (.int (iI (cA (cE c S) (lnB S b) m)))]) hc rfl (Nat.le_of_ble_eq_true rfl) rfl ?_
              refine wi_inc (L' := [some (.ref 594), some (.ref 590), some (.int (iI S)), some (.int (iI pl)), some (.int (iI fd9)), some (.int (iI (orI rk9 (1 * (2 ^ (cA (cE c S) (lnB S b) m).toNat))))), some (.int (iI (b + 1))), some (.int (iI (cA (cE c S) (lnB S b) m)))]) hc rfl rfl rfl ?_
              refine wi_go hc rfl ?_
              have e9 : (lnB S (b + 1)).toNat = (lnB S b).toNat + 1 := by rw [hls, if_pos (by omega)]; omega
              have ekk : (((lnB S b).toNat : Nat) : Int) = lnB S b := by omega
              have hcm : cA (cE c S) (lnB S b) m < m := cA_lt (cE_01 h01 S) (by omega) hlr.1 hel.2
              refine ih (by omega) (by omega) _ _ _ (fun j hj => ?_) (fun i j hij hj => ?_) ⟨Int.natCast_nonneg _, or1_lt hR0.1 hR0.2 (by omega)⟩ (fun x hx => ?_) ?_
              · rcases (by omega : j < (lnB S b).toNat ∨ j = (lnB S b).toNat) with q | q
                · exact hA j q
                · rw [q, ekk]; omega
              · rcases (by omega : j < (lnB S b).toNat ∨ j = (lnB S b).toNat) with q | q
                · exact hD i j hij q
                · rw [q, ekk]
                  intro z9
                  have := (hR (cA (cE c S) (lnB S b) m).toNat (by omega)).mpr ⟨i, by omega, by omega⟩
                  omega
              · rw [bit_or1 hR0.1]
                constructor
                · intro z9
                  by_cases q : x = (cA (cE c S) (lnB S b) m).toNat
                  · exact ⟨(lnB S b).toNat, by omega, by rw [ekk]; omega⟩
                  · rw [if_neg q] at z9
                    obtain ⟨j, hj, ej⟩ := (hR x hx).mp z9
                    exact ⟨j, by omega, ej⟩
                · rintro ⟨j, hj, ej⟩
                  by_cases q : x = (cA (cE c S) (lnB S b) m).toNat
                  · rw [if_pos q]
                  · rw [if_neg q]
                    refine (hR x hx).mpr ⟨j, ?_, ej⟩
                    rcases (by omega : j < (lnB S b).toNat ∨ j = (lnB S b).toNat) with q2 | q2
                    · exact q2
                    · rw [q2, ekk] at ej; omega
              · rcases hF with ⟨f1, f2⟩ | ⟨j, f1, f2, f3⟩
                · left
                  refine ⟨f1, fun j hj => ?_⟩
                  rcases (by omega : j < (lnB S b).toNat ∨ j = (lnB S b).toNat) with q | q
                  · exact f2 j q
                  · rw [q, ekk]; omega
                · exact Or.inr ⟨j, by omega, f2, f3⟩
            · refine wi_i2 hc rfl rfl ?_
              refine wi_go hc rfl ?_
              refine wi_is2 (L' := [some (.ref 594), some (.ref 590), some (.int (iI S)), some (.int (iI pl)), some (.int (iI b)), some (.int (iI (orI rk9 (1 * (2 ^ (cA (cE c S) (lnB S b) m).toNat))))), some (.int (iI b)), some (.int (iI (cA (cE c S) (lnB S b) m)))]) hc rfl (Nat.le_of_ble_eq_true rfl) rfl ?_
              refine wi_inc (L' := [some (.ref 594), some (.ref 590), some (.int (iI S)), some (.int (iI pl)), some (.int (iI b)), some (.int (iI (orI rk9 (1 * (2 ^ (cA (cE c S) (lnB S b) m).toNat))))), some (.int (iI (b + 1))), some (.int (iI (cA (cE c S) (lnB S b) m)))]) hc rfl rfl rfl ?_
              refine wi_go hc rfl ?_
              have e9 : (lnB S (b + 1)).toNat = (lnB S b).toNat + 1 := by rw [hls, if_pos (by omega)]; omega
              have ekk : (((lnB S b).toNat : Nat) : Int) = lnB S b := by omega
              have hcm : cA (cE c S) (lnB S b) m < m := cA_lt (cE_01 h01 S) (by omega) hlr.1 hel.2
              refine ih (by omega) (by omega) _ _ _ (fun j hj => ?_) (fun i j hij hj => ?_) ⟨Int.natCast_nonneg _, or1_lt hR0.1 hR0.2 (by omega)⟩ (fun x hx => ?_) ?_
              · rcases (by omega : j < (lnB S b).toNat ∨ j = (lnB S b).toNat) with q | q
                · exact hA j q
                · rw [q, ekk]; omega
              · rcases (by omega : j < (lnB S b).toNat ∨ j = (lnB S b).toNat) with q | q
                · exact hD i j hij q
                · rw [q, ekk]
                  intro z9
                  have := (hR (cA (cE c S) (lnB S b) m).toNat (by omega)).mpr ⟨i, by omega, by omega⟩
                  omega
              · rw [bit_or1 hR0.1]
                constructor
                · intro z9
                  by_cases q : x = (cA (cE c S) (lnB S b) m).toNat
                  · exact ⟨(lnB S b).toNat, by omega, by rw [ekk]; omega⟩
                  · rw [if_neg q] at z9
                    obtain ⟨j, hj, ej⟩ := (hR x hx).mp z9
                    exact ⟨j, by omega, ej⟩
                · rintro ⟨j, hj, ej⟩
                  by_cases q : x = (cA (cE c S) (lnB S b) m).toNat
                  · rw [if_pos q]
                  · rw [if_neg q]
                    refine (hR x hx).mpr ⟨j, ?_, ej⟩
                    rcases (by omega : j < (lnB S b).toNat ∨ j = (lnB S b).toNat) with q2 | q2
                    · exact q2
                    · rw [q2, ekk] at ej; omega
              · right
                exact ⟨(lnB S b).toNat, by omega, by rw [ekk]; omega, by rw [ekk, hel.1]⟩
          · refine wi_ic hc rfl ?_
            refine wi_ri hc rfl (by rw [cm_41]; rfl) ?_
            first
            | (have hbad : cA (cE c S) (lnB S b) m = -1 := by omega
               rw [rk_fail1 h01 m7 (k := (lnB S b).toNat) (by omega) (by rw [show (((lnB S b).toNat : Nat) : Int) = lnB S b by omega]; exact hbad) pl])
            | (obtain ⟨j, hj, ej⟩ := (hR (cA (cE c S) (lnB S b) m).toNat (by omega)).mp (by omega)
               rw [rk_fail2 h01 m7 (j := j) (k := (lnB S b).toNat) hj (by omega) (by rw [show (((lnB S b).toNat : Nat) : Int) = lnB S b by omega]; omega) pl])
  exact loop9_ 0 (by omega) (by omega) (-1) 0 _ (fun j hj => absurd hj (by show ¬ j < 0; omega)) (fun i j _ hj => absurd hj (by show ¬ j < 0; omega)) ⟨by decide, by decide⟩ (fun x hx => ⟨fun q => by rw [Int.zero_ediv] at q; exact absurd q (by decide), fun ⟨j, hj, _⟩ => absurd hj (by show ¬ j < 0; omega)⟩) (Or.inl ⟨rfl, fun j hj => absurd hj (by show ¬ j < 0; omega)⟩)
