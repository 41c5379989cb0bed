/-! The model's GAME. -/
/-- an order after a nudge and a night -/
def ldO (c : Int → Int → Int) (S : Int) (m : Nat) (n p k : Int) : Int := rkI m (nF (cE c S) m k (mvF (dgI m n) p))
def ndO (m : Nat) (n p : Int) : Int := rkI m (mvF (dgI m n) p)
section LDO
variable {c : Int → Int → Int} {S : Int} {m : Nat}
theorem mv_ok (hm : m < 7) {n p : Int} (n0 : 0 ≤ n) (n1 : n < fct m) (hp : p = -1 ∨ (0 ≤ p ∧ p + 1 < (m : Int))) : (∀ q, 0 ≤ q → q < (m : Int) → 0 ≤ mvF (dgI m n) p q ∧ mvF (dgI m n) p q < m) ∧ injF (mvF (dgI m n) p) m := by
  have hd := dg_ok hm n0 n1
  exact ⟨mvF_all (P := fun v => 0 ≤ v ∧ v < (m : Int)) hd.1 hp, hd.2.1.mv hp⟩
theorem nd_ok (hm : m < 7) {n p : Int} (n0 : 0 ≤ n) (n1 : n < fct m) (hp : p = -1 ∨ (0 ≤ p ∧ p + 1 < (m : Int))) : (0 ≤ ndO m n p ∧ ndO m n p < fct m) ∧ ∀ q, 0 ≤ q → q < (m : Int) → dgI m (ndO m n p) q = mvF (dgI m n) p q := by
  have h := mv_ok hm n0 n1 hp
  have r := rk_ok hm h.1 h.2
  exact ⟨r.1, r.2.1⟩
theorem ld_ok (hm : m < 7) {n p k : Int} (n0 : 0 ≤ n) (n1 : n < fct m) (hp : p = -1 ∨ (0 ≤ p ∧ p + 1 < (m : Int))) (k0 : 0 ≤ k) : (0 ≤ ldO c S m n p k ∧ ldO c S m n p k < fct m) ∧ ∀ q, 0 ≤ q → q < (m : Int) → dgI m (ldO c S m n p k) q = nF (cE c S) m k (mvF (dgI m n) p) q := by
  have h := mv_ok hm n0 n1 hp
  have r := rk_ok hm (nF_all (P := fun v => 0 ≤ v ∧ v < (m : Int)) (c := cE c S) h.1 k0) (h.2.nF k0)
  exact ⟨r.1, r.2.1⟩
theorem ld_nd (hm : m < 7) {n p k : Int} (n0 : 0 ≤ n) (n1 : n < fct m) (hp : p = -1 ∨ (0 ≤ p ∧ p + 1 < (m : Int))) (k0 : 0 ≤ k) : rkI m (nF (cE c S) m k (dgI m (ndO m n p))) = ldO c S m n p k := by
  have h := (nd_ok hm n0 n1 hp).2
  exact rkI_congr (fun q q0 q1 => nF_congr h (fun _ _ _ => rfl) k0 q0 q1)
theorem ld_none (n k : Int) : rkI m (nF (cE c S) m k (dgI m n)) = ldO c S m n (-1) k := by
  unfold ldO
  rw [mvF_none]
end LDO
theorem minI_hi {n x : Int} (h : x < n) : minI n x = x := if_pos h
theorem maxI_lo {x : Int} (h : 0 ≤ x) : maxI (-1) x = x := if_pos (by omega)
theorem gmS_1 {g : Int → Int} {lf n : Int} (h : 0 ≤ g (-1) ∧ g (-1) < n) : gmS g lf (if lf = 1 then n else -1) 1 = g (-1) := by
  show (if lf = 1 then minI (if lf = 1 then n else -1) (g (((0 : Nat) : Int) - 1)) else maxI (if lf = 1 then n else -1) (g (((0 : Nat) : Int) - 1))) = g (-1)
  have e : (((0 : Nat) : Int) - 1) = -1 := rfl
  rw [e]
  by_cases z : lf = 1
  · rw [if_pos z, if_pos z, minI_hi h.2]
  · rw [if_neg z, if_neg z, maxI_lo h.1]
theorem sp_268 {d L t : Nat} {s l : Nat → Int → Int} {c : Int → Int → Int} {S : Int} {m : Nat} (m7 : m < 7) (hO : OM m s) (hm9 : (blN S.toNat 10).length = m) (hE : EM S m s) (hL : LM c S m s) {n b p : Int} (n0 : 0 ≤ n) (n1 : n < fct m) (hb : rI b) (hp : b = -1 ∨ (0 ≤ p ∧ p < (m : Int))) : mm_Ev mm_ct mm_CM (d + 1) 268 [.ref 598, .int (iI n), .int (iI b), .int (iI p)] (MX L t s l) (some (.int (iI (bI (b = -1 ∨ elF S (dgI m n p) = b)))), MX L t s l) := by
  have hc : (mm_CM 268).2.2.2.2.2.2.2 = mm_cf cd_268 := by rw [cm_268]; rfl
  refine ev_of (mx := 4) (by rw [cm_268]; decide) (by rw [cm_268]; rfl) (by show 4 ≤ _; decide) ?_
  show mm_wp _ _ (0, [some (.ref 598), some (.int (iI n)), some (.int (iI b)), some (.int (iI p))], [], MX L t s l) (fun r => r = (some (.int (iI (bI (b = -1 ∨ elF S (dgI m n p) = b)))), MX L t s l))
  have hfm := fct_r m
  have hdg := dg_ok m7 n0 n1
  refine wi_i1 hc rfl rfl ?_
  refine wi_ic hc rfl ?_
  refine wi_ceq hc rfl hb ⟨by decide, by decide⟩ (fun h1_ => ?_) (fun h1_ => ?_)
  · refine wi_ic hc rfl ?_
    refine wi_go hc rfl ?_
    refine wi_r1 hc rfl (by rw [cm_268]; rfl) ?_
    rw [bI_t (p := b = -1 ∨ elF S (dgI m n p) = b) (by omega)]
  · have d1 := hdg.1 p (by omega) (by omega)
    have d2 := elF_r (S := S) (m := m) hm9 d1.1 d1.2
    refine wi_a1 hc rfl rfl ?_
    refine wi_gr (w := 613) hc rfl rfl (by decide) (Nat.le_of_ble_eq_true rfl) rfl ?_
    refine wi_a1 hc rfl rfl ?_
    refine wi_gr (w := 610) hc rfl rfl (by decide) (Nat.le_of_ble_eq_true rfl) rfl ?_
    refine wi_bi hc rfl rfl ?_
    refine wi_i1 hc rfl rfl ?_
    refine wi_mul hc rfl ?_
    refine wi_i1 hc rfl rfl ?_
    refine wi_add hc rfl ?_
    refine wi_ildv (N := 4320) hc rfl rfl (by decide) (by decide) (by omega) (by omega) (v := dgI m n p) (hO.2.2 _ _ (by omega) (by omega) (by omega) (by omega)) ?_
    refine wi_ildv (N := 10) hc rfl rfl (by decide) (by decide) (by omega) (by omega) (v := elF S (dgI m n p)) (hE _ (by omega) (by omega)) ?_
    refine wi_i1 hc rfl rfl ?_
    refine wi_cne hc rfl ⟨by omega, by omega⟩ hb (fun h2_ => ?_) (fun h2_ => ?_)
    · refine wi_ic hc rfl ?_
      refine wi_r0 hc rfl (by rw [cm_268]; rfl) ?_
      rw [bI_f (p := b = -1 ∨ elF S (dgI m n p) = b) (by omega)]
    · refine wi_ic hc rfl ?_
      refine wi_go hc rfl ?_
      refine wi_r1 hc rfl (by rw [cm_268]; rfl) ?_
      rw [bI_t (p := b = -1 ∨ elF S (dgI m n p) = b) (by omega)]
theorem sp_269 {d L t : Nat} {s l : Nat → Int → Int} {c : Int → Int → Int} {S : Int} {m : Nat} (m7 : m < 7) (hO : OM m s) (hE : EM S m s) (hL : LM c S m s) {n p : Int} (n0 : 0 ≤ n) (n1 : n < fct m) (p0 : 0 ≤ p) (p1 : p + 1 < (m : Int)) : ∃ s1, mm_Ev mm_ct mm_CM (d + 2) 269 [.ref 598, .int (iI n), .int (iI p)] (MX L t s l) (some (.int (iI (ndO m n p))), MX L t s1 l) ∧ (∀ c, c ≠ 614 → s1 c = s c) := by
  have hc : (mm_CM 269).2.2.2.2.2.2.2 = mm_cf cd_269 := by rw [cm_269]; rfl
  refine ev_xs ?_
  refine ev_to (mx := 3) (by rw [cm_269]; decide) (by rw [cm_269]; rfl) (by show 3 ≤ _; decide) ?_
  show mm_wp _ _ (0, [some (.ref 598), some (.int (iI n)), some (.int (iI p))], [], MX L t s l) (fun res => ∃ s1, res = (some (.int (iI (ndO m n p))), MX L t s1 l) ∧ (∀ c, c ≠ 614 → s1 c = s c))
  have hfm := fct_r m
  refine wi_a1 hc rfl rfl ?_
  refine wi_i1 hc rfl rfl ?_
  obtain ⟨s1_, hE1_, hF1_, hw1_⟩ := sp_250 (d := 0) (L := L) (t := t) (s := s) (l := l) (f := dgI m n) m7 n0 n1 hO.1 (fun p p0 p1 => hO.2.2 n p n0 n1 p0 p1)
  refine wp_cv (b := 598) (As := [.int (iI n)]) (r := []) hc rfl (by rw [cm_250]; rfl) rfl (Nat.le_of_ble_eq_true rfl) (show 598 < 621 by decide) (by rw [cm_250]; rfl) (ev_mono hE1_ (by omega)) ?_
  show mm_wp _ _ (5, [some (.ref 598), some (.int (iI n)), some (.int (iI p))], [], MX L t s1_ l) _
  refine wi_a1 hc rfl rfl ?_
  refine wi_i1 hc rfl rfl ?_
  obtain ⟨s2_, hE2_, hF2_, hp2_⟩ := sp_251 (d := 0) (L := L) (t := t) (s := s1_) (l := l) (i := p) (by omega) (by omega)
  refine wp_cv (b := 598) (As := [.int (iI p)]) (r := []) hc rfl (by rw [cm_251]; rfl) rfl (Nat.le_of_ble_eq_true rfl) (show 598 < 621 by decide) (by rw [cm_251]; rfl) (ev_mono hE2_ (by omega)) ?_
  show mm_wp _ _ (10, [some (.ref 598), some (.int (iI n)), some (.int (iI p))], [], MX L t s2_ l) _
  refine wi_a1 hc rfl rfl ?_
  have hww : ∀ q, 0 ≤ q → q < (m : Int) → s2_ 614 q = mvF (dgI m n) p q := fun q q0 q1 => by
    rw [hp2_ q, hw1_ (p + 1) (by omega) (by omega), hw1_ p (by omega) (by omega), hw1_ q q0 q1]
    unfold mvF
    rw [if_neg (show ¬ p = -1 by omega)]
  have hmv := mv_ok m7 n0 n1 (p := p) (by omega)
  refine wp_cv (b := 598) (As := []) (r := []) hc rfl (by rw [cm_249]; rfl) rfl (Nat.le_of_ble_eq_true rfl) (show 598 < 621 by decide) (by rw [cm_249]; rfl) (ev_mono (sp_249 (d := 0) (L := L) (t := t) (s := s2_) (l := l) (f := mvF (dgI m n) p) m7 hww hmv.1 ((congrFun ((hF2_ 598 (by decide)).trans (hF1_ 598 (by decide))) _).trans hO.1)) (by omega)) ?_
  show mm_wp _ _ (14, [some (.ref 598), some (.int (iI n)), some (.int (iI p))], [.int (iI (ndO m n p))], MX L t s2_ l) _
  refine wi_ri hc rfl (by rw [cm_269]; rfl) ?_
  exact ⟨s2_, rfl, fun c hc9_ => (hF2_ c (by omega)).trans (hF1_ c (by omega))⟩
theorem sp_272 {d L t : Nat} {s l : Nat → Int → Int} {c : Int → Int → Int} {S : Int} {m : Nat} (m7 : m < 7) (hO : OM m s) (hE : EM S m s) (hL : LM c S m s) {n p k : Int} (n0 : 0 ≤ n) (n1 : n < fct m) (hp : p = -1 ∨ (0 ≤ p ∧ p + 1 < (m : Int))) (k0 : 0 ≤ k) (k1 : k ≤ 1) : ∃ s1, mm_Ev mm_ct mm_CM (d + 3) 272 [.ref 598, .int (iI n), .int (iI p), .int (iI k)] (MX L t s l) (some (.int (iI (ldO c S m n p k))), MX L t s1 l) ∧ (∀ c, c ≠ 614 → s1 c = s c) := by
  have hc : (mm_CM 272).2.2.2.2.2.2.2 = mm_cf cd_272 := by rw [cm_272]; rfl
  refine ev_xs ?_
  refine ev_to (mx := 4) (by rw [cm_272]; decide) (by rw [cm_272]; rfl) (by show 4 ≤ _; decide) ?_
  show mm_wp _ _ (0, [some (.ref 598), some (.int (iI n)), some (.int (iI p)), some (.int (iI k))], [], MX L t s l) (fun res => ∃ s1, res = (some (.int (iI (ldO c S m n p k))), MX L t s1 l) ∧ (∀ c, c ≠ 614 → s1 c = s c))
  have hfm := fct_r m
  refine wi_a1 hc rfl rfl ?_
  refine wi_gr (w := 611) hc rfl rfl (by decide) (Nat.le_of_ble_eq_true rfl) rfl ?_
  refine wi_ic hc rfl ?_
  refine wi_i1 hc rfl rfl ?_
  refine wi_ic hc rfl ?_
  refine wi_cne hc rfl ⟨by omega, by omega⟩ ⟨by decide, by decide⟩ (fun h1_ => ?_) (fun h1_ => ?_)
  · refine wi_a1 hc rfl rfl ?_
    refine wi_i1 hc rfl rfl ?_
    refine wi_i1 hc rfl rfl ?_
    obtain ⟨s1_, hE1_, hF1_⟩ := sp_269 (d := 0) (L := L) (t := t) (l := l) m7 hO hE hL (n := n) (p := p) (by omega) (by omega) (by omega) (by omega)
    refine wp_cv (b := 598) (As := [.int (iI n), .int (iI p)]) (r := [.int (iI 2), .ref 611]) hc rfl (by rw [cm_269]; rfl) rfl (Nat.le_of_ble_eq_true rfl) (show 598 < 621 by decide) (by rw [cm_269]; rfl) (ev_mono hE1_ (by omega)) ?_
    show mm_wp _ _ (20, [some (.ref 598), some (.int (iI n)), some (.int (iI p)), some (.int (iI k))], [.int (iI (ndO m n p)), .int (iI 2), .ref 611], MX L t s1_ l) _
    have hvn : rkI m (nF (cE c S) m k (dgI m (ndO m n p))) = ldO c S m n p k := ld_nd m7 n0 n1 (by omega) k0
    have hvr : 0 ≤ ndO m n p ∧ ndO m n p < fct m := (nd_ok m7 n0 n1 (by omega)).1
    have hL2 : LM c S m s1_ := hL.of (hF1_ 611 (by decide)) (hF1_ 612 (by decide))
    refine wi_mul hc rfl ?_
    refine wi_i1 hc rfl rfl ?_
    refine wi_add hc rfl ?_
    refine wi_ildv (N := 1440) hc rfl rfl (by decide) (by decide) (by omega) (by omega) (v := ldO c S m n p k) ((hL2.1 (ndO m n p) k (by omega) (by omega) (by omega) (by omega)).trans hvn) ?_
    refine wi_ri hc rfl (by rw [cm_272]; rfl) ?_
    exact ⟨s1_, rfl, fun c hc9_ => hF1_ c (by omega)⟩
  · refine wi_i1 hc rfl rfl ?_
    refine wi_go hc rfl ?_
    have hvn : rkI m (nF (cE c S) m k (dgI m n)) = ldO c S m n p k := by rw [show p = -1 by omega]; exact ld_none n k
    have hvr : 0 ≤ n ∧ n < fct m := ⟨n0, n1⟩
    refine wi_mul hc rfl ?_
    refine wi_i1 hc rfl rfl ?_
    refine wi_add hc rfl ?_
    refine wi_ildv (N := 1440) hc rfl rfl (by decide) (by decide) (by omega) (by omega) (v := ldO c S m n p k) ((hL.1 n k (by omega) (by omega) (by omega) (by omega)).trans hvn) ?_
    refine wi_ri hc rfl (by rw [cm_272]; rfl) ?_
    exact ⟨s, rfl, fun c _ => rfl⟩
theorem sp_273 {d L t : Nat} {s l : Nat → Int → Int} {c : Int → Int → Int} {S : Int} {m : Nat} (m7 : m < 7) (hO : OM m s) (hE : EM S m s) (hL : LM c S m s) {W : Int → Int} (hW : ∀ q, 0 ≤ q → q < ((fct m : Nat) : Int) → s 617 q = W q) (hWr : ∀ q, 0 ≤ q → q < ((fct m : Nat) : Int) → 0 ≤ W q ∧ W q < (m : Int)) (hne : 1 ≤ (m : Int)) {n k lf : Int} (n0 : 0 ≤ n) (n1 : n < fct m) (k0 : 0 ≤ k) (k1 : k ≤ 1) (hlf : lf = 0 ∨ lf = 1) : ∃ s1, mm_Ev mm_ct mm_CM (d + 4) 273 [.ref 598, .int (iI n), .int (iI k), .int (iI lf)] (MX L t s l) (some (.int (iI (gmS (fun p => W (ldO c S m n p k)) lf (if lf = 1 then (m : Int) else -1) m))), MX L t s1 l) ∧ (∀ c, c ≠ 614 → s1 c = s c) := by
  have hc : (mm_CM 273).2.2.2.2.2.2.2 = mm_cf cd_273 := by rw [cm_273]; rfl
  refine ev_xs ?_
  refine ev_to (mx := 7) (by rw [cm_273]; decide) (by rw [cm_273]; rfl) (by show 4 ≤ _; decide) ?_
  show mm_wp _ _ (0, [some (.ref 598), some (.int (iI n)), some (.int (iI k)), some (.int (iI lf)), none, none, none], [], MX L t s l) (fun res => ∃ s1, res = (some (.int (iI (gmS (fun p => W (ldO c S m n p k)) lf (if lf = 1 then (m : Int) else -1) m))), MX L t s1 l) ∧ (∀ c, c ≠ 614 → s1 c = s c))
  have hfm := fct_r m
  refine wi_a1 hc rfl rfl ?_
  refine wi_gr (w := 617) hc rfl rfl (by decide) (Nat.le_of_ble_eq_true rfl) rfl ?_
  refine wi_a1 hc rfl rfl ?_
  refine wi_i1 hc rfl rfl ?_
  refine wi_ic hc rfl ?_
  refine wi_i1 hc rfl rfl ?_
  obtain ⟨s1_, hE1_, hF1_⟩ := sp_272 (d := 0) (L := L) (t := t) (l := l) m7 hO hE hL (n := n) (p := (-1)) (k := k) n0 n1 (by omega) k0 k1
  refine wp_cv (b := 598) (As := [.int (iI n), .int (iI (-1)), .int (iI k)]) (r := [.ref 617]) hc rfl (by rw [cm_272]; rfl) rfl (Nat.le_of_ble_eq_true rfl) (show 598 < 621 by decide) (by rw [cm_272]; rfl) (ev_mono hE1_ (by omega)) ?_
  have hlr1 := (ld_ok (c := c) (S := S) m7 n0 n1 (p := (-1)) (k := k) (by omega) k0).1
  have hwr1 := hWr _ hlr1.1 hlr1.2
  show mm_wp _ _ (11, [some (.ref 598), some (.int (iI n)), some (.int (iI k)), some (.int (iI lf)), none, none, none], [.int (iI (ldO c S m n (-1) k)), .ref 617], MX L t s1_ l) _
  refine wi_ildv (N := 720) hc rfl rfl (by decide) (by decide) (by omega) (by omega) (v := W (ldO c S m n (-1) k)) ((congrFun (hF1_ 617 (by decide)) _).trans (hW _ (by omega) (by omega))) ?_
  refine wi_is2 (L' := [some (.ref 598), some (.int (iI n)), some (.int (iI k)), some (.int (iI lf)), some (.int (iI (W (ldO c S m n (-1) k)))), none, none]) hc rfl (Nat.le_of_ble_eq_true rfl) rfl ?_
  refine wi_ic hc rfl ?_
  refine wi_is2 (L' := [some (.ref 598), some (.int (iI n)), some (.int (iI k)), some (.int (iI lf)), some (.int (iI (W (ldO c S m n (-1) k)))), some (.int (iI 0)), none]) hc rfl (Nat.le_of_ble_eq_true rfl) rfl ?_
  have loop17_ : ∀ p : Int, p ≤ (m : Int) → 0 ≤ p → p + 1 ≤ (m : Int) → ∀ (o6 : Option Value) (s2 : Nat → Int → Int), (∀ c, c ≠ 614 → s2 c = s c) → mm_wp (mm_Ev mm_ct mm_CM (d + 3)) 273 (17, [some (.ref 598), some (.int (iI n)), some (.int (iI k)), some (.int (iI lf)), some (.int (iI (gmS (fun p => W (ldO c S m n p k)) lf (if lf = 1 then (m : Int) else -1) (p + 1).toNat))), some (.int (iI p)), o6], [], MX L t s2 l) (fun res => ∃ s1, res = (some (.int (iI (gmS (fun p => W (ldO c S m n p k)) lf (if lf = 1 then (m : Int) else -1) m))), MX L t s1 l) ∧ (∀ c, c ≠ 614 → s1 c = s c)) := by
    refine up_ind ?_
    intro p hp9 ihp p0 p1 o6 s2 hF2
    have hgs := gmS_r (g := (fun p => W (ldO c S m n p k))) (lf := lf) hne (fun q a b9 => hWr _ ((ld_ok (c := c) (S := S) m7 n0 n1 (p := q) (k := k) (by omega) k0).1).1 ((ld_ok (c := c) (S := S) m7 n0 n1 (p := q) (k := k) (by omega) k0).1).2) (p + 1).toNat (by omega)
    refine wi_i2 hc rfl rfl ?_
    refine wi_ic hc rfl ?_
    refine wi_add hc rfl ?_
    refine wi_a1 hc rfl rfl ?_
    refine wi_gfv (kz := 34) rfl hc rfl rfl (by decide) (Nat.le_of_ble_eq_true rfl) rfl (v := (m : Int)) ((congrFun (hF2 598 (by decide)) _).trans hO.1) ?_
    refine wi_cge hc rfl ⟨by omega, by omega⟩ ⟨by omega, by omega⟩ (fun h1_ => ?_) (fun h1_ => ?_)
    · refine wi_i2 hc rfl rfl ?_
      refine wi_ri hc rfl (by rw [cm_273]; rfl) ?_
      have er : m = (p + 1).toNat := by omega
      have hR : gmS (fun p => W (ldO c S m n p k)) lf (if lf = 1 then (m : Int) else -1) m = gmS (fun p => W (ldO c S m n p k)) lf (if lf = 1 then (m : Int) else -1) (p + 1).toNat := congrArg (gmS (fun p => W (ldO c S m n p k)) lf (if lf = 1 then (m : Int) else -1)) er
      rw [hR]
      exact ⟨s2, rfl, fun c hc9_ => hF2 c (by omega)⟩
    · refine wi_a1 hc rfl rfl ?_
      refine wi_gr (w := 617) hc rfl rfl (by decide) (Nat.le_of_ble_eq_true rfl) rfl ?_
      refine wi_a1 hc rfl rfl ?_
      refine wi_i1 hc rfl rfl ?_
      refine wi_i2 hc rfl rfl ?_
      refine wi_i1 hc rfl rfl ?_
      obtain ⟨s2_, hE2_, hF2_⟩ := sp_272 (d := 0) (L := L) (t := t) (l := l) m7 (hO.of (hF2 598 (by decide)) (hF2 610 (by decide))) (hE.of (hF2 613 (by decide))) (hL.of (hF2 611 (by decide)) (hF2 612 (by decide))) (n := n) (p := p) (k := k) n0 n1 (by omega) k0 k1
      refine wp_cv (b := 598) (As := [.int (iI n), .int (iI p), .int (iI k)]) (r := [.ref 617]) hc rfl (by rw [cm_272]; rfl) rfl (Nat.le_of_ble_eq_true rfl) (show 598 < 621 by decide) (by rw [cm_272]; rfl) (ev_mono hE2_ (by omega)) ?_
      have hlr2 := (ld_ok (c := c) (S := S) m7 n0 n1 (p := p) (k := k) (by omega) k0).1
      have hwr2 := hWr _ hlr2.1 hlr2.2
      show mm_wp _ _ (40, [some (.ref 598), some (.int (iI n)), some (.int (iI k)), some (.int (iI lf)), some (.int (iI (gmS (fun p => W (ldO c S m n p k)) lf (if lf = 1 then (m : Int) else -1) (p + 1).toNat))), some (.int (iI p)), o6], [.int (iI (ldO c S m n p k)), .ref 617], MX L t s2_ l) _
      refine wi_ildv (N := 720) hc rfl rfl (by decide) (by decide) (by omega) (by omega) (v := W (ldO c S m n p k)) ((congrFun ((hF2_ 617 (by decide)).trans (hF2 617 (by decide))) _).trans (hW _ (by omega) (by omega))) ?_
      refine wi_is2 (L' := [some (.ref 598), some (.int (iI n)), some (.int (iI k)), some (.int (iI lf)), some (.int (iI (gmS (fun p => W (ldO c S m n p k)) lf (if lf = 1 then (m : Int) else -1) (p + 1).toNat))), some (.int (iI p)), some (.int (iI (W (ldO c S m n p k))))]) hc rfl (Nat.le_of_ble_eq_true rfl) rfl ?_
      refine wi_i1 hc rfl rfl ?_
      refine wi_zeq hc rfl ⟨by omega, by omega⟩ (fun h2_ => ?_) (fun h2_ => ?_)
      · refine wi_i2 hc rfl rfl ?_
        refine wi_i2 hc rfl rfl ?_
        refine wi_cle hc rfl ⟨by omega, by omega⟩ ⟨by omega, by omega⟩ (fun h3_ => ?_) (fun h3_ => ?_)
        · refine wi_inc (L' := [some (.ref 598), some (.int (iI n)), some (.int (iI k)), some (.int (iI lf)), some (.int (iI (gmS (fun p => W (ldO c S m n p k)) lf (if lf = 1 then (m : Int) else -1) (p + 1).toNat))), some (.int (iI (p + 1))), some (.int (iI (W (ldO c S m n p k))))]) hc rfl rfl rfl ?_
          refine wi_go hc rfl ?_
          have e9 : gmS (fun p => W (ldO c S m n p k)) lf (if lf = 1 then (m : Int) else -1) (p + 1).toNat = gmS (fun p => W (ldO c S m n p k)) lf (if lf = 1 then (m : Int) else -1) (p + 1 + 1).toNat := by
            rw [gmS_s (by omega)]
            by_cases z8 : lf = 1
            · refine Eq.trans ?_ (if_pos z8).symm
              unfold minI
              first
              | (exact (if_pos (by omega)).symm)
              | (exact (if_neg (by omega)).symm)
              | (exfalso; omega)
            · refine Eq.trans ?_ (if_neg z8).symm
              unfold maxI
              first
              | (exact (if_pos (by omega)).symm)
              | (exact (if_neg (by omega)).symm)
              | (exfalso; omega)
          rw [e9]
          exact ihp (by omega) (by omega) (by omega) _ s2_ (fun c hc9_ => (hF2_ c (by omega)).trans (hF2 c (by omega)))
        · refine wi_i2 hc rfl rfl ?_
          refine wi_is2 (L' := [some (.ref 598), some (.int (iI n)), some (.int (iI k)), some (.int (iI lf)), some (.int (iI (W (ldO c S m n p k)))), some (.int (iI p)), some (.int (iI (W (ldO c S m n p k))))]) hc rfl (Nat.le_of_ble_eq_true rfl) rfl ?_
          refine wi_inc (L' := [some (.ref 598), some (.int (iI n)), some (.int (iI k)), some (.int (iI lf)), some (.int (iI (W (ldO c S m n p k)))), some (.int (iI (p + 1))), some (.int (iI (W (ldO c S m n p k))))]) hc rfl rfl rfl ?_
          refine wi_go hc rfl ?_
          have e9 : W (ldO c S m n p k) = gmS (fun p => W (ldO c S m n p k)) lf (if lf = 1 then (m : Int) else -1) (p + 1 + 1).toNat := by
            rw [gmS_s (by omega)]
            by_cases z8 : lf = 1
            · refine Eq.trans ?_ (if_pos z8).symm
              unfold minI
              first
              | (exact (if_pos (by omega)).symm)
              | (exact (if_neg (by omega)).symm)
              | (exfalso; omega)
            · refine Eq.trans ?_ (if_neg z8).symm
              unfold maxI
              first
              | (exact (if_pos (by omega)).symm)
              | (exact (if_neg (by omega)).symm)
              | (exfalso; omega)
          rw [e9]
          exact ihp (by omega) (by omega) (by omega) _ s2_ (fun c hc9_ => (hF2_ c (by omega)).trans (hF2 c (by omega)))
      · refine wi_i2 hc rfl rfl ?_
        refine wi_i2 hc rfl rfl ?_
        refine wi_cge hc rfl ⟨by omega, by omega⟩ ⟨by omega, by omega⟩ (fun h4_ => ?_) (fun h4_ => ?_)
        · refine wi_inc (L' := [some (.ref 598), some (.int (iI n)), some (.int (iI k)), some (.int (iI lf)), some (.int (iI (gmS (fun p => W (ldO c S m n p k)) lf (if lf = 1 then (m : Int) else -1) (p + 1).toNat))), some (.int (iI (p + 1))), some (.int (iI (W (ldO c S m n p k))))]) hc rfl rfl rfl ?_
          refine wi_go hc rfl ?_
          have e9 : gmS (fun p => W (ldO c S m n p k)) lf (if lf = 1 then (m : Int) else -1) (p + 1).toNat = gmS (fun p => W (ldO c S m n p k)) lf (if lf = 1 then (m : Int) else -1) (p + 1 + 1).toNat := by
            rw [gmS_s (by omega)]
            by_cases z8 : lf = 1
            · refine Eq.trans ?_ (if_pos z8).symm
              unfold minI
              first
              | (exact (if_pos (by omega)).symm)
              | (exact (if_neg (by omega)).symm)
              | (exfalso; omega)
            · refine Eq.trans ?_ (if_neg z8).symm
              unfold maxI
              first
              | (exact (if_pos (by omega)).symm)
              | (exact (if_neg (by omega)).symm)
              | (exfalso; omega)
          rw [e9]
          exact ihp (by omega) (by omega) (by omega) _ s2_ (fun c hc9_ => (hF2_ c (by omega)).trans (hF2 c (by omega)))
        · refine wi_go hc rfl ?_
          refine wi_i2 hc rfl rfl ?_
          refine wi_is2 (L' := [some (.ref 598), some (.int (iI n)), some (.int (iI k)), some (.int (iI lf)), some (.int (iI (W (ldO c S m n p k)))), some (.int (iI p)), some (.int (iI (W (ldO c S m n p k))))]) hc rfl (Nat.le_of_ble_eq_true rfl) rfl ?_
          refine wi_inc (L' := [some (.ref 598), some (.int (iI n)), some (.int (iI k)), some (.int (iI lf)), some (.int (iI (W (ldO c S m n p k)))), some (.int (iI (p + 1))), some (.int (iI (W (ldO c S m n p k))))]) hc rfl rfl rfl ?_
          refine wi_go hc rfl ?_
          have e9 : W (ldO c S m n p k) = gmS (fun p => W (ldO c S m n p k)) lf (if lf = 1 then (m : Int) else -1) (p + 1 + 1).toNat := by
            rw [gmS_s (by omega)]
            by_cases z8 : lf = 1
            · refine Eq.trans ?_ (if_pos z8).symm
              unfold minI
              first
              | (exact (if_pos (by omega)).symm)
              | (exact (if_neg (by omega)).symm)
              | (exfalso; omega)
            · refine Eq.trans ?_ (if_neg z8).symm
              unfold maxI
              first
              | (exact (if_pos (by omega)).symm)
              | (exact (if_neg (by omega)).symm)
              | (exfalso; omega)
          rw [e9]
          exact ihp (by omega) (by omega) (by omega) _ s2_ (fun c hc9_ => (hF2_ c (by omega)).trans (hF2 c (by omega)))
  have q9 := loop17_ 0 (by omega) (by omega) (by omega) none s1_ (fun c hc9_ => hF1_ c (by omega))
  have e9 : gmS (fun p => W (ldO c S m n p k)) lf (if lf = 1 then (m : Int) else -1) (0 + 1 : Int).toNat = W (ldO c S m n (-1) k) := gmS_1 (g := (fun p => W (ldO c S m n p k))) (hWr _ hlr1.1 hlr1.2)
  rw [e9] at q9
  exact q9
