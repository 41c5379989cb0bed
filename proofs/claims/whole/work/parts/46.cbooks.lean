/-! What the class says of books. -/
theorem tx_slot {s : Nat → Int → Int} {A T : Int → Int} (h : LB 0 s A T) (hV : VJ A T) (h6 : 0 ≤ A 6) {slot so la : Int} (hs : (so = 0 ∧ 0 ≤ la ∧ la < 6 ∧ slot = la) ∨ (so = 1 ∧ la = 0 ∧ slot = 6) ∨ (so = 2 ∧ la = 0 ∧ slot = 7)) : (clP A T so la < 0 → s (265 + 6 * (A 6).toNat + 4) slot = 0 ∧ s (265 + 6 * (A 6).toNat + 5) slot = 0) ∧ (0 ≤ clP A T so la → s (265 + 6 * (A 6).toNat + 4) slot = T (705 * A 6 + 3 + 4 * clP A T so la) ∧ s (265 + 6 * (A 6).toNat + 5) slot = T (705 * A 6 + 4 + 4 * clP A T so la)) := by
  have hT := lb_text h h6 hV.2.2.2.2.1.2
  have e : clP A T so la = clF T (705 * A 6) so la (T (705 * A 6)).toNat 0 := by unfold clP; rw [if_neg (by omega)]
  rw [e]
  rcases hs with ⟨a, b, c, e⟩ | ⟨a, b, c⟩ | ⟨a, b, c⟩
  · rw [a, e]; exact hT.2.2.1 la b c
  · rw [a, b, c]; exact hT.2.2.2.1
  · rw [a, b, c]; exact hT.2.2.2.2.1
theorem sw_7 {d L t : Nat} {s l : Nat → Int → Int} {A T : Int → Int} (h : LB 0 s A T) (hN : ∀ v, 0 ≤ v → v < 15 → -1000000 ≤ s 578 v ∧ s 578 v ≤ 1000000) (hV : VJ A T) (h6 : 0 ≤ A 6) {slot so la : Int} (hs : (so = 0 ∧ 0 ≤ la ∧ la < 6 ∧ slot = la) ∨ (so = 1 ∧ la = 0 ∧ slot = 6) ∨ (so = 2 ∧ la = 0 ∧ slot = 7)) (hk : 0 ≤ clP A T so la) : ∃ s1, mm_Ev mm_ct mm_CM (d + 2) 7 [.ref 577, .ref (265 + 6 * (A 6).toNat), .int (iI slot)] (MX L t s l) (some (.int (iI (if so = 2 then (vmT T (705 * A 6) (clP A T so la) (s 578)).1 0 else (vmT T (705 * A 6) (clP A T so la) (s 578)).2 0))), MX L t s1 l) ∧ (∀ c, c ≠ 579 → s1 c = s c) := by
  have g5 := hV.2.2.2.1
  have g6 := hV.2.2.2.2.1
  have ht := (tx_slot h hV h6 hs).2 hk
  have hb := clP_b hV so la
  rcases clP_r hV so la with q | ⟨_, q2, q3, q4, q5⟩
  · omega
  obtain ⟨N, h1, h2, h3, h4, h5, h7, h8⟩ := clP_ok hV (so := so) (la := la) (by omega) (by omega) hk
  have hc := (lb_text h h6 g6.2).2.2.2.2.2.2 (clP A T so la) q2 q3 (by omega)
  obtain ⟨s1, e1, e2⟩ := sp_7 (d := d) (L := L) (t := t) (l := l) (kt_now h6 (by omega)) (slot := slot) (by omega) (by omega) ht.1 (by rw [ht.2, h3]) h1 h2 (by omega) h5 (fun j hj => hc _ (by omega) (by omega)) hN (z := decide (so = 2)) (by rw [h8]; by_cases q : so = 2 <;> simp [q])
  refine ⟨s1, ?_, e2⟩
  have e3 : (T (705 * A 6 + 4 + 4 * clP A T so la) - T (705 * A 6 + 3 + 4 * clP A T so la)).toNat = N := by omega
  unfold vmT
  rw [e3]
  by_cases q : so = 2
  · rw [if_pos q]
    simp only [q, decide_true, if_true] at e1
    rw [q]
    exact e1
  · rw [if_neg q]
    simp only [q, decide_false] at e1
    exact e1
theorem sp_80 {d L t : Nat} {s l : Nat → Int → Int} {u : Nat} {x : Int} (hk : KT L t u) (h0 : 0 ≤ x) (h1 : x < 8) (h4 : rI (s (u + 4) x)) (h5 : rI (s (u + 5) x)) : mm_Ev mm_ct mm_CM (d + 1) 80 [.ref u, .int (iI x)] (MX L t s l) (some (.int (iI (bI (s (u + 4) x < s (u + 5) x)))), MX L t s l) := by
  have hc : (mm_CM 80).2.2.2.2.2.2.2 = mm_cf cd_80 := by rw [cm_80]; rfl
  refine ev_of (mx := 2) (by rw [cm_80]; decide) (by rw [cm_80]; rfl) (by show 2 ≤ _; decide) ?_
  show mm_wp _ _ (0, [some (.ref u), some (.int (iI x))], [], MX L t s l) (fun r => r = (some (.int (iI (bI (s (u + 4) x < s (u + 5) x)))), MX L t s l))
  refine wi_i1 hc rfl rfl ?_
  refine wi_zlt hc rfl ⟨by omega, by omega⟩ (fun h1_ => (by exfalso; omega)) (fun h1_ => ?_)
  refine wi_i1 hc rfl rfl ?_
  refine wi_bi hc rfl rfl ?_
  refine wi_cge hc rfl ⟨by omega, by omega⟩ ⟨by decide, by decide⟩ (fun h2_ => (by exfalso; omega)) (fun h2_ => ?_)
  refine wi_a1 hc rfl rfl ?_
  refine wi_grs (w := u + 4) hk.2.1 hc rfl (by have := hk.1; omega) (by decide) rfl ?_
  refine wi_i1 hc rfl rfl ?_
  refine wi_ild (N := 8) hc rfl hk.2.2.2.2.2.1 (by have := hk.1; omega) (by decide) (by omega) (by omega) ?_
  refine wi_a1 hc rfl rfl ?_
  refine wi_grs (w := u + 5) hk.2.1 hc rfl (by have := hk.1; omega) (by decide) rfl ?_
  refine wi_i1 hc rfl rfl ?_
  refine wi_ild (N := 8) hc rfl hk.2.2.2.2.2.2 (by have := hk.1; omega) (by decide) (by omega) (by omega) ?_
  refine wi_cge hc rfl h4 h5 (fun h3_ => ?_) (fun h3_ => ?_)
  · refine wi_ic hc rfl ?_
    refine wi_r0 hc rfl (by rw [cm_80]; rfl) ?_
    rw [bI_f (p := s (u + 4) x < s (u + 5) x) (by omega)]
  · refine wi_ic hc rfl ?_
    refine wi_go hc rfl ?_
    refine wi_r1 hc rfl (by rw [cm_80]; rfl) ?_
    rw [bI_t (p := s (u + 4) x < s (u + 5) x) (by omega)]
theorem sp_13n {d L t : Nat} {s l : Nat → Int → Int} {x : Int} (hx : rI x) (h0 : x < 0 ∨ 4 ≤ x) : mm_Ev mm_ct mm_CM (d + 1) 13 [.ref 1, .int (iI x)] (MX L t s l) (some .null, MX L t s l) := by
  have hc : (mm_CM 13).2.2.2.2.2.2.2 = mm_cf cd_13 := by rw [cm_13]; rfl
  refine ev_of (mx := 2) (by rw [cm_13]; decide) (by rw [cm_13]; rfl) (by show 2 ≤ _; decide) ?_
  show mm_wp _ _ (0, [some (.ref 1), some (.int (iI x))], [], MX L t s l) (fun r => r = (some .null, MX L t s l))
  refine wi_i1 hc rfl rfl ?_
  refine wi_zlt hc rfl hx (fun h1_ => ?_) (fun h1_ => ?_)
  · refine wi_nul hc rfl ?_
    refine wi_ra hc rfl (by rw [cm_13]; rfl) (Or.inl rfl) ?_
    rfl
  · refine wi_i1 hc rfl rfl ?_
    refine wi_ic hc rfl ?_
    refine wi_cge hc rfl hx ⟨by decide, by decide⟩ (fun h2_ => ?_) (fun h2_ => ?_)
    · refine wi_nul hc rfl ?_
      refine wi_ra hc rfl (by rw [cm_13]; rfl) (Or.inl rfl) ?_
      rfl
    · exfalso
      omega
theorem sp_13 {d L t : Nat} {s l : Nat → Int → Int} {x : Int} (h0 : 0 ≤ x) (h1 : x < 4) : mm_Ev mm_ct mm_CM (d + 1) 13 [.ref 1, .int (iI x)] (MX L t s l) (some (.ref (265 + 6 * x.toNat)), MX L t s l) := by
  have hc : (mm_CM 13).2.2.2.2.2.2.2 = mm_cf cd_13 := by rw [cm_13]; rfl
  refine ev_of (mx := 2) (by rw [cm_13]; decide) (by rw [cm_13]; rfl) (by show 2 ≤ _; decide) ?_
  show mm_wp _ _ (0, [some (.ref 1), some (.int (iI x))], [], MX L t s l) (fun r => r = (some (.ref (265 + 6 * x.toNat)), MX L t s l))
  refine wi_i1 hc rfl rfl ?_
  refine wi_zlt hc rfl ⟨by omega, by omega⟩ (fun h1_ => (by exfalso; omega)) (fun h1_ => ?_)
  refine wi_i1 hc rfl rfl ?_
  refine wi_ic hc rfl ?_
  refine wi_cge hc rfl ⟨by omega, by omega⟩ ⟨by decide, by decide⟩ (fun h2_ => (by exfalso; omega)) (fun h2_ => ?_)
  refine wi_a1 hc rfl rfl ?_
  refine wi_gr (w := 23) hc rfl rfl (by decide) (Nat.le_of_ble_eq_true rfl) rfl ?_
  refine wi_i1 hc rfl rfl ?_
  refine wi_ald (w := 265 + 6 * x.toNat) (N := 4) hc rfl (Nat.le_of_ble_eq_true rfl) (Nat.le_of_ble_eq_true rfl) (by decide) rfl (by decide) (by omega) (by omega) (sh_text (by omega) (by omega)) ?_
  refine wi_go hc rfl ?_
  refine wi_ra hc rfl (by rw [cm_13]; rfl) (Or.inr ⟨_, rfl⟩) ?_
  rfl
theorem sp_6 {d L t : Nat} {s l : Nat → Int → Int} {A T : Int → Int} (hJ : JC s A T) (hV : VJ A T) {b : Int} (hb0 : 0 ≤ b) (hb1 : b < A 0) : ∃ s1, mm_Ev mm_ct mm_CM (d + 1) 6 [.ref 577, .ref 1, .int (iI b)] (MX L t s l) (none, MX L t s1 l) ∧ (∀ c, c ≠ 578 → s1 c = s c) ∧ (∀ j, 0 ≤ j → s1 578 j = nmA A b (s 578) j) ∧ JC s1 A T := by
  have hc : (mm_CM 6).2.2.2.2.2.2.2 = mm_cf cd_6 := by rw [cm_6]; rfl
  refine ev_xs ?_
  refine ev_to (mx := 4) (by rw [cm_6]; decide) (by rw [cm_6]; rfl) (by show 3 ≤ _; decide) ?_
  show mm_wp _ _ (0, [some (.ref 577), some (.ref 1), some (.int (iI b)), none], [], MX L t s l) (fun res => ∃ s1, res = (none, MX L t s1 l) ∧ (∀ c, c ≠ 578 → s1 c = s c) ∧ (∀ j, 0 ≤ j → s1 578 j = nmA A b (s 578) j) ∧ JC s1 A T)
  have hL := hJ.1
  have g0 := hV.1
  have g2 := hV.2.1
  have g3 := hV.2.2.1
  have g5 := hV.2.2.2.1
  have g6 := hV.2.2.2.2.1
  refine wi_a1 hc rfl rfl ?_
  refine wi_gr (w := 12) hc rfl rfl (by decide) (Nat.le_of_ble_eq_true rfl) rfl ?_
  refine wi_i1 hc rfl rfl ?_
  refine wi_ald (w := 13 + b.toNat) (N := 10) hc rfl (Nat.le_of_ble_eq_true rfl) (Nat.le_of_ble_eq_true rfl) (by decide) rfl (by decide) (by omega) (by omega) (sh_trait12 (by omega) (by omega)) ?_
  refine wi_as1 (L' := [some (.ref 577), some (.ref 1), some (.int (iI b)), some (.ref (13 + b.toNat))]) hc rfl (Nat.le_of_ble_eq_true rfl) rfl ?_
  refine wi_a1 hc rfl rfl ?_
  refine wi_gr (w := 578) hc rfl rfl (by decide) (Nat.le_of_ble_eq_true rfl) rfl ?_
  refine wi_ic hc rfl ?_
  refine wi_i1 hc rfl rfl ?_
  refine wi_ist (N := 15) hc rfl rfl (by decide) (by decide) (by omega) (by omega) ?_
  obtain ⟨s1_, es1_⟩ : ∃ q, q = up s 578 0 b := ⟨_, rfl⟩
  rw [← es1_]
  refine wi_a1 hc rfl rfl ?_
  refine wi_gr (w := 578) hc rfl rfl (by decide) (Nat.le_of_ble_eq_true rfl) rfl ?_
  refine wi_ic hc rfl ?_
  refine wi_a1 hc rfl rfl ?_
  refine wi_ic hc rfl ?_
  refine wi_ildv (N := 5) hc rfl (sh_traits (by omega) (by omega)) (by omega) (by decide) (by omega) (by omega) (v := A (46 + 6 * b + 0)) (((congrFun (congrFun es1_ _) _).trans (up_c (by omega))).trans (lb_tr hL (by omega) (by omega) (by omega) (by omega))) ?_
  refine wi_ist (N := 15) hc rfl rfl (by decide) (by decide) (by omega) (by omega) ?_
  obtain ⟨s2_, es2_⟩ : ∃ q, q = up s1_ 578 1 (A (46 + 6 * b + 0)) := ⟨_, rfl⟩
  rw [← es2_]
  refine wi_a1 hc rfl rfl ?_
  refine wi_gr (w := 578) hc rfl rfl (by decide) (Nat.le_of_ble_eq_true rfl) rfl ?_
  refine wi_ic hc rfl ?_
  refine wi_a1 hc rfl rfl ?_
  refine wi_ic hc rfl ?_
  refine wi_ildv (N := 5) hc rfl (sh_traits (by omega) (by omega)) (by omega) (by decide) (by omega) (by omega) (v := A (46 + 6 * b + 1)) (((congrFun (congrFun es2_ _) _).trans (up_c (by omega))).trans (((congrFun (congrFun es1_ _) _).trans (up_c (by omega))).trans (lb_tr hL (by omega) (by omega) (by omega) (by omega)))) ?_
  refine wi_ist (N := 15) hc rfl rfl (by decide) (by decide) (by omega) (by omega) ?_
  obtain ⟨s3_, es3_⟩ : ∃ q, q = up s2_ 578 2 (A (46 + 6 * b + 1)) := ⟨_, rfl⟩
  rw [← es3_]
  refine wi_a1 hc rfl rfl ?_
  refine wi_gr (w := 578) hc rfl rfl (by decide) (Nat.le_of_ble_eq_true rfl) rfl ?_
  refine wi_ic hc rfl ?_
  refine wi_a1 hc rfl rfl ?_
  refine wi_ic hc rfl ?_
  refine wi_ildv (N := 5) hc rfl (sh_traits (by omega) (by omega)) (by omega) (by decide) (by omega) (by omega) (v := A (46 + 6 * b + 2)) (((congrFun (congrFun es3_ _) _).trans (up_c (by omega))).trans (((congrFun (congrFun es2_ _) _).trans (up_c (by omega))).trans (((congrFun (congrFun es1_ _) _).trans (up_c (by omega))).trans (lb_tr hL (by omega) (by omega) (by omega) (by omega))))) ?_
  refine wi_ist (N := 15) hc rfl rfl (by decide) (by decide) (by omega) (by omega) ?_
  obtain ⟨s4_, es4_⟩ : ∃ q, q = up s3_ 578 3 (A (46 + 6 * b + 2)) := ⟨_, rfl⟩
  rw [← es4_]
  refine wi_a1 hc rfl rfl ?_
  refine wi_gr (w := 578) hc rfl rfl (by decide) (Nat.le_of_ble_eq_true rfl) rfl ?_
  refine wi_ic hc rfl ?_
  refine wi_a1 hc rfl rfl ?_
  refine wi_ic hc rfl ?_
  refine wi_ildv (N := 5) hc rfl (sh_traits (by omega) (by omega)) (by omega) (by decide) (by omega) (by omega) (v := A (46 + 6 * b + 3)) (((congrFun (congrFun es4_ _) _).trans (up_c (by omega))).trans (((congrFun (congrFun es3_ _) _).trans (up_c (by omega))).trans (((congrFun (congrFun es2_ _) _).trans (up_c (by omega))).trans (((congrFun (congrFun es1_ _) _).trans (up_c (by omega))).trans (lb_tr hL (by omega) (by omega) (by omega) (by omega)))))) ?_
  refine wi_ist (N := 15) hc rfl rfl (by decide) (by decide) (by omega) (by omega) ?_
  obtain ⟨s5_, es5_⟩ : ∃ q, q = up s4_ 578 4 (A (46 + 6 * b + 3)) := ⟨_, rfl⟩
  rw [← es5_]
  refine wi_a1 hc rfl rfl ?_
  refine wi_gr (w := 578) hc rfl rfl (by decide) (Nat.le_of_ble_eq_true rfl) rfl ?_
  refine wi_ic hc rfl ?_
  refine wi_a1 hc rfl rfl ?_
  refine wi_gr (w := 2) hc rfl rfl (by decide) (Nat.le_of_ble_eq_true rfl) rfl ?_
  refine wi_gfv (kz := 5) rfl hc rfl rfl (by decide) (Nat.le_of_ble_eq_true rfl) rfl (v := A 2) (((congrFun (congrFun es5_ _) _).trans (up_c (by decide))).trans (((congrFun (congrFun es4_ _) _).trans (up_c (by decide))).trans (((congrFun (congrFun es3_ _) _).trans (up_c (by decide))).trans (((congrFun (congrFun es2_ _) _).trans (up_c (by decide))).trans (((congrFun (congrFun es1_ _) _).trans (up_c (by decide))).trans (lb_wet hL)))))) ?_
  refine wi_b01 hc rfl rfl rfl rfl (by omega) ?_
  refine wi_ist (N := 15) hc rfl rfl (by decide) (by decide) (by omega) (by omega) ?_
  obtain ⟨s6_, es6_⟩ : ∃ q, q = up s5_ 578 5 (A 2) := ⟨_, rfl⟩
  rw [← es6_]
  refine wi_rv hc rfl (by rw [cm_6]; rfl) ?_
  have hM : ∀ j, 0 ≤ j → s6_ 578 j = nmA A b (s 578) j := fun j hj => by
    rcases (by omega : j = 0 ∨ j = 1 ∨ j = 2 ∨ j = 3 ∨ j = 4 ∨ j = 5 ∨ 6 ≤ j) with q | q | q | q | q | q | q
    · rw [q]; exact ((congrFun (congrFun es6_ _) _).trans (up_k (by omega))).trans (((congrFun (congrFun es5_ _) _).trans (up_k (by omega))).trans (((congrFun (congrFun es4_ _) _).trans (up_k (by omega))).trans (((congrFun (congrFun es3_ _) _).trans (up_k (by omega))).trans (((congrFun (congrFun es2_ _) _).trans (up_k (by omega))).trans ((congrFun (congrFun es1_ _) _).trans (up_e (by omega)))))))
    · rw [q]; exact ((congrFun (congrFun es6_ _) _).trans (up_k (by omega))).trans (((congrFun (congrFun es5_ _) _).trans (up_k (by omega))).trans (((congrFun (congrFun es4_ _) _).trans (up_k (by omega))).trans (((congrFun (congrFun es3_ _) _).trans (up_k (by omega))).trans ((congrFun (congrFun es2_ _) _).trans (up_e (by omega))))))
    · rw [q]; exact ((congrFun (congrFun es6_ _) _).trans (up_k (by omega))).trans (((congrFun (congrFun es5_ _) _).trans (up_k (by omega))).trans (((congrFun (congrFun es4_ _) _).trans (up_k (by omega))).trans ((congrFun (congrFun es3_ _) _).trans (up_e (by omega)))))
    · rw [q]; exact ((congrFun (congrFun es6_ _) _).trans (up_k (by omega))).trans (((congrFun (congrFun es5_ _) _).trans (up_k (by omega))).trans ((congrFun (congrFun es4_ _) _).trans (up_e (by omega))))
    · rw [q]; exact ((congrFun (congrFun es6_ _) _).trans (up_k (by omega))).trans ((congrFun (congrFun es5_ _) _).trans (up_e (by omega)))
    · rw [q]; exact (congrFun (congrFun es6_ _) _).trans (up_e (by omega))
    · rw [es6_, up_k (by omega), es5_, up_k (by omega), es4_, up_k (by omega), es3_, up_k (by omega), es2_, up_k (by omega), es1_, up_k (by omega)]
      unfold nmA
      rw [if_neg (by omega), if_neg (by omega), if_neg (by omega)]
  have hFr : (∀ c, c ≠ 578 → s6_ c = s c) := fun c hc9_ => ((congrFun es6_ c).trans (up_cc (by omega))).trans (((congrFun es5_ c).trans (up_cc (by omega))).trans (((congrFun es4_ c).trans (up_cc (by omega))).trans (((congrFun es3_ c).trans (up_cc (by omega))).trans (((congrFun es2_ c).trans (up_cc (by omega))).trans ((congrFun es1_ c).trans (up_cc (by omega)))))))
  have hB : ∀ v, 0 ≤ v → v < 15 → -1000000 ≤ s6_ 578 v ∧ s6_ 578 v ≤ 1000000 := fun v hv hv2 => by rw [hM v hv]; exact nmA_r hV hb0 hb1 (fun j h1 h2 => hJ.2 j (by omega) h2) v hv hv2
  exact ⟨s6_, rfl, hFr, hM, hL.of hV.1 hV.2.2.2.1 (fun e q1 q2 => hFr e (by omega)), hB⟩
theorem sp_1 {d L t : Nat} {s l : Nat → Int → Int} {A T : Int → Int} (hJ : JC s A T) (hV : VJ A T) {la b o right : Int} (hla0 : 0 ≤ la) (hla1 : la < 6) (hb0 : 0 ≤ b) (hb1 : b < A 0) (ho0 : 0 ≤ o) (ho1 : o < A 0) (hr : right = 0 ∨ right = 1) : ∃ s1, mm_Ev mm_ct mm_CM (d + 3) 1 [.ref 577, .ref 1, .int (iI la), .int (iI b), .int (iI o), .int (iI right)] (MX L t s l) (some (.int (iI (pushP A T la b o right))), MX L t s1 l) ∧ (∀ c, c ≠ 578 ∧ c ≠ 579 → s1 c = s c) ∧ JC s1 A T := by
  have hc : (mm_CM 1).2.2.2.2.2.2.2 = mm_cf cd_1 := by rw [cm_1]; rfl
  refine ev_xs ?_
  refine ev_to (mx := 8) (by rw [cm_1]; decide) (by rw [cm_1]; rfl) (by show 6 ≤ _; decide) ?_
  show mm_wp _ _ (0, [some (.ref 577), some (.ref 1), some (.int (iI la)), some (.int (iI b)), some (.int (iI o)), some (.int (iI right)), none, none], [], MX L t s l) (fun res => ∃ s1, res = (some (.int (iI (pushP A T la b o right))), MX L t s1 l) ∧ (∀ c, c ≠ 578 ∧ c ≠ 579 → s1 c = s c) ∧ JC s1 A T)
  have hL := hJ.1
  have g0 := hV.1
  have g2 := hV.2.1
  have g3 := hV.2.2.1
  have g5 := hV.2.2.2.1
  have g6 := hV.2.2.2.2.1
  have hp01 := pushP_01 hV (la := la) hb0 hb1 ho0 ho1 hr
  refine wi_a1 hc rfl rfl ?_
  refine wi_a1 hc rfl rfl ?_
  refine wi_gfv (kz := 11) rfl hc rfl rfl (by decide) (Nat.le_of_ble_eq_true rfl) rfl (v := A 6) (lb_rul hL) ?_
  by_cases h6_ : A 6 < 0
  · refine wp_cv (b := 1) (As := [.int (iI (A 6))]) (r := []) hc rfl (by rw [cm_13]; rfl) rfl (Nat.le_of_ble_eq_true rfl) (show 1 < 621 by decide) (by rw [cm_13]; rfl) (ev_mono (sp_13n (d := 0) ⟨by omega, by omega⟩ (Or.inl h6_)) (by omega)) ?_
    show mm_wp _ _ (8, [some (.ref 577), some (.ref 1), some (.int (iI la)), some (.int (iI b)), some (.int (iI o)), some (.int (iI right)), none, none], [.null], MX L t s l) _
    refine wi_asn2 (L' := [some (.ref 577), some (.ref 1), some (.int (iI la)), some (.int (iI b)), some (.int (iI o)), some (.int (iI right)), some (.null), none]) hc rfl (Nat.le_of_ble_eq_true rfl) rfl ?_
    refine wi_aln2 (ln := 0) hc rfl rfl ?_
    refine wi_ifnn hc rfl ?_
    refine wi_ic hc rfl ?_
    refine wi_r0 hc rfl (by rw [cm_1]; rfl) ?_
    refine ⟨s, ?_, fun c hc9_ => rfl, hJ⟩
    rw [show pushP A T la b o right = 0 from by unfold pushP; rw [if_pos (by first | omega | (unfold clP; rw [if_pos (by omega)]; decide))]]
  · refine wp_cv (b := 1) (As := [.int (iI (A 6))]) (r := []) hc rfl (by rw [cm_13]; rfl) rfl (Nat.le_of_ble_eq_true rfl) (show 1 < 621 by decide) (by rw [cm_13]; rfl) (ev_mono (sp_13 (d := 0) (x := A 6) (by omega) (by omega)) (by omega)) ?_
    show mm_wp _ _ (8, [some (.ref 577), some (.ref 1), some (.int (iI la)), some (.int (iI b)), some (.int (iI o)), some (.int (iI right)), none, none], [.ref (265 + 6 * (A 6).toNat)], MX L t s l) _
    refine wi_as2 (L' := [some (.ref 577), some (.ref 1), some (.int (iI la)), some (.int (iI b)), some (.int (iI o)), some (.int (iI right)), some (.ref (265 + 6 * (A 6).toNat)), none]) hc rfl (Nat.le_of_ble_eq_true rfl) rfl ?_
    refine wi_a2 hc rfl rfl ?_
    refine wi_ifnr hc rfl ?_
    refine wi_a2 hc rfl rfl ?_
    refine wi_i1 hc rfl rfl ?_
    have hts_ := tx_slot hL hV (by omega) (slot := la) (so := 0) (la := la) (Or.inl ⟨rfl, by omega, by omega, rfl⟩)
    have htb_ := clP_b hV 0 la
    have htr_ : rI (s (265 + 6 * (A 6).toNat + 4) la) ∧ rI (s (265 + 6 * (A 6).toNat + 5) la) ∧ (s (265 + 6 * (A 6).toNat + 4) la < s (265 + 6 * (A 6).toNat + 5) la ↔ 0 ≤ clP A T 0 la) := by
      by_cases q : clP A T 0 la < 0
      · have := hts_.1 q
        rw [this.1, this.2]
        exact ⟨r0, r0, by omega⟩
      · have := hts_.2 (by omega)
        rw [this.1, this.2]
        obtain ⟨N, q1, q2, q3, q4, q5, q6, q7⟩ := clP_ok hV (so := 0) (la := la) (by decide) (by decide) (by omega)
        exact ⟨⟨by omega, by omega⟩, ⟨by omega, by omega⟩, by omega⟩
    refine wp_cv (b := 265 + 6 * (A 6).toNat) (As := [.int (iI la)]) (r := []) hc rfl (by rw [cm_80]; rfl) rfl (Nat.le_of_ble_eq_true rfl) (show 265 + 6 * (A 6).toNat < 621 by omega) (by rw [cm_80]; exact congrArg Prod.fst (kt_now (by omega) (by omega)).2.1) (ev_mono (sp_80 (d := 0) (kt_now (by omega) (by omega)) (x := la) (by omega) (by omega) htr_.1 htr_.2.1) (by omega)) ?_
    show mm_wp _ _ (21, [some (.ref 577), some (.ref 1), some (.int (iI la)), some (.int (iI b)), some (.int (iI o)), some (.int (iI right)), some (.ref (265 + 6 * (A 6).toNat)), none], [.int (iI (bI (s (265 + 6 * (A 6).toNat + 4) la < s (265 + 6 * (A 6).toNat + 5) la)))], MX L t s l) _
    refine wi_bne hc rfl (fun h1_ => ?_) (fun h1_ => ?_)
    · refine wi_a1 hc rfl rfl ?_
      refine wi_a1 hc rfl rfl ?_
      refine wi_i1 hc rfl rfl ?_
      obtain ⟨s1_, hE1_, hF1_, hM1_, hJ1_⟩ := sp_6 (d := 0) (L := L) (t := t) (l := l) hJ hV (b := b) (by omega) (by omega)
      refine wp_cv (b := 577) (As := [.ref 1, .int (iI b)]) (r := []) hc rfl (by rw [cm_6]; rfl) rfl (Nat.le_of_ble_eq_true rfl) (show 577 < 621 by decide) (by rw [cm_6]; rfl) (ev_mono hE1_ (by omega)) ?_
      show mm_wp _ _ (32, [some (.ref 577), some (.ref 1), some (.int (iI la)), some (.int (iI b)), some (.int (iI o)), some (.int (iI right)), some (.ref (265 + 6 * (A 6).toNat)), none], [], MX L t s1_ l) _
      refine wi_a1 hc rfl rfl ?_
      refine wi_gr (w := 12) hc rfl rfl (by decide) (Nat.le_of_ble_eq_true rfl) rfl ?_
      refine wi_i2 hc rfl rfl ?_
      refine wi_ald (w := 13 + o.toNat) (N := 10) hc rfl (Nat.le_of_ble_eq_true rfl) (Nat.le_of_ble_eq_true rfl) (by decide) rfl (by decide) (by omega) (by omega) (sh_trait12 (by omega) (by omega)) ?_
      refine wi_as2 (L' := [some (.ref 577), some (.ref 1), some (.int (iI la)), some (.int (iI b)), some (.int (iI o)), some (.int (iI right)), some (.ref (265 + 6 * (A 6).toNat)), some (.ref (13 + o.toNat))]) hc rfl (Nat.le_of_ble_eq_true rfl) rfl ?_
      refine wi_a1 hc rfl rfl ?_
      refine wi_gr (w := 578) hc rfl rfl (by decide) (Nat.le_of_ble_eq_true rfl) rfl ?_
      refine wi_bi hc rfl rfl ?_
      refine wi_i2 hc rfl rfl ?_
      refine wi_b01 hc rfl rfl rfl rfl (by omega) ?_
      refine wi_ist (N := 15) hc rfl rfl (by decide) (by decide) (by omega) (by omega) ?_
      obtain ⟨s2_, es2_⟩ : ∃ q, q = up s1_ 578 6 right := ⟨_, rfl⟩
      rw [← es2_]
      refine wi_a1 hc rfl rfl ?_
      refine wi_gr (w := 578) hc rfl rfl (by decide) (Nat.le_of_ble_eq_true rfl) rfl ?_
      refine wi_bi hc rfl rfl ?_
      refine wi_i2 hc rfl rfl ?_
      refine wi_ist (N := 15) hc rfl rfl (by decide) (by decide) (by omega) (by omega) ?_
      obtain ⟨s3_, es3_⟩ : ∃ q, q = up s2_ 578 7 o := ⟨_, rfl⟩
      rw [← es3_]
      refine wi_a1 hc rfl rfl ?_
      refine wi_gr (w := 578) hc rfl rfl (by decide) (Nat.le_of_ble_eq_true rfl) rfl ?_
      refine wi_bi hc rfl rfl ?_
      refine wi_a2 hc rfl rfl ?_
      refine wi_ic hc rfl ?_
      refine wi_ildv (N := 5) hc rfl (sh_traits (by omega) (by omega)) (by omega) (by decide) (by omega) (by omega) (v := A (46 + 6 * o + 0)) (((congrFun (congrFun es3_ _) _).trans (up_c (by omega))).trans (((congrFun (congrFun es2_ _) _).trans (up_c (by omega))).trans (lb_tr hJ1_.1 (by omega) (by omega) (by omega) (by omega)))) ?_
      refine wi_ist (N := 15) hc rfl rfl (by decide) (by decide) (by omega) (by omega) ?_
      obtain ⟨s4_, es4_⟩ : ∃ q, q = up s3_ 578 8 (A (46 + 6 * o + 0)) := ⟨_, rfl⟩
      rw [← es4_]
      refine wi_a1 hc rfl rfl ?_
      refine wi_gr (w := 578) hc rfl rfl (by decide) (Nat.le_of_ble_eq_true rfl) rfl ?_
      refine wi_bi hc rfl rfl ?_
      refine wi_a2 hc rfl rfl ?_
      refine wi_ic hc rfl ?_
      refine wi_ildv (N := 5) hc rfl (sh_traits (by omega) (by omega)) (by omega) (by decide) (by omega) (by omega) (v := A (46 + 6 * o + 1)) (((congrFun (congrFun es4_ _) _).trans (up_c (by omega))).trans (((congrFun (congrFun es3_ _) _).trans (up_c (by omega))).trans (((congrFun (congrFun es2_ _) _).trans (up_c (by omega))).trans (lb_tr hJ1_.1 (by omega) (by omega) (by omega) (by omega))))) ?_
      refine wi_ist (N := 15) hc rfl rfl (by decide) (by decide) (by omega) (by omega) ?_
      obtain ⟨s5_, es5_⟩ : ∃ q, q = up s4_ 578 9 (A (46 + 6 * o + 1)) := ⟨_, rfl⟩
      rw [← es5_]
      refine wi_a1 hc rfl rfl ?_
      refine wi_gr (w := 578) hc rfl rfl (by decide) (Nat.le_of_ble_eq_true rfl) rfl ?_
      refine wi_bi hc rfl rfl ?_
      refine wi_a2 hc rfl rfl ?_
      refine wi_ic hc rfl ?_
      refine wi_ildv (N := 5) hc rfl (sh_traits (by omega) (by omega)) (by omega) (by decide) (by omega) (by omega) (v := A (46 + 6 * o + 2)) (((congrFun (congrFun es5_ _) _).trans (up_c (by omega))).trans (((congrFun (congrFun es4_ _) _).trans (up_c (by omega))).trans (((congrFun (congrFun es3_ _) _).trans (up_c (by omega))).trans (((congrFun (congrFun es2_ _) _).trans (up_c (by omega))).trans (lb_tr hJ1_.1 (by omega) (by omega) (by omega) (by omega)))))) ?_
      refine wi_ist (N := 15) hc rfl rfl (by decide) (by decide) (by omega) (by omega) ?_
      obtain ⟨s6_, es6_⟩ : ∃ q, q = up s5_ 578 10 (A (46 + 6 * o + 2)) := ⟨_, rfl⟩
      rw [← es6_]
      refine wi_a1 hc rfl rfl ?_
      refine wi_gr (w := 578) hc rfl rfl (by decide) (Nat.le_of_ble_eq_true rfl) rfl ?_
      refine wi_bi hc rfl rfl ?_
      refine wi_a2 hc rfl rfl ?_
      refine wi_ic hc rfl ?_
      refine wi_ildv (N := 5) hc rfl (sh_traits (by omega) (by omega)) (by omega) (by decide) (by omega) (by omega) (v := A (46 + 6 * o + 3)) (((congrFun (congrFun es6_ _) _).trans (up_c (by omega))).trans (((congrFun (congrFun es5_ _) _).trans (up_c (by omega))).trans (((congrFun (congrFun es4_ _) _).trans (up_c (by omega))).trans (((congrFun (congrFun es3_ _) _).trans (up_c (by omega))).trans (((congrFun (congrFun es2_ _) _).trans (up_c (by omega))).trans (lb_tr hJ1_.1 (by omega) (by omega) (by omega) (by omega))))))) ?_
      refine wi_ist (N := 15) hc rfl rfl (by decide) (by decide) (by omega) (by omega) ?_
      obtain ⟨s7_, es7_⟩ : ∃ q, q = up s6_ 578 11 (A (46 + 6 * o + 3)) := ⟨_, rfl⟩
      rw [← es7_]
      have gto := (hV.2.2.2.2.2.1 o ho0 ho1).1
      have hMR : ∀ j, 0 ≤ j → j < 12 → s7_ 578 j = nmL A b o right j := fun j hj hj2 => by
        rcases (by omega : j = 6 ∨ j = 7 ∨ j = 8 ∨ j = 9 ∨ j = 10 ∨ j = 11 ∨ j < 6) with q | q | q | q | q | q | q
        · rw [q]; exact ((congrFun (congrFun es7_ _) _).trans (up_k (by omega))).trans (((congrFun (congrFun es6_ _) _).trans (up_k (by omega))).trans (((congrFun (congrFun es5_ _) _).trans (up_k (by omega))).trans (((congrFun (congrFun es4_ _) _).trans (up_k (by omega))).trans (((congrFun (congrFun es3_ _) _).trans (up_k (by omega))).trans ((congrFun (congrFun es2_ _) _).trans (up_e (by omega)))))))
        · rw [q]; exact ((congrFun (congrFun es7_ _) _).trans (up_k (by omega))).trans (((congrFun (congrFun es6_ _) _).trans (up_k (by omega))).trans (((congrFun (congrFun es5_ _) _).trans (up_k (by omega))).trans (((congrFun (congrFun es4_ _) _).trans (up_k (by omega))).trans ((congrFun (congrFun es3_ _) _).trans (up_e (by omega))))))
        · rw [q]; exact ((congrFun (congrFun es7_ _) _).trans (up_k (by omega))).trans (((congrFun (congrFun es6_ _) _).trans (up_k (by omega))).trans (((congrFun (congrFun es5_ _) _).trans (up_k (by omega))).trans ((congrFun (congrFun es4_ _) _).trans (up_e (by omega)))))
        · rw [q]; exact ((congrFun (congrFun es7_ _) _).trans (up_k (by omega))).trans (((congrFun (congrFun es6_ _) _).trans (up_k (by omega))).trans ((congrFun (congrFun es5_ _) _).trans (up_e (by omega))))
        · rw [q]; exact ((congrFun (congrFun es7_ _) _).trans (up_k (by omega))).trans ((congrFun (congrFun es6_ _) _).trans (up_e (by omega)))
        · rw [q]; exact (congrFun (congrFun es7_ _) _).trans (up_e (by omega))
        · rw [es7_, up_k (by omega), es6_, up_k (by omega), es5_, up_k (by omega), es4_, up_k (by omega), es3_, up_k (by omega), es2_, up_k (by omega), hM1_ j hj]
          unfold nmL nmA
          (repeat' split) <;> first | rfl | omega
      have hLR : LB 0 s7_ A T := hJ1_.1.of hV.1 hV.2.2.2.1 (fun c q1 q2 => ((congrFun es7_ c).trans (up_cc (by omega))).trans (((congrFun es6_ c).trans (up_cc (by omega))).trans (((congrFun es5_ c).trans (up_cc (by omega))).trans (((congrFun es4_ c).trans (up_cc (by omega))).trans (((congrFun es3_ c).trans (up_cc (by omega))).trans ((congrFun es2_ c).trans (up_cc (by omega))))))))
      have hNR : ∀ v, 0 ≤ v → v < 15 → -1000000 ≤ s7_ 578 v ∧ s7_ 578 v ≤ 1000000 := fun v hv hv2 => by
        by_cases q : v < 12
        · rw [hMR v hv q]; exact nmL_r hV hb0 hb1 ho0 ho1 hr v hv hv2
        · rw [es7_, up_k (by omega), es6_, up_k (by omega), es5_, up_k (by omega), es4_, up_k (by omega), es3_, up_k (by omega), es2_, up_k (by omega)]; exact hJ1_.2 v hv hv2
      refine wi_a1 hc rfl rfl ?_
      refine wi_a2 hc rfl rfl ?_
      refine wi_i1 hc rfl rfl ?_
      obtain ⟨s8_, hE8_, hF8_⟩ := sw_7 (d := 0) (L := L) (t := t) (l := l) hLR hNR hV (by omega) (slot := la) (so := 0) (la := la) (Or.inl ⟨rfl, by omega, by omega, rfl⟩) (by omega)
      refine wp_cv (b := 577) (As := [.ref (265 + 6 * (A 6).toNat), .int (iI la)]) (r := []) hc rfl (by rw [cm_7]; rfl) rfl (Nat.le_of_ble_eq_true rfl) (show 577 < 621 by decide) (by rw [cm_7]; rfl) (ev_mono hE8_ (by omega)) ?_
      have hJ8_ : JC s8_ A T := ⟨hLR.of hV.1 hV.2.2.2.1 (fun e q1 q2 => hF8_ e (by omega)), by rw [hF8_ 578 (by decide)]; exact hNR⟩
      have hrv : (if (0 : Int) = 2 then (vmT T (705 * A 6) (clP A T 0 la) (s7_ 578)).1 0 else (vmT T (705 * A 6) (clP A T 0 la) (s7_ 578)).2 0) = pushP A T la b o right := by unfold pushP; rw [if_neg (by decide), if_neg (by omega)]; exact congrArg (fun q : (Int → Int) × (Int → Int) => q.2 0) (vmT_congr (clP_ok hV (so := 0) (by decide) (by decide) (by omega)) (fun v hv0 hv1 hv2 => by unfold okNm at hv2; exact hMR v hv0 (by omega)))
      rw [hrv]
      show mm_wp _ _ (118, [some (.ref 577), some (.ref 1), some (.int (iI la)), some (.int (iI b)), some (.int (iI o)), some (.int (iI right)), some (.ref (265 + 6 * (A 6).toNat)), some (.ref (13 + o.toNat))], [.int (iI (pushP A T la b o right))], MX L t s8_ l) _
      refine wi_b01 hc rfl rfl rfl rfl (by omega) ?_
      refine wi_rx (by omega) hc rfl (by rw [cm_1]; rfl) ?_
      refine ⟨s8_, ?_, fun c hc9_ => (hF8_ c (by omega)).trans (((congrFun es7_ c).trans (up_cc (by omega))).trans (((congrFun es6_ c).trans (up_cc (by omega))).trans (((congrFun es5_ c).trans (up_cc (by omega))).trans (((congrFun es4_ c).trans (up_cc (by omega))).trans (((congrFun es3_ c).trans (up_cc (by omega))).trans (((congrFun es2_ c).trans (up_cc (by omega))).trans (hF1_ c (by omega)))))))), hJ8_⟩
      rfl
    · refine wi_ic hc rfl ?_
      refine wi_r0 hc rfl (by rw [cm_1]; rfl) ?_
      refine ⟨s, ?_, fun c hc9_ => rfl, hJ⟩
      rw [show pushP A T la b o right = 0 from by unfold pushP; rw [if_pos (by first | omega | (unfold clP; rw [if_pos (by omega)]; decide))]]
theorem or12 {p q : Int} (hp : p = 0 ∨ p = 1) (hq : q = 0 ∨ q = 2) : orI p q = p + q := by
  rcases hp with rfl | rfl <;> rcases hq with rfl | rfl <;> rfl
theorem sp_2 {d L t : Nat} {s l : Nat → Int → Int} {A T : Int → Int} (hJ : JC s A T) (hV : VJ A T) {x y : Int} (hx0 : 0 ≤ x) (hx1 : x < A 0) (hy0 : 0 ≤ y) (hy1 : y < A 0) : ∃ s1, mm_Ev mm_ct mm_CM (d + 4) 2 [.ref 577, .ref 1, .int (iI x), .int (iI y)] (MX L t s l) (some (.int (iI (pushP A T (A (46 + 6 * x + 4)) x y 1 + 2 * pushP A T (A (46 + 6 * y + 4)) y x 0))), MX L t s1 l) ∧ (∀ c, c ≠ 578 ∧ c ≠ 579 → s1 c = s c) ∧ JC s1 A T := by
  have hc : (mm_CM 2).2.2.2.2.2.2.2 = mm_cf cd_2 := by rw [cm_2]; rfl
  refine ev_xs ?_
  refine ev_to (mx := 6) (by rw [cm_2]; decide) (by rw [cm_2]; rfl) (by show 4 ≤ _; decide) ?_
  show mm_wp _ _ (0, [some (.ref 577), some (.ref 1), some (.int (iI x)), some (.int (iI y)), none, none], [], MX L t s l) (fun res => ∃ s1, res = (some (.int (iI (pushP A T (A (46 + 6 * x + 4)) x y 1 + 2 * pushP A T (A (46 + 6 * y + 4)) y x 0))), MX L t s1 l) ∧ (∀ c, c ≠ 578 ∧ c ≠ 579 → s1 c = s c) ∧ JC s1 A T)
  have hL := hJ.1
  have g0 := hV.1
  have g2 := hV.2.1
  have g3 := hV.2.2.1
  have g5 := hV.2.2.2.1
  have g6 := hV.2.2.2.2.1
  have gx := hV.2.2.2.2.2.1 x hx0 hx1
  have gy := hV.2.2.2.2.2.1 y hy0 hy1
  have hp1 := pushP_01 hV (la := A (46 + 6 * x + 4)) hx0 hx1 hy0 hy1 (Or.inr rfl)
  have hp2 := pushP_01 hV (la := A (46 + 6 * y + 4)) hy0 hy1 hx0 hx1 (Or.inl rfl)
  refine wi_a1 hc rfl rfl ?_
  refine wi_a1 hc rfl rfl ?_
  refine wi_a1 hc rfl rfl ?_
  refine wi_gr (w := 12) hc rfl rfl (by decide) (Nat.le_of_ble_eq_true rfl) rfl ?_
  refine wi_i1 hc rfl rfl ?_
  refine wi_ald (w := 13 + x.toNat) (N := 10) hc rfl (Nat.le_of_ble_eq_true rfl) (Nat.le_of_ble_eq_true rfl) (by decide) rfl (by decide) (by omega) (by omega) (sh_trait12 (by omega) (by omega)) ?_
  refine wi_ic hc rfl ?_
  refine wi_ildv (N := 5) hc rfl (sh_traits (by omega) (by omega)) (by omega) (by decide) (by omega) (by omega) (v := A (46 + 6 * x + 4)) (lb_tr hL (by omega) (by omega) (by omega) (by omega)) ?_
  refine wi_i1 hc rfl rfl ?_
  refine wi_i1 hc rfl rfl ?_
  refine wi_ic hc rfl ?_
  obtain ⟨s1_, hE1_, hF1_, hJ1_⟩ := sp_1 (d := 0) (L := L) (t := t) (l := l) hJ hV (la := A (46 + 6 * x + 4)) (b := x) (o := y) (right := 1) (by omega) (by omega) (by omega) (by omega) (by omega) (by omega) (by omega)
  refine wp_cv (b := 577) (As := [.ref 1, .int (iI (A (46 + 6 * x + 4))), .int (iI x), .int (iI y), .int (iI 1)]) (r := []) hc rfl (by rw [cm_1]; rfl) rfl (Nat.le_of_ble_eq_true rfl) (show 577 < 621 by decide) (by rw [cm_1]; rfl) (ev_mono hE1_ (by omega)) ?_
  show mm_wp _ _ (16, [some (.ref 577), some (.ref 1), some (.int (iI x)), some (.int (iI y)), none, none], [.int (iI (pushP A T (A (46 + 6 * x + 4)) x y 1))], MX L t s1_ l) _
  refine wi_b01 hc rfl rfl rfl rfl (by omega) ?_
  refine wi_is2 (L' := [some (.ref 577), some (.ref 1), some (.int (iI x)), some (.int (iI y)), some (.int (iI (pushP A T (A (46 + 6 * x + 4)) x y 1))), none]) hc rfl (Nat.le_of_ble_eq_true rfl) rfl ?_
  refine wi_a1 hc rfl rfl ?_
  refine wi_a1 hc rfl rfl ?_
  refine wi_a1 hc rfl rfl ?_
  refine wi_gr (w := 12) hc rfl rfl (by decide) (Nat.le_of_ble_eq_true rfl) rfl ?_
  refine wi_i1 hc rfl rfl ?_
  refine wi_ald (w := 13 + y.toNat) (N := 10) hc rfl (Nat.le_of_ble_eq_true rfl) (Nat.le_of_ble_eq_true rfl) (by decide) rfl (by decide) (by omega) (by omega) (sh_trait12 (by omega) (by omega)) ?_
  refine wi_ic hc rfl ?_
  refine wi_ildv (N := 5) hc rfl (sh_traits (by omega) (by omega)) (by omega) (by decide) (by omega) (by omega) (v := A (46 + 6 * y + 4)) (lb_tr hJ1_.1 (by omega) (by omega) (by omega) (by omega)) ?_
  refine wi_i1 hc rfl rfl ?_
  refine wi_i1 hc rfl rfl ?_
  refine wi_ic hc rfl ?_
  obtain ⟨s2_, hE2_, hF2_, hJ2_⟩ := sp_1 (d := 0) (L := L) (t := t) (l := l) hJ1_ hV (la := A (46 + 6 * y + 4)) (b := y) (o := x) (right := 0) (by omega) (by omega) (by omega) (by omega) (by omega) (by omega) (by omega)
  refine wp_cv (b := 577) (As := [.ref 1, .int (iI (A (46 + 6 * y + 4))), .int (iI y), .int (iI x), .int (iI 0)]) (r := []) hc rfl (by rw [cm_1]; rfl) rfl (Nat.le_of_ble_eq_true rfl) (show 577 < 621 by decide) (by rw [cm_1]; rfl) (ev_mono hE2_ (by omega)) ?_
  show mm_wp _ _ (42, [some (.ref 577), some (.ref 1), some (.int (iI x)), some (.int (iI y)), some (.int (iI (pushP A T (A (46 + 6 * x + 4)) x y 1))), none], [.int (iI (pushP A T (A (46 + 6 * y + 4)) y x 0))], MX L t s2_ l) _
  refine wi_zeq hc rfl ⟨by omega, by omega⟩ (fun h1_ => ?_) (fun h1_ => ?_)
  · refine wi_ic hc rfl ?_
    refine wi_is2 (L' := [some (.ref 577), some (.ref 1), some (.int (iI x)), some (.int (iI y)), some (.int (iI (pushP A T (A (46 + 6 * x + 4)) x y 1))), some (.int (iI 0))]) hc rfl (Nat.le_of_ble_eq_true rfl) rfl ?_
    refine wi_i2 hc rfl rfl ?_
    refine wi_i2 hc rfl rfl ?_
    refine wi_or hc rfl (by omega) (by omega) ?_
    refine wi_ri hc rfl (by rw [cm_2]; rfl) ?_
    refine ⟨s2_, ?_, fun c hc9_ => (hF2_ c (by omega)).trans (hF1_ c (by omega)), hJ2_⟩
    rw [show pushP A T (A (46 + 6 * x + 4)) x y 1 + 2 * pushP A T (A (46 + 6 * y + 4)) y x 0 = orI (pushP A T (A (46 + 6 * x + 4)) x y 1) 0 from by rw [or12 hp1 (by omega)]; omega]
  · refine wi_ic hc rfl ?_
    refine wi_go hc rfl ?_
    refine wi_is2 (L' := [some (.ref 577), some (.ref 1), some (.int (iI x)), some (.int (iI y)), some (.int (iI (pushP A T (A (46 + 6 * x + 4)) x y 1))), some (.int (iI 2))]) hc rfl (Nat.le_of_ble_eq_true rfl) rfl ?_
    refine wi_i2 hc rfl rfl ?_
    refine wi_i2 hc rfl rfl ?_
    refine wi_or hc rfl (by omega) (by omega) ?_
    refine wi_ri hc rfl (by rw [cm_2]; rfl) ?_
    refine ⟨s2_, ?_, fun c hc9_ => (hF2_ c (by omega)).trans (hF1_ c (by omega)), hJ2_⟩
    rw [show pushP A T (A (46 + 6 * x + 4)) x y 1 + 2 * pushP A T (A (46 + 6 * y + 4)) y x 0 = orI (pushP A T (A (46 + 6 * x + 4)) x y 1) 2 from by rw [or12 hp1 (by omega)]; omega]
theorem sp_3 {d L t : Nat} {s l : Nat → Int → Int} {A T : Int → Int} (hJ : JC s A T) (hV : VJ A T) {b : Int} (hb0 : 0 ≤ b) (hb1 : b < A 0) : ∃ s1, mm_Ev mm_ct mm_CM (d + 3) 3 [.ref 577, .ref 1, .int (iI b)] (MX L t s l) (some (.int (iI (thickP A T b))), MX L t s1 l) ∧ (∀ c, c ≠ 578 ∧ c ≠ 579 → s1 c = s c) ∧ JC s1 A T := by
  have hc : (mm_CM 3).2.2.2.2.2.2.2 = mm_cf cd_3 := by rw [cm_3]; rfl
  refine ev_xs ?_
  refine ev_to (mx := 6) (by rw [cm_3]; decide) (by rw [cm_3]; rfl) (by show 3 ≤ _; decide) ?_
  show mm_wp _ _ (0, [some (.ref 577), some (.ref 1), some (.int (iI b)), none, none, none], [], MX L t s l) (fun res => ∃ s1, res = (some (.int (iI (thickP A T b))), MX L t s1 l) ∧ (∀ c, c ≠ 578 ∧ c ≠ 579 → s1 c = s c) ∧ JC s1 A T)
  have hL := hJ.1
  have g0 := hV.1
  have g2 := hV.2.1
  have g3 := hV.2.2.1
  have g5 := hV.2.2.2.1
  have g6 := hV.2.2.2.2.1
  refine wi_a1 hc rfl rfl ?_
  refine wi_gr (w := 12) hc rfl rfl (by decide) (Nat.le_of_ble_eq_true rfl) rfl ?_
  refine wi_i1 hc rfl rfl ?_
  refine wi_ald (w := 13 + b.toNat) (N := 10) hc rfl (Nat.le_of_ble_eq_true rfl) (Nat.le_of_ble_eq_true rfl) (by decide) rfl (by decide) (by omega) (by omega) (sh_trait12 (by omega) (by omega)) ?_
  refine wi_ic hc rfl ?_
  refine wi_ildv (N := 5) hc rfl (sh_traits (by omega) (by omega)) (by omega) (by decide) (by omega) (by omega) (v := A (46 + 6 * b + 2)) (lb_tr hL (by omega) (by omega) (by omega) (by omega)) ?_
  refine wi_is1 (L' := [some (.ref 577), some (.ref 1), some (.int (iI b)), some (.int (iI (A (46 + 6 * b + 2)))), none, none]) hc rfl (Nat.le_of_ble_eq_true rfl) rfl ?_
  refine wi_a1 hc rfl rfl ?_
  refine wi_a1 hc rfl rfl ?_
  refine wi_gfv (kz := 11) rfl hc rfl rfl (by decide) (Nat.le_of_ble_eq_true rfl) rfl (v := A 6) (lb_rul hL) ?_
  by_cases h6_ : A 6 < 0
  · refine wp_cv (b := 1) (As := [.int (iI (A 6))]) (r := []) hc rfl (by rw [cm_13]; rfl) rfl (Nat.le_of_ble_eq_true rfl) (show 1 < 621 by decide) (by rw [cm_13]; rfl) (ev_mono (sp_13n (d := 0) ⟨by omega, by omega⟩ (Or.inl h6_)) (by omega)) ?_
    show mm_wp _ _ (17, [some (.ref 577), some (.ref 1), some (.int (iI b)), some (.int (iI (A (46 + 6 * b + 2)))), none, none], [.null], MX L t s l) _
    refine wi_asn2 (L' := [some (.ref 577), some (.ref 1), some (.int (iI b)), some (.int (iI (A (46 + 6 * b + 2)))), some (.null), none]) hc rfl (Nat.le_of_ble_eq_true rfl) rfl ?_
    refine wi_a1 hc rfl rfl ?_
    refine wi_gr (w := 2) hc rfl rfl (by decide) (Nat.le_of_ble_eq_true rfl) rfl ?_
    refine wi_gfv (kz := 5) rfl hc rfl rfl (by decide) (Nat.le_of_ble_eq_true rfl) rfl (v := A 2) (lb_wet hL) ?_
    refine wi_zeq hc rfl ⟨by omega, by omega⟩ (fun h1_ => ?_) (fun h1_ => ?_)
    · refine wi_i1 hc rfl rfl ?_
      refine wi_ri hc rfl (by rw [cm_3]; rfl) ?_
      refine ⟨s, ?_, fun c hc9_ => rfl, hJ⟩
      rw [show thickP A T b = A (46 + 6 * b + 2) from by unfold thickP; rw [if_neg (by intro hq; have := hq.1; have := hq.2; first | omega | (unfold clP at *; rw [if_pos (by omega)] at *; omega))]; omega]
    · refine wi_aln2 (ln := 0) hc rfl rfl ?_
      refine wi_ifnn hc rfl ?_
      refine wi_i1 hc rfl rfl ?_
      refine wi_ri hc rfl (by rw [cm_3]; rfl) ?_
      refine ⟨s, ?_, fun c hc9_ => rfl, hJ⟩
      rw [show thickP A T b = A (46 + 6 * b + 2) from by unfold thickP; rw [if_neg (by intro hq; have := hq.1; have := hq.2; first | omega | (unfold clP at *; rw [if_pos (by omega)] at *; omega))]; omega]
  · refine wp_cv (b := 1) (As := [.int (iI (A 6))]) (r := []) hc rfl (by rw [cm_13]; rfl) rfl (Nat.le_of_ble_eq_true rfl) (show 1 < 621 by decide) (by rw [cm_13]; rfl) (ev_mono (sp_13 (d := 0) (x := A 6) (by omega) (by omega)) (by omega)) ?_
    show mm_wp _ _ (17, [some (.ref 577), some (.ref 1), some (.int (iI b)), some (.int (iI (A (46 + 6 * b + 2)))), none, none], [.ref (265 + 6 * (A 6).toNat)], MX L t s l) _
    refine wi_as2 (L' := [some (.ref 577), some (.ref 1), some (.int (iI b)), some (.int (iI (A (46 + 6 * b + 2)))), some (.ref (265 + 6 * (A 6).toNat)), none]) hc rfl (Nat.le_of_ble_eq_true rfl) rfl ?_
    refine wi_a1 hc rfl rfl ?_
    refine wi_gr (w := 2) hc rfl rfl (by decide) (Nat.le_of_ble_eq_true rfl) rfl ?_
    refine wi_gfv (kz := 5) rfl hc rfl rfl (by decide) (Nat.le_of_ble_eq_true rfl) rfl (v := A 2) (lb_wet hL) ?_
    refine wi_zeq hc rfl ⟨by omega, by omega⟩ (fun h2_ => ?_) (fun h2_ => ?_)
    · refine wi_i1 hc rfl rfl ?_
      refine wi_ri hc rfl (by rw [cm_3]; rfl) ?_
      refine ⟨s, ?_, fun c hc9_ => rfl, hJ⟩
      rw [show thickP A T b = A (46 + 6 * b + 2) from by unfold thickP; rw [if_neg (by intro hq; have := hq.1; have := hq.2; first | omega | (unfold clP at *; rw [if_pos (by omega)] at *; omega))]; omega]
    · refine wi_a2 hc rfl rfl ?_
      refine wi_ifnr hc rfl ?_
      refine wi_a2 hc rfl rfl ?_
      refine wi_bi hc rfl rfl ?_
      have hts_ := tx_slot hL hV (by omega) (slot := 7) (so := 2) (la := 0) (Or.inr (Or.inr ⟨rfl, rfl, rfl⟩))
      have htb_ := clP_b hV 2 0
      have htr_ : rI (s (265 + 6 * (A 6).toNat + 4) 7) ∧ rI (s (265 + 6 * (A 6).toNat + 5) 7) ∧ (s (265 + 6 * (A 6).toNat + 4) 7 < s (265 + 6 * (A 6).toNat + 5) 7 ↔ 0 ≤ clP A T 2 0) := by
        by_cases q : clP A T 2 0 < 0
        · have := hts_.1 q
          rw [this.1, this.2]
          exact ⟨r0, r0, by omega⟩
        · have := hts_.2 (by omega)
          rw [this.1, this.2]
          obtain ⟨N, q1, q2, q3, q4, q5, q6, q7⟩ := clP_ok hV (so := 2) (la := 0) (by decide) (by decide) (by omega)
          exact ⟨⟨by omega, by omega⟩, ⟨by omega, by omega⟩, by omega⟩
      refine wp_cv (b := 265 + 6 * (A 6).toNat) (As := [.int (iI 7)]) (r := []) hc rfl (by rw [cm_80]; rfl) rfl (Nat.le_of_ble_eq_true rfl) (show 265 + 6 * (A 6).toNat < 621 by omega) (by rw [cm_80]; exact congrArg Prod.fst (kt_now (by omega) (by omega)).2.1) (ev_mono (sp_80 (d := 0) (kt_now (by omega) (by omega)) (x := 7) (by omega) (by omega) htr_.1 htr_.2.1) (by omega)) ?_
      show mm_wp _ _ (41, [some (.ref 577), some (.ref 1), some (.int (iI b)), some (.int (iI (A (46 + 6 * b + 2)))), some (.ref (265 + 6 * (A 6).toNat)), none], [.int (iI (bI (s (265 + 6 * (A 6).toNat + 4) 7 < s (265 + 6 * (A 6).toNat + 5) 7)))], MX L t s l) _
      refine wi_bne hc rfl (fun h3_ => ?_) (fun h3_ => ?_)
      · refine wi_a1 hc rfl rfl ?_
        refine wi_a1 hc rfl rfl ?_
        refine wi_i1 hc rfl rfl ?_
        obtain ⟨s1_, hE1_, hF1_, hM1_, hJ1_⟩ := sp_6 (d := 0) (L := L) (t := t) (l := l) hJ hV (b := b) (by omega) (by omega)
        refine wp_cv (b := 577) (As := [.ref 1, .int (iI b)]) (r := []) hc rfl (by rw [cm_6]; rfl) rfl (Nat.le_of_ble_eq_true rfl) (show 577 < 621 by decide) (by rw [cm_6]; rfl) (ev_mono hE1_ (by omega)) ?_
        show mm_wp _ _ (52, [some (.ref 577), some (.ref 1), some (.int (iI b)), some (.int (iI (A (46 + 6 * b + 2)))), some (.ref (265 + 6 * (A 6).toNat)), none], [], MX L t s1_ l) _
        have hLR := hJ1_.1
        have hNR := hJ1_.2
        have hvb := (vmT_r (clP_ok hV (so := 2) (la := 0) (by decide) (by decide) (by omega)) hNR).1
        have hcg : vmT T (705 * A 6) (clP A T 2 0) (nmS A b) = vmT T (705 * A 6) (clP A T 2 0) (s1_ 578) := vmT_congr (clP_ok hV (so := 2) (by decide) (by decide) (by omega)) (fun v hv0 hv1 hv2 => by unfold okNm at hv2; rw [hM1_ v hv0]; unfold nmS nmA; (repeat' split) <;> first | rfl | omega)
        refine wi_a1 hc rfl rfl ?_
        refine wi_a2 hc rfl rfl ?_
        refine wi_bi hc rfl rfl ?_
        obtain ⟨s2_, hE2_, hF2_⟩ := sw_7 (d := 0) (L := L) (t := t) (l := l) hLR hNR hV (by omega) (slot := 7) (so := 2) (la := 0) (Or.inr (Or.inr ⟨rfl, rfl, rfl⟩)) (by omega)
        refine wp_cv (b := 577) (As := [.ref (265 + 6 * (A 6).toNat), .int (iI 7)]) (r := []) hc rfl (by rw [cm_7]; rfl) rfl (Nat.le_of_ble_eq_true rfl) (show 577 < 621 by decide) (by rw [cm_7]; rfl) (ev_mono hE2_ (by omega)) ?_
        have hJ2_ : JC s2_ A T := ⟨hLR.of hV.1 hV.2.2.2.1 (fun e q1 q2 => hF2_ e (by omega)), by rw [hF2_ 578 (by decide)]; exact hNR⟩
        have hrv : (if (2 : Int) = 2 then (vmT T (705 * A 6) (clP A T 2 0) (s1_ 578)).1 0 else (vmT T (705 * A 6) (clP A T 2 0) (s1_ 578)).2 0) = (vmT T (705 * A 6) (clP A T 2 0) (nmS A b)).1 0 := by rw [if_pos rfl, hcg]
        rw [hrv]
        show mm_wp _ _ (60, [some (.ref 577), some (.ref 1), some (.int (iI b)), some (.int (iI (A (46 + 6 * b + 2)))), some (.ref (265 + 6 * (A 6).toNat)), none], [.int (iI ((vmT T (705 * A 6) (clP A T 2 0) (nmS A b)).1 0))], MX L t s2_ l) _
        skip
        refine wi_is2 (L' := [some (.ref 577), some (.ref 1), some (.int (iI b)), some (.int (iI (A (46 + 6 * b + 2)))), some (.ref (265 + 6 * (A 6).toNat)), some (.int (iI ((vmT T (705 * A 6) (clP A T 2 0) (nmS A b)).1 0)))]) hc rfl (Nat.le_of_ble_eq_true rfl) rfl ?_
        refine wi_i1 hc rfl rfl ?_
        refine wi_i2 hc rfl rfl ?_
        refine wi_zge hc rfl ⟨by rw [hcg]; omega, by rw [hcg]; omega⟩ (fun h4_ => ?_) (fun h4_ => ?_)
        · refine wi_i2 hc rfl rfl ?_
          refine wi_bi hc rfl rfl ?_
          refine wi_cle hc rfl ⟨by rw [hcg]; omega, by rw [hcg]; omega⟩ ⟨by decide, by decide⟩ (fun h5_ => ?_) (fun h5_ => ?_)
          · refine wi_i2 hc rfl rfl ?_
            refine wi_add hc rfl ?_
            refine wi_ri hc rfl (by rw [cm_3]; rfl) ?_
            refine ⟨s2_, ?_, fun c hc9_ => (hF2_ c (by omega)).trans (hF1_ c (by omega)), hJ2_⟩
            rw [show thickP A T b = (A (46 + 6 * b + 2)) + ((vmT T (705 * A 6) (clP A T 2 0) (nmS A b)).1 0) from by unfold thickP; rw [if_pos ⟨by omega, by omega⟩]; unfold c09; (repeat' split) <;> omega]
          · refine wi_bi hc rfl rfl ?_
            refine wi_go hc rfl ?_
            refine wi_add hc rfl ?_
            refine wi_ri hc rfl (by rw [cm_3]; rfl) ?_
            refine ⟨s2_, ?_, fun c hc9_ => (hF2_ c (by omega)).trans (hF1_ c (by omega)), hJ2_⟩
            rw [show thickP A T b = (A (46 + 6 * b + 2)) + 9 from by unfold thickP; rw [if_pos ⟨by omega, by omega⟩]; unfold c09; (repeat' split) <;> omega]
        · refine wi_ic hc rfl ?_
          refine wi_go hc rfl ?_
          refine wi_add hc rfl ?_
          refine wi_ri hc rfl (by rw [cm_3]; rfl) ?_
          refine ⟨s2_, ?_, fun c hc9_ => (hF2_ c (by omega)).trans (hF1_ c (by omega)), hJ2_⟩
          rw [show thickP A T b = (A (46 + 6 * b + 2)) + 0 from by unfold thickP; rw [if_pos ⟨by omega, by omega⟩]; unfold c09; (repeat' split) <;> omega]
      · refine wi_i1 hc rfl rfl ?_
        refine wi_ri hc rfl (by rw [cm_3]; rfl) ?_
        refine ⟨s, ?_, fun c hc9_ => rfl, hJ⟩
        rw [show thickP A T b = A (46 + 6 * b + 2) from by unfold thickP; rw [if_neg (by intro hq; have := hq.1; have := hq.2; first | omega | (unfold clP at *; rw [if_pos (by omega)] at *; omega))]; omega]
theorem sp_4 {d L t : Nat} {s l : Nat → Int → Int} {A T : Int → Int} (hJ : JC s A T) (hV : VJ A T) {x : Int} (hx0 : 0 ≤ x) (hx1 : x ≤ 2) (hm0 : 0 ≤ A (13 + x)) (hm1 : A (13 + x) ≤ 10) (hbk : ∀ p, 0 ≤ p → p < A (13 + x) → 0 ≤ A (16 + 10 * x + p) ∧ A (16 + 10 * x + p) < A 0) : ∃ s1, mm_Ev mm_ct mm_CM (d + 4) 4 [.ref 577, .ref 1, .int (iI x)] (MX L t s l) (some (.int (iI (fullP A T x))), MX L t s1 l) ∧ (∀ c, c ≠ 578 ∧ c ≠ 579 → s1 c = s c) ∧ JC s1 A T := by
  have hc : (mm_CM 4).2.2.2.2.2.2.2 = mm_cf cd_4 := by rw [cm_4]; rfl
  refine ev_xs ?_
  refine ev_to (mx := 5) (by rw [cm_4]; decide) (by rw [cm_4]; rfl) (by show 3 ≤ _; decide) ?_
  show mm_wp _ _ (0, [some (.ref 577), some (.ref 1), some (.int (iI x)), none, none], [], MX L t s l) (fun res => ∃ s1, res = (some (.int (iI (fullP A T x))), MX L t s1 l) ∧ (∀ c, c ≠ 578 ∧ c ≠ 579 → s1 c = s c) ∧ JC s1 A T)
  have hL := hJ.1
  have g0 := hV.1
  have g2 := hV.2.1
  have g3 := hV.2.2.1
  have g5 := hV.2.2.2.1
  have g6 := hV.2.2.2.2.1
  refine wi_ic hc rfl ?_
  refine wi_is1 (L' := [some (.ref 577), some (.ref 1), some (.int (iI x)), some (.int (iI 0)), none]) hc rfl (Nat.le_of_ble_eq_true rfl) rfl ?_
  refine wi_ic hc rfl ?_
  refine wi_is2 (L' := [some (.ref 577), some (.ref 1), some (.int (iI x)), some (.int (iI 0)), some (.int (iI 0))]) hc rfl (Nat.le_of_ble_eq_true rfl) rfl ?_
  have loop5_ : ∀ p : Int, p ≤ A (13 + x) → 0 ≤ p → ∀ (f : Int) (s2 : Nat → Int → Int), f = fullN A T x p.toNat → 0 ≤ f → f ≤ 18 * p → (∀ c, c ≠ 578 ∧ c ≠ 579 → s2 c = s c) → JC s2 A T → mm_wp (mm_Ev mm_ct mm_CM (d + 3)) 4 (5, [some (.ref 577), some (.ref 1), some (.int (iI x)), some (.int (iI f)), some (.int (iI p))], [], MX L t s2 l) (fun res => ∃ s1, res = (some (.int (iI (fullP A T x))), MX L t s1 l) ∧ (∀ c, c ≠ 578 ∧ c ≠ 579 → s1 c = s c) ∧ JC s1 A T) := by
    refine up_ind ?_
    intro p hp ih hp0 f s2 hf hf0 hf1 hF hJ2
    refine wi_i2 hc rfl rfl ?_
    refine wi_a1 hc rfl rfl ?_
    refine wi_gr (w := 2) hc rfl rfl (by decide) (Nat.le_of_ble_eq_true rfl) rfl ?_
    refine wi_gr (w := 7) hc rfl rfl (by decide) (Nat.le_of_ble_eq_true rfl) rfl ?_
    refine wi_i1 hc rfl rfl ?_
    refine wi_ildv (N := 3) hc rfl rfl (by decide) (by decide) (by omega) (by omega) (v := A (13 + x)) (lb_many hJ2.1 (by omega) (by omega)) ?_
    refine wi_cge hc rfl ⟨by omega, by omega⟩ ⟨by omega, by omega⟩ (fun h1_ => ?_) (fun h1_ => ?_)
    · refine wi_i1 hc rfl rfl ?_
      refine wi_ri hc rfl (by rw [cm_4]; rfl) ?_
      have e9 : p = A (13 + x) := by omega
      refine ⟨s2, ?_, hF, hJ2⟩
      rw [show fullP A T x = f from by rw [hf, e9]; rfl]
    · have hb9 := hbk p (by omega) (by omega)
      refine wi_i1 hc rfl rfl ?_
      refine wi_a1 hc rfl rfl ?_
      refine wi_a1 hc rfl rfl ?_
      refine wi_a1 hc rfl rfl ?_
      refine wi_gr (w := 2) hc rfl rfl (by decide) (Nat.le_of_ble_eq_true rfl) rfl ?_
      refine wi_gr (w := 3) hc rfl rfl (by decide) (Nat.le_of_ble_eq_true rfl) rfl ?_
      refine wi_i1 hc rfl rfl ?_
      refine wi_ald (w := 4 + x.toNat) (N := 3) hc rfl (Nat.le_of_ble_eq_true rfl) (Nat.le_of_ble_eq_true rfl) (by decide) rfl (by decide) (by omega) (by omega) (sh_row3 (by omega) (by omega)) ?_
      refine wi_i2 hc rfl rfl ?_
      refine wi_ildv (N := 10) hc rfl (sh_rows (by omega) (by omega)) (by omega) (by decide) (by omega) (by omega) (v := A (16 + 10 * x + p)) (lb_row hJ2.1 (by omega) (by omega) (by omega) (by omega) (by omega)) ?_
      obtain ⟨s1_, hE1_, hF1_, hJ1_⟩ := sp_3 (d := 0) (L := L) (t := t) (l := l) hJ2 hV (b := A (16 + 10 * x + p)) (by omega) (by omega)
      refine wp_cv (b := 577) (As := [.ref 1, .int (iI (A (16 + 10 * x + p)))]) (r := [.int (iI f)]) hc rfl (by rw [cm_3]; rfl) rfl (Nat.le_of_ble_eq_true rfl) (show 577 < 621 by decide) (by rw [cm_3]; rfl) (ev_mono hE1_ (by omega)) ?_
      show mm_wp _ _ (37, [some (.ref 577), some (.ref 1), some (.int (iI x)), some (.int (iI f)), some (.int (iI p))], [.int (iI (thickP A T (A (16 + 10 * x + p)))), .int (iI f)], MX L t s1_ l) _
      have ht9 := thickP_r hV hb9.1 hb9.2
      refine wi_add hc rfl ?_
      refine wi_is1 (L' := [some (.ref 577), some (.ref 1), some (.int (iI x)), some (.int (iI (f + (thickP A T (A (16 + 10 * x + p)))))), some (.int (iI p))]) hc rfl (Nat.le_of_ble_eq_true rfl) rfl ?_
      refine wi_inc (L' := [some (.ref 577), some (.ref 1), some (.int (iI x)), some (.int (iI (f + (thickP A T (A (16 + 10 * x + p)))))), some (.int (iI (p + 1)))]) hc rfl rfl rfl ?_
      refine wi_go hc rfl ?_
      refine ih (by omega) (by omega) _ s1_ ?_ (by omega) (by omega) (fun c hc9_ => (hF1_ c (by omega)).trans (hF c (by omega))) hJ1_
      rw [show (p + 1).toNat = p.toNat + 1 by omega, fullN, hf, show ((p.toNat : Nat) : Int) = p by omega]
  exact loop5_ 0 (by omega) (by omega) 0 s rfl (by decide) (by decide) (fun c _ => rfl) hJ
theorem sp_14 {d L t : Nat} {s l : Nat → Int → Int} {A T : Int → Int} (hJ : JC s A T) (hV : VJ A T) : mm_Ev mm_ct mm_CM (d + 2) 14 [.ref 1] (MX L t s l) (some (.int (iI (needP A T))), MX L t s l) := by
  have hc : (mm_CM 14).2.2.2.2.2.2.2 = mm_cf cd_14 := by rw [cm_14]; rfl
  refine ev_of (mx := 2) (by rw [cm_14]; decide) (by rw [cm_14]; rfl) (by show 1 ≤ _; decide) ?_
  show mm_wp _ _ (0, [some (.ref 1), none], [], MX L t s l) (fun r => r = (some (.int (iI (needP A T))), MX L t s l))
  have hL := hJ.1
  have g0 := hV.1
  have g2 := hV.2.1
  have g3 := hV.2.2.1
  have g5 := hV.2.2.2.1
  have g6 := hV.2.2.2.2.1
  have hc3 := clP_r hV 3 0
  have hc3b := clP_b hV 3 0
  have hn9 := needP_r hV
  refine wi_a1 hc rfl rfl ?_
  refine wi_a1 hc rfl rfl ?_
  refine wi_gfv (kz := 11) rfl hc rfl rfl (by decide) (Nat.le_of_ble_eq_true rfl) rfl (v := A 6) (lb_rul hL) ?_
  by_cases h6_ : A 6 < 0
  · refine wp_cv (b := 1) (As := [.int (iI (A 6))]) (r := []) hc rfl (by rw [cm_13]; rfl) rfl (Nat.le_of_ble_eq_true rfl) (show 1 < 621 by decide) (by rw [cm_13]; rfl) (ev_mono (sp_13n (d := 0) ⟨by omega, by omega⟩ (Or.inl h6_)) (by omega)) ?_
    show mm_wp _ _ (8, [some (.ref 1), none], [.null], MX L t s l) _
    refine wi_asn1 (L' := [some (.ref 1), some (.null)]) hc rfl (Nat.le_of_ble_eq_true rfl) rfl ?_
    refine wi_aln1 hc rfl rfl ?_
    refine wi_ifnn hc rfl ?_
    refine wi_a1 hc rfl rfl ?_
    refine wi_gfv (kz := 9) rfl hc rfl rfl (by decide) (Nat.le_of_ble_eq_true rfl) rfl (v := A 3) (lb_need hL) ?_
    refine wi_ri hc rfl (by rw [cm_14]; rfl) ?_
    rw [show needP A T = A 3 from ?_]
    unfold needP
    rw [if_pos]
    first | (unfold clP; rw [if_pos (by omega)]; decide) | (by_cases q : clP A T 3 0 < 0; exact q; exfalso; rw [if_neg q] at htn; omega)
  · refine wp_cv (b := 1) (As := [.int (iI (A 6))]) (r := []) hc rfl (by rw [cm_13]; rfl) rfl (Nat.le_of_ble_eq_true rfl) (show 1 < 621 by decide) (by rw [cm_13]; rfl) (ev_mono (sp_13 (d := 0) (x := A 6) (by omega) (by omega)) (by omega)) ?_
    show mm_wp _ _ (8, [some (.ref 1), none], [.ref (265 + 6 * (A 6).toNat)], MX L t s l) _
    refine wi_as1 (L' := [some (.ref 1), some (.ref (265 + 6 * (A 6).toNat))]) hc rfl (Nat.le_of_ble_eq_true rfl) rfl ?_
    refine wi_a1 hc rfl rfl ?_
    refine wi_ifnr hc rfl ?_
    have htx := (lb_text hL (by omega) g6.2).2.2.2.2.2.1
    have htn : s (265 + 6 * (A 6).toNat) 7 = if clP A T 3 0 < 0 then 0 else needP A T := by
      rw [htx]
      have e : clP A T 3 0 = clF T (705 * A 6) 3 0 (T (705 * A 6)).toNat 0 := by unfold clP; rw [if_neg (by omega)]
      unfold needP
      rw [e]
      by_cases q : clF T (705 * A 6) 3 0 (T (705 * A 6)).toNat 0 < 0
      · rw [if_pos q, if_pos q]
      · rw [if_neg q, if_neg q, if_neg q]
    have hif : s (265 + 6 * (A 6).toNat) 7 = 0 ∨ s (265 + 6 * (A 6).toNat) 7 = needP A T := by rw [htn]; split <;> simp
    refine wi_a1 hc rfl rfl ?_
    refine wi_gfs (kz := 7) rfl (kt_now (by omega) (by omega)).2.1 hc rfl (by omega) (by decide) rfl (v := s (265 + 6 * (A 6).toNat) 7) (rfl) ?_
    refine wi_zle hc rfl ⟨by omega, by omega⟩ (fun h1_ => ?_) (fun h1_ => ?_)
    · refine wi_a1 hc rfl rfl ?_
      refine wi_gfv (kz := 9) rfl hc rfl rfl (by decide) (Nat.le_of_ble_eq_true rfl) rfl (v := A 3) (lb_need hL) ?_
      refine wi_ri hc rfl (by rw [cm_14]; rfl) ?_
      rw [show needP A T = A 3 from ?_]
      unfold needP
      rw [if_pos]
      first | (unfold clP; rw [if_pos (by omega)]; decide) | (by_cases q : clP A T 3 0 < 0; exact q; exfalso; rw [if_neg q] at htn; omega)
    · refine wi_a1 hc rfl rfl ?_
      refine wi_gfs (kz := 7) rfl (kt_now (by omega) (by omega)).2.1 hc rfl (by omega) (by decide) rfl (v := s (265 + 6 * (A 6).toNat) 7) (rfl) ?_
      refine wi_go hc rfl ?_
      refine wi_ri hc rfl (by rw [cm_14]; rfl) ?_
      rw [show needP A T = s (265 + 6 * (A 6).toNat) 7 from ?_]
      rw [htn, if_neg]
      intro q
      rw [htn, if_pos q] at *
      omega
