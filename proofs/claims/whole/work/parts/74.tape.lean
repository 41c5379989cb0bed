/-! The tape. -/
def tp4 (f : Int → Int) (N x : Int) : Int → Int := fun k => if k = N + 3 then x % 256 else if k = N + 2 then x / 256 % 256 else if k = N + 1 then x / 65536 % 256 else if k = N then x / 16777216 % 256 else f k

theorem sp_134 {d L t : Nat} {s l : Nat → Int → Int} {N x : Int} (hN : s 0 7 = N) (hr : 0 ≤ N ∧ N + 4 ≤ 300) (hx : rI x) : ∃ s1, mm_Ev mm_ct mm_CM (d + 1) 134 [.ref 0, .int (iI x)] (MX L t s l) (none, MX L t s1 l) ∧ s1 597 = tp4 (s 597) N x ∧ (∀ k, s1 0 k = if k = 7 then N + 4 else s 0 k) ∧ (∀ c, c ≠ 0 ∧ c ≠ 597 → s1 c = s c) := by
  have hc : (mm_CM 134).2.2.2.2.2.2.2 = mm_cf cd_134 := by rw [cm_134]; rfl
  refine ev_xs ?_
  refine ev_to (mx := 3) (by rw [cm_134]; decide) (by rw [cm_134]; rfl) (by show 2 ≤ _; decide) ?_
  show mm_wp _ _ (0, [some (.ref 0), some (.int (iI x)), none], [], MX L t s l) (fun res => ∃ s1, res = (none, MX L t s1 l) ∧ s1 597 = tp4 (s 597) N x ∧ (∀ k, s1 0 k = if k = 7 then N + 4 else s 0 k) ∧ (∀ c, c ≠ 0 ∧ c ≠ 597 → s1 c = s c))
  refine wi_bi hc rfl rfl ?_
  refine wi_is1 (L' := [some (.ref 0), some (.int (iI x)), some (.int (iI 24))]) hc rfl (Nat.le_of_ble_eq_true rfl) rfl ?_
  refine wi_i1 hc rfl rfl ?_
  refine wi_zlt hc rfl ⟨by decide, by decide⟩ (fun q => absurd q (by decide)) (fun _ => ?_)
  refine wi_a1 hc rfl rfl ?_
  refine wi_gfv (kz := 7) rfl hc rfl rfl (by decide) (Nat.le_of_ble_eq_true rfl) rfl (v := N) (hN) ?_
  refine wi_si hc rfl rfl ?_
  refine wi_cge hc rfl ⟨by omega, by omega⟩ ⟨by decide, by decide⟩ (fun h2_ => (by exfalso; omega)) (fun h2_ => ?_)
  refine wi_a1 hc rfl rfl ?_
  refine wi_gr (w := 597) hc rfl rfl (by decide) (Nat.le_of_ble_eq_true rfl) rfl ?_
  refine wi_a1 hc rfl rfl ?_
  refine wi_gfv (kz := 7) rfl hc rfl rfl (by decide) (Nat.le_of_ble_eq_true rfl) rfl (v := N) (hN) ?_
  refine wi_i1 hc rfl rfl ?_
  refine wi_i1 hc rfl rfl ?_
  refine wi_ushr 16777216 rfl hc rfl hx (by omega) (by omega) ?_
  refine wi_si hc rfl rfl ?_
  refine wi_msk 8 256 rfl (by decide) (by decide) hc rfl ?_
  refine wi_ist (N := 300) hc rfl rfl (by decide) (by decide) (by omega) (by omega) ?_
  obtain ⟨s1_, es1_⟩ : ∃ q, q = up s 597 N ((x % 4294967296 / 16777216) % 256) := ⟨_, rfl⟩
  rw [← es1_]
  refine wi_a1 hc rfl rfl ?_
  refine wi_dupr hc rfl ?_
  refine wi_gfv (kz := 7) rfl hc rfl rfl (by decide) (Nat.le_of_ble_eq_true rfl) rfl (v := N) (((congrFun (congrFun es1_ _) _).trans (up_c (by decide))).trans (hN)) ?_
  refine wi_ic hc rfl ?_
  refine wi_add hc rfl ?_
  refine wi_pf (kz := 7) rfl hc rfl rfl (by decide) (Nat.le_of_ble_eq_true rfl) rfl (Nat.le_of_ble_eq_true rfl) ⟨rfl, rfl⟩ rfl ?_
  obtain ⟨s2_, es2_⟩ : ∃ q, q = up s1_ 0 7 (N + 1) := ⟨_, rfl⟩
  rw [← es2_]
  refine wi_inc (L' := [some (.ref 0), some (.int (iI x)), some (.int (iI (24 + (-8))))]) hc rfl rfl rfl ?_
  refine wi_go hc rfl ?_
  rw [show (24 + (-8) : Int) = 16 from rfl]
  refine wi_i1 hc rfl rfl ?_
  refine wi_zlt hc rfl ⟨by decide, by decide⟩ (fun q => absurd q (by decide)) (fun _ => ?_)
  refine wi_a1 hc rfl rfl ?_
  refine wi_gfv (kz := 7) rfl hc rfl rfl (by decide) (Nat.le_of_ble_eq_true rfl) rfl (v := N + 1) ((congrFun (congrFun es2_ _) _).trans (up_e (by omega))) ?_
  refine wi_si hc rfl rfl ?_
  refine wi_cge hc rfl ⟨by omega, by omega⟩ ⟨by decide, by decide⟩ (fun h4_ => (by exfalso; omega)) (fun h4_ => ?_)
  refine wi_a1 hc rfl rfl ?_
  refine wi_gr (w := 597) hc rfl rfl (by decide) (Nat.le_of_ble_eq_true rfl) rfl ?_
  refine wi_a1 hc rfl rfl ?_
  refine wi_gfv (kz := 7) rfl hc rfl rfl (by decide) (Nat.le_of_ble_eq_true rfl) rfl (v := N + 1) ((congrFun (congrFun es2_ _) _).trans (up_e (by omega))) ?_
  refine wi_i1 hc rfl rfl ?_
  refine wi_i1 hc rfl rfl ?_
  refine wi_ushr 65536 rfl hc rfl hx (by omega) (by omega) ?_
  refine wi_si hc rfl rfl ?_
  refine wi_msk 8 256 rfl (by decide) (by decide) hc rfl ?_
  refine wi_ist (N := 300) hc rfl rfl (by decide) (by decide) (by omega) (by omega) ?_
  obtain ⟨s3_, es3_⟩ : ∃ q, q = up s2_ 597 (N + 1) ((x % 4294967296 / 65536) % 256) := ⟨_, rfl⟩
  rw [← es3_]
  refine wi_a1 hc rfl rfl ?_
  refine wi_dupr hc rfl ?_
  refine wi_gfv (kz := 7) rfl hc rfl rfl (by decide) (Nat.le_of_ble_eq_true rfl) rfl (v := N + 1) (((congrFun (congrFun es3_ _) _).trans (up_c (by decide))).trans ((congrFun (congrFun es2_ _) _).trans (up_e (by omega)))) ?_
  refine wi_ic hc rfl ?_
  refine wi_add hc rfl ?_
  refine wi_pf (kz := 7) rfl hc rfl rfl (by decide) (Nat.le_of_ble_eq_true rfl) rfl (Nat.le_of_ble_eq_true rfl) ⟨rfl, rfl⟩ rfl ?_
  obtain ⟨s4_, es4_⟩ : ∃ q, q = up s3_ 0 7 ((N + 1) + 1) := ⟨_, rfl⟩
  rw [← es4_]
  refine wi_inc (L' := [some (.ref 0), some (.int (iI x)), some (.int (iI (16 + (-8))))]) hc rfl rfl rfl ?_
  refine wi_go hc rfl ?_
  rw [show (16 + (-8) : Int) = 8 from rfl]
  refine wi_i1 hc rfl rfl ?_
  refine wi_zlt hc rfl ⟨by decide, by decide⟩ (fun q => absurd q (by decide)) (fun _ => ?_)
  refine wi_a1 hc rfl rfl ?_
  refine wi_gfv (kz := 7) rfl hc rfl rfl (by decide) (Nat.le_of_ble_eq_true rfl) rfl (v := (N + 1) + 1) ((congrFun (congrFun es4_ _) _).trans (up_e (by omega))) ?_
  refine wi_si hc rfl rfl ?_
  refine wi_cge hc rfl ⟨by omega, by omega⟩ ⟨by decide, by decide⟩ (fun h6_ => (by exfalso; omega)) (fun h6_ => ?_)
  refine wi_a1 hc rfl rfl ?_
  refine wi_gr (w := 597) hc rfl rfl (by decide) (Nat.le_of_ble_eq_true rfl) rfl ?_
  refine wi_a1 hc rfl rfl ?_
  refine wi_gfv (kz := 7) rfl hc rfl rfl (by decide) (Nat.le_of_ble_eq_true rfl) rfl (v := (N + 1) + 1) ((congrFun (congrFun es4_ _) _).trans (up_e (by omega))) ?_
  refine wi_i1 hc rfl rfl ?_
  refine wi_i1 hc rfl rfl ?_
  refine wi_ushr 256 rfl hc rfl hx (by omega) (by omega) ?_
  refine wi_si hc rfl rfl ?_
  refine wi_msk 8 256 rfl (by decide) (by decide) hc rfl ?_
  refine wi_ist (N := 300) hc rfl rfl (by decide) (by decide) (by omega) (by omega) ?_
  obtain ⟨s5_, es5_⟩ : ∃ q, q = up s4_ 597 ((N + 1) + 1) ((x % 4294967296 / 256) % 256) := ⟨_, rfl⟩
  rw [← es5_]
  refine wi_a1 hc rfl rfl ?_
  refine wi_dupr hc rfl ?_
  refine wi_gfv (kz := 7) rfl hc rfl rfl (by decide) (Nat.le_of_ble_eq_true rfl) rfl (v := (N + 1) + 1) (((congrFun (congrFun es5_ _) _).trans (up_c (by decide))).trans ((congrFun (congrFun es4_ _) _).trans (up_e (by omega)))) ?_
  refine wi_ic hc rfl ?_
  refine wi_add hc rfl ?_
  refine wi_pf (kz := 7) rfl hc rfl rfl (by decide) (Nat.le_of_ble_eq_true rfl) rfl (Nat.le_of_ble_eq_true rfl) ⟨rfl, rfl⟩ rfl ?_
  obtain ⟨s6_, es6_⟩ : ∃ q, q = up s5_ 0 7 (((N + 1) + 1) + 1) := ⟨_, rfl⟩
  rw [← es6_]
  refine wi_inc (L' := [some (.ref 0), some (.int (iI x)), some (.int (iI (8 + (-8))))]) hc rfl rfl rfl ?_
  refine wi_go hc rfl ?_
  rw [show (8 + (-8) : Int) = 0 from rfl]
  refine wi_i1 hc rfl rfl ?_
  refine wi_zlt hc rfl ⟨by decide, by decide⟩ (fun q => absurd q (by decide)) (fun _ => ?_)
  refine wi_a1 hc rfl rfl ?_
  refine wi_gfv (kz := 7) rfl hc rfl rfl (by decide) (Nat.le_of_ble_eq_true rfl) rfl (v := ((N + 1) + 1) + 1) ((congrFun (congrFun es6_ _) _).trans (up_e (by omega))) ?_
  refine wi_si hc rfl rfl ?_
  refine wi_cge hc rfl ⟨by omega, by omega⟩ ⟨by decide, by decide⟩ (fun h8_ => (by exfalso; omega)) (fun h8_ => ?_)
  refine wi_a1 hc rfl rfl ?_
  refine wi_gr (w := 597) hc rfl rfl (by decide) (Nat.le_of_ble_eq_true rfl) rfl ?_
  refine wi_a1 hc rfl rfl ?_
  refine wi_gfv (kz := 7) rfl hc rfl rfl (by decide) (Nat.le_of_ble_eq_true rfl) rfl (v := ((N + 1) + 1) + 1) ((congrFun (congrFun es6_ _) _).trans (up_e (by omega))) ?_
  refine wi_i1 hc rfl rfl ?_
  refine wi_i1 hc rfl rfl ?_
  refine wi_ushr 1 rfl hc rfl hx (by omega) (by omega) ?_
  refine wi_si hc rfl rfl ?_
  refine wi_msk 8 256 rfl (by decide) (by decide) hc rfl ?_
  refine wi_ist (N := 300) hc rfl rfl (by decide) (by decide) (by omega) (by omega) ?_
  obtain ⟨s7_, es7_⟩ : ∃ q, q = up s6_ 597 (((N + 1) + 1) + 1) ((x % 4294967296 / 1) % 256) := ⟨_, rfl⟩
  rw [← es7_]
  refine wi_a1 hc rfl rfl ?_
  refine wi_dupr hc rfl ?_
  refine wi_gfv (kz := 7) rfl hc rfl rfl (by decide) (Nat.le_of_ble_eq_true rfl) rfl (v := ((N + 1) + 1) + 1) (((congrFun (congrFun es7_ _) _).trans (up_c (by decide))).trans ((congrFun (congrFun es6_ _) _).trans (up_e (by omega)))) ?_
  refine wi_ic hc rfl ?_
  refine wi_add hc rfl ?_
  refine wi_pf (kz := 7) rfl hc rfl rfl (by decide) (Nat.le_of_ble_eq_true rfl) rfl (Nat.le_of_ble_eq_true rfl) ⟨rfl, rfl⟩ rfl ?_
  obtain ⟨s8_, es8_⟩ : ∃ q, q = up s7_ 0 7 ((((N + 1) + 1) + 1) + 1) := ⟨_, rfl⟩
  rw [← es8_]
  refine wi_inc (L' := [some (.ref 0), some (.int (iI x)), some (.int (iI (0 + (-8))))]) hc rfl rfl rfl ?_
  refine wi_go hc rfl ?_
  rw [show (0 + (-8) : Int) = -8 from rfl]
  refine wi_i1 hc rfl rfl ?_
  refine wi_zlt hc rfl ⟨by decide, by decide⟩ (fun _ => ?_) (fun q => absurd q (by decide))
  refine wi_rv hc rfl (by rw [cm_134]; rfl) ?_
  refine ⟨s8_, rfl, ?_, ?_, fun c hc9_ => ((congrFun es8_ c).trans (up_cc (by omega))).trans (((congrFun es7_ c).trans (up_cc (by omega))).trans (((congrFun es6_ c).trans (up_cc (by omega))).trans (((congrFun es5_ c).trans (up_cc (by omega))).trans (((congrFun es4_ c).trans (up_cc (by omega))).trans (((congrFun es3_ c).trans (up_cc (by omega))).trans (((congrFun es2_ c).trans (up_cc (by omega))).trans ((congrFun es1_ c).trans (up_cc (by omega)))))))))⟩
  · funext k
    unfold tp4
    rw [es8_, up_cc (by decide)]
    by_cases q3 : k = N + 3
    · rw [es7_, up_e (by omega)]
      (repeat' split) <;> first | rfl | omega
    rw [es7_, up_k (by omega)]
    rw [es6_, up_cc (by decide)]
    by_cases q2 : k = N + 2
    · rw [es5_, up_e (by omega)]
      (repeat' split) <;> first | rfl | omega
    rw [es5_, up_k (by omega)]
    rw [es4_, up_cc (by decide)]
    by_cases q1 : k = N + 1
    · rw [es3_, up_e (by omega)]
      (repeat' split) <;> first | rfl | omega
    rw [es3_, up_k (by omega)]
    rw [es2_, up_cc (by decide)]
    by_cases q0 : k = N
    · rw [es1_, up_e (by omega)]
      (repeat' split) <;> first | rfl | omega
    rw [es1_, up_k (by omega)]
    (repeat' split) <;> first | rfl | omega
  · intro k
    by_cases q : k = 7
    · rw [es8_, up_e q, if_pos q]; omega
    · rw [es8_, up_k q, es7_, up_cc (by decide), es6_, up_k q, es5_, up_cc (by decide), es4_, up_k q, es3_, up_cc (by decide), es2_, up_k q, es1_, up_cc (by decide), if_neg q]
theorem sp_160 {d L t : Nat} {s l : Nat → Int → Int} {N x : Int} (hN : s 598 4 = N) (hr : 0 ≤ N ∧ N + 4 ≤ 300) (hx : rI x) : ∃ s1, mm_Ev mm_ct mm_CM (d + 1) 160 [.ref 598, .int (iI x)] (MX L t s l) (none, MX L t s1 l) ∧ s1 602 = tp4 (s 602) N x ∧ (∀ k, s1 598 k = if k = 4 then N + 4 else s 598 k) ∧ (∀ c, c ≠ 598 ∧ c ≠ 602 → s1 c = s c) := by
  have hc : (mm_CM 160).2.2.2.2.2.2.2 = mm_cf cd_160 := by rw [cm_160]; rfl
  refine ev_xs ?_
  refine ev_to (mx := 3) (by rw [cm_160]; decide) (by rw [cm_160]; rfl) (by show 2 ≤ _; decide) ?_
  show mm_wp _ _ (0, [some (.ref 598), some (.int (iI x)), none], [], MX L t s l) (fun res => ∃ s1, res = (none, MX L t s1 l) ∧ s1 602 = tp4 (s 602) N x ∧ (∀ k, s1 598 k = if k = 4 then N + 4 else s 598 k) ∧ (∀ c, c ≠ 598 ∧ c ≠ 602 → s1 c = s c))
  refine wi_bi hc rfl rfl ?_
  refine wi_is1 (L' := [some (.ref 598), some (.int (iI x)), some (.int (iI 24))]) hc rfl (Nat.le_of_ble_eq_true rfl) rfl ?_
  refine wi_i1 hc rfl rfl ?_
  refine wi_zlt hc rfl ⟨by decide, by decide⟩ (fun q => absurd q (by decide)) (fun _ => ?_)
  refine wi_a1 hc rfl rfl ?_
  refine wi_gr (w := 602) hc rfl rfl (by decide) (Nat.le_of_ble_eq_true rfl) rfl ?_
  refine wi_a1 hc rfl rfl ?_
  refine wi_gfv (kz := 4) rfl hc rfl rfl (by decide) (Nat.le_of_ble_eq_true rfl) rfl (v := N) (hN) ?_
  refine wi_i1 hc rfl rfl ?_
  refine wi_i1 hc rfl rfl ?_
  refine wi_shr 16777216 rfl hc rfl hx (by omega) (by omega) ?_
  refine wi_si hc rfl rfl ?_
  refine wi_msk 8 256 rfl (by decide) (by decide) hc rfl ?_
  refine wi_ist (N := 300) hc rfl rfl (by decide) (by decide) (by omega) (by omega) ?_
  obtain ⟨s1_, es1_⟩ : ∃ q, q = up s 602 N ((x / 16777216) % 256) := ⟨_, rfl⟩
  rw [← es1_]
  refine wi_a1 hc rfl rfl ?_
  refine wi_dupr hc rfl ?_
  refine wi_gfv (kz := 4) rfl hc rfl rfl (by decide) (Nat.le_of_ble_eq_true rfl) rfl (v := N) (((congrFun (congrFun es1_ _) _).trans (up_c (by decide))).trans (hN)) ?_
  refine wi_ic hc rfl ?_
  refine wi_add hc rfl ?_
  refine wi_pf (kz := 4) rfl hc rfl rfl (by decide) (Nat.le_of_ble_eq_true rfl) rfl (Nat.le_of_ble_eq_true rfl) ⟨rfl, rfl⟩ rfl ?_
  obtain ⟨s2_, es2_⟩ : ∃ q, q = up s1_ 598 4 (N + 1) := ⟨_, rfl⟩
  rw [← es2_]
  refine wi_inc (L' := [some (.ref 598), some (.int (iI x)), some (.int (iI (24 + (-8))))]) hc rfl rfl rfl ?_
  refine wi_go hc rfl ?_
  rw [show (24 + (-8) : Int) = 16 from rfl]
  refine wi_i1 hc rfl rfl ?_
  refine wi_zlt hc rfl ⟨by decide, by decide⟩ (fun q => absurd q (by decide)) (fun _ => ?_)
  refine wi_a1 hc rfl rfl ?_
  refine wi_gr (w := 602) hc rfl rfl (by decide) (Nat.le_of_ble_eq_true rfl) rfl ?_
  refine wi_a1 hc rfl rfl ?_
  refine wi_gfv (kz := 4) rfl hc rfl rfl (by decide) (Nat.le_of_ble_eq_true rfl) rfl (v := N + 1) ((congrFun (congrFun es2_ _) _).trans (up_e (by omega))) ?_
  refine wi_i1 hc rfl rfl ?_
  refine wi_i1 hc rfl rfl ?_
  refine wi_shr 65536 rfl hc rfl hx (by omega) (by omega) ?_
  refine wi_si hc rfl rfl ?_
  refine wi_msk 8 256 rfl (by decide) (by decide) hc rfl ?_
  refine wi_ist (N := 300) hc rfl rfl (by decide) (by decide) (by omega) (by omega) ?_
  obtain ⟨s3_, es3_⟩ : ∃ q, q = up s2_ 602 (N + 1) ((x / 65536) % 256) := ⟨_, rfl⟩
  rw [← es3_]
  refine wi_a1 hc rfl rfl ?_
  refine wi_dupr hc rfl ?_
  refine wi_gfv (kz := 4) rfl hc rfl rfl (by decide) (Nat.le_of_ble_eq_true rfl) rfl (v := N + 1) (((congrFun (congrFun es3_ _) _).trans (up_c (by decide))).trans ((congrFun (congrFun es2_ _) _).trans (up_e (by omega)))) ?_
  refine wi_ic hc rfl ?_
  refine wi_add hc rfl ?_
  refine wi_pf (kz := 4) rfl hc rfl rfl (by decide) (Nat.le_of_ble_eq_true rfl) rfl (Nat.le_of_ble_eq_true rfl) ⟨rfl, rfl⟩ rfl ?_
  obtain ⟨s4_, es4_⟩ : ∃ q, q = up s3_ 598 4 ((N + 1) + 1) := ⟨_, rfl⟩
  rw [← es4_]
  refine wi_inc (L' := [some (.ref 598), some (.int (iI x)), some (.int (iI (16 + (-8))))]) hc rfl rfl rfl ?_
  refine wi_go hc rfl ?_
  rw [show (16 + (-8) : Int) = 8 from rfl]
  refine wi_i1 hc rfl rfl ?_
  refine wi_zlt hc rfl ⟨by decide, by decide⟩ (fun q => absurd q (by decide)) (fun _ => ?_)
  refine wi_a1 hc rfl rfl ?_
  refine wi_gr (w := 602) hc rfl rfl (by decide) (Nat.le_of_ble_eq_true rfl) rfl ?_
  refine wi_a1 hc rfl rfl ?_
  refine wi_gfv (kz := 4) rfl hc rfl rfl (by decide) (Nat.le_of_ble_eq_true rfl) rfl (v := (N + 1) + 1) ((congrFun (congrFun es4_ _) _).trans (up_e (by omega))) ?_
  refine wi_i1 hc rfl rfl ?_
  refine wi_i1 hc rfl rfl ?_
  refine wi_shr 256 rfl hc rfl hx (by omega) (by omega) ?_
  refine wi_si hc rfl rfl ?_
  refine wi_msk 8 256 rfl (by decide) (by decide) hc rfl ?_
  refine wi_ist (N := 300) hc rfl rfl (by decide) (by decide) (by omega) (by omega) ?_
  obtain ⟨s5_, es5_⟩ : ∃ q, q = up s4_ 602 ((N + 1) + 1) ((x / 256) % 256) := ⟨_, rfl⟩
  rw [← es5_]
  refine wi_a1 hc rfl rfl ?_
  refine wi_dupr hc rfl ?_
  refine wi_gfv (kz := 4) rfl hc rfl rfl (by decide) (Nat.le_of_ble_eq_true rfl) rfl (v := (N + 1) + 1) (((congrFun (congrFun es5_ _) _).trans (up_c (by decide))).trans ((congrFun (congrFun es4_ _) _).trans (up_e (by omega)))) ?_
  refine wi_ic hc rfl ?_
  refine wi_add hc rfl ?_
  refine wi_pf (kz := 4) rfl hc rfl rfl (by decide) (Nat.le_of_ble_eq_true rfl) rfl (Nat.le_of_ble_eq_true rfl) ⟨rfl, rfl⟩ rfl ?_
  obtain ⟨s6_, es6_⟩ : ∃ q, q = up s5_ 598 4 (((N + 1) + 1) + 1) := ⟨_, rfl⟩
  rw [← es6_]
  refine wi_inc (L' := [some (.ref 598), some (.int (iI x)), some (.int (iI (8 + (-8))))]) hc rfl rfl rfl ?_
  refine wi_go hc rfl ?_
  rw [show (8 + (-8) : Int) = 0 from rfl]
  refine wi_i1 hc rfl rfl ?_
  refine wi_zlt hc rfl ⟨by decide, by decide⟩ (fun q => absurd q (by decide)) (fun _ => ?_)
  refine wi_a1 hc rfl rfl ?_
  refine wi_gr (w := 602) hc rfl rfl (by decide) (Nat.le_of_ble_eq_true rfl) rfl ?_
  refine wi_a1 hc rfl rfl ?_
  refine wi_gfv (kz := 4) rfl hc rfl rfl (by decide) (Nat.le_of_ble_eq_true rfl) rfl (v := ((N + 1) + 1) + 1) ((congrFun (congrFun es6_ _) _).trans (up_e (by omega))) ?_
  refine wi_i1 hc rfl rfl ?_
  refine wi_i1 hc rfl rfl ?_
  refine wi_shr 1 rfl hc rfl hx (by omega) (by omega) ?_
  refine wi_si hc rfl rfl ?_
  refine wi_msk 8 256 rfl (by decide) (by decide) hc rfl ?_
  refine wi_ist (N := 300) hc rfl rfl (by decide) (by decide) (by omega) (by omega) ?_
  obtain ⟨s7_, es7_⟩ : ∃ q, q = up s6_ 602 (((N + 1) + 1) + 1) ((x / 1) % 256) := ⟨_, rfl⟩
  rw [← es7_]
  refine wi_a1 hc rfl rfl ?_
  refine wi_dupr hc rfl ?_
  refine wi_gfv (kz := 4) rfl hc rfl rfl (by decide) (Nat.le_of_ble_eq_true rfl) rfl (v := ((N + 1) + 1) + 1) (((congrFun (congrFun es7_ _) _).trans (up_c (by decide))).trans ((congrFun (congrFun es6_ _) _).trans (up_e (by omega)))) ?_
  refine wi_ic hc rfl ?_
  refine wi_add hc rfl ?_
  refine wi_pf (kz := 4) rfl hc rfl rfl (by decide) (Nat.le_of_ble_eq_true rfl) rfl (Nat.le_of_ble_eq_true rfl) ⟨rfl, rfl⟩ rfl ?_
  obtain ⟨s8_, es8_⟩ : ∃ q, q = up s7_ 598 4 ((((N + 1) + 1) + 1) + 1) := ⟨_, rfl⟩
  rw [← es8_]
  refine wi_inc (L' := [some (.ref 598), some (.int (iI x)), some (.int (iI (0 + (-8))))]) hc rfl rfl rfl ?_
  refine wi_go hc rfl ?_
  rw [show (0 + (-8) : Int) = -8 from rfl]
  refine wi_i1 hc rfl rfl ?_
  refine wi_zlt hc rfl ⟨by decide, by decide⟩ (fun _ => ?_) (fun q => absurd q (by decide))
  refine wi_rv hc rfl (by rw [cm_160]; rfl) ?_
  refine ⟨s8_, rfl, ?_, ?_, fun c hc9_ => ((congrFun es8_ c).trans (up_cc (by omega))).trans (((congrFun es7_ c).trans (up_cc (by omega))).trans (((congrFun es6_ c).trans (up_cc (by omega))).trans (((congrFun es5_ c).trans (up_cc (by omega))).trans (((congrFun es4_ c).trans (up_cc (by omega))).trans (((congrFun es3_ c).trans (up_cc (by omega))).trans (((congrFun es2_ c).trans (up_cc (by omega))).trans ((congrFun es1_ c).trans (up_cc (by omega)))))))))⟩
  · funext k
    unfold tp4
    rw [es8_, up_cc (by decide)]
    by_cases q3 : k = N + 3
    · rw [es7_, up_e (by omega)]
      (repeat' split) <;> first | rfl | omega
    rw [es7_, up_k (by omega)]
    rw [es6_, up_cc (by decide)]
    by_cases q2 : k = N + 2
    · rw [es5_, up_e (by omega)]
      (repeat' split) <;> first | rfl | omega
    rw [es5_, up_k (by omega)]
    rw [es4_, up_cc (by decide)]
    by_cases q1 : k = N + 1
    · rw [es3_, up_e (by omega)]
      (repeat' split) <;> first | rfl | omega
    rw [es3_, up_k (by omega)]
    rw [es2_, up_cc (by decide)]
    by_cases q0 : k = N
    · rw [es1_, up_e (by omega)]
      (repeat' split) <;> first | rfl | omega
    rw [es1_, up_k (by omega)]
    (repeat' split) <;> first | rfl | omega
  · intro k
    by_cases q : k = 4
    · rw [es8_, up_e q, if_pos q]; omega
    · rw [es8_, up_k q, es7_, up_cc (by decide), es6_, up_k q, es5_, up_cc (by decide), es4_, up_k q, es3_, up_cc (by decide), es2_, up_k q, es1_, up_cc (by decide), if_neg q]
def fdT (f : Int → Int) (N a b c d e : Int) : Int → Int := if N + 20 ≤ 300 then tp4 (tp4 (tp4 (tp4 (tp4 f N a) (N + 4) b) (N + 8) c) (N + 12) d) (N + 16) e else f
def fdN (N : Int) : Int := if N + 20 ≤ 300 then N + 20 else N
def fdI (N : Int) : Int := if N + 20 ≤ 300 then N + 20 else -1

theorem sp_88 {d L t : Nat} {s l : Nat → Int → Int} {N a b c d9 e : Int} (hN : s 0 7 = N) (hr : 0 ≤ N ∧ N ≤ 300) (ha : rI a) (hb : rI b) (hc2 : rI c) (hd : rI d9) (he : rI e) : ∃ s1, mm_Ev mm_ct mm_CM (d + 2) 88 [.ref 0, .int (iI a), .int (iI b), .int (iI c), .int (iI d9), .int (iI e)] (MX L t s l) (some (.int (iI (fdI N))), MX L t s1 l) ∧ s1 597 = fdT (s 597) N a b c d9 e ∧ (∀ k, s1 0 k = if k = 7 then fdN N else s 0 k) ∧ (∀ c, c ≠ 0 ∧ c ≠ 597 → s1 c = s c) := by
  have hc : (mm_CM 88).2.2.2.2.2.2.2 = mm_cf cd_88 := by rw [cm_88]; rfl
  refine ev_xs ?_
  refine ev_to (mx := 6) (by rw [cm_88]; decide) (by rw [cm_88]; rfl) (by show 6 ≤ _; decide) ?_
  show mm_wp _ _ (0, [some (.ref 0), some (.int (iI a)), some (.int (iI b)), some (.int (iI c)), some (.int (iI d9)), some (.int (iI e))], [], MX L t s l) (fun res => ∃ s1, res = (some (.int (iI (fdI N))), MX L t s1 l) ∧ s1 597 = fdT (s 597) N a b c d9 e ∧ (∀ k, s1 0 k = if k = 7 then fdN N else s 0 k) ∧ (∀ c, c ≠ 0 ∧ c ≠ 597 → s1 c = s c))
  refine wi_a1 hc rfl rfl ?_
  refine wi_gfv (kz := 7) rfl hc rfl rfl (by decide) (Nat.le_of_ble_eq_true rfl) rfl (v := N) (hN) ?_
  refine wi_bi hc rfl rfl ?_
  refine wi_add hc rfl ?_
  refine wi_si hc rfl rfl ?_
  refine wi_cle hc rfl ⟨by omega, by omega⟩ ⟨by decide, by decide⟩ (fun h1_ => ?_) (fun h1_ => ?_)
  · refine wi_a1 hc rfl rfl ?_
    refine wi_i1 hc rfl rfl ?_
    obtain ⟨s1_, hE1_, hT1_, hS1_, hF1_⟩ := sp_134 (d := 0) (L := L) (t := t) (l := l) (N := N) (x := a) hN (by omega) ha
    refine wp_cv (b := 0) (As := [.int (iI a)]) (r := []) hc rfl (by rw [cm_134]; rfl) rfl (Nat.le_of_ble_eq_true rfl) (show 0 < 621 by decide) (by rw [cm_134]; rfl) (ev_mono hE1_ (by omega)) ?_
    have hNq1 : s1_ 0 7 = N + 4 := by rw [hS1_ 7, if_pos rfl]
    show mm_wp _ _ (20, [some (.ref 0), some (.int (iI a)), some (.int (iI b)), some (.int (iI c)), some (.int (iI d9)), some (.int (iI e))], [], MX L t s1_ l) _
    refine wi_a1 hc rfl rfl ?_
    refine wi_i1 hc rfl rfl ?_
    obtain ⟨s2_, hE2_, hT2_, hS2_, hF2_⟩ := sp_134 (d := 0) (L := L) (t := t) (l := l) (N := N + 4) (x := b) hNq1 (by omega) hb
    refine wp_cv (b := 0) (As := [.int (iI b)]) (r := []) hc rfl (by rw [cm_134]; rfl) rfl (Nat.le_of_ble_eq_true rfl) (show 0 < 621 by decide) (by rw [cm_134]; rfl) (ev_mono hE2_ (by omega)) ?_
    have hNq2 : s2_ 0 7 = N + 8 := by rw [hS2_ 7, if_pos rfl]; omega
    show mm_wp _ _ (25, [some (.ref 0), some (.int (iI a)), some (.int (iI b)), some (.int (iI c)), some (.int (iI d9)), some (.int (iI e))], [], MX L t s2_ l) _
    refine wi_a1 hc rfl rfl ?_
    refine wi_i1 hc rfl rfl ?_
    obtain ⟨s3_, hE3_, hT3_, hS3_, hF3_⟩ := sp_134 (d := 0) (L := L) (t := t) (l := l) (N := N + 8) (x := c) hNq2 (by omega) hc2
    refine wp_cv (b := 0) (As := [.int (iI c)]) (r := []) hc rfl (by rw [cm_134]; rfl) rfl (Nat.le_of_ble_eq_true rfl) (show 0 < 621 by decide) (by rw [cm_134]; rfl) (ev_mono hE3_ (by omega)) ?_
    have hNq3 : s3_ 0 7 = N + 12 := by rw [hS3_ 7, if_pos rfl]; omega
    show mm_wp _ _ (30, [some (.ref 0), some (.int (iI a)), some (.int (iI b)), some (.int (iI c)), some (.int (iI d9)), some (.int (iI e))], [], MX L t s3_ l) _
    refine wi_a1 hc rfl rfl ?_
    refine wi_i2 hc rfl rfl ?_
    obtain ⟨s4_, hE4_, hT4_, hS4_, hF4_⟩ := sp_134 (d := 0) (L := L) (t := t) (l := l) (N := N + 12) (x := d9) hNq3 (by omega) hd
    refine wp_cv (b := 0) (As := [.int (iI d9)]) (r := []) hc rfl (by rw [cm_134]; rfl) rfl (Nat.le_of_ble_eq_true rfl) (show 0 < 621 by decide) (by rw [cm_134]; rfl) (ev_mono hE4_ (by omega)) ?_
    have hNq4 : s4_ 0 7 = N + 16 := by rw [hS4_ 7, if_pos rfl]; omega
    show mm_wp _ _ (36, [some (.ref 0), some (.int (iI a)), some (.int (iI b)), some (.int (iI c)), some (.int (iI d9)), some (.int (iI e))], [], MX L t s4_ l) _
    refine wi_a1 hc rfl rfl ?_
    refine wi_i2 hc rfl rfl ?_
    obtain ⟨s5_, hE5_, hT5_, hS5_, hF5_⟩ := sp_134 (d := 0) (L := L) (t := t) (l := l) (N := N + 16) (x := e) hNq4 (by omega) he
    refine wp_cv (b := 0) (As := [.int (iI e)]) (r := []) hc rfl (by rw [cm_134]; rfl) rfl (Nat.le_of_ble_eq_true rfl) (show 0 < 621 by decide) (by rw [cm_134]; rfl) (ev_mono hE5_ (by omega)) ?_
    have hNq5 : s5_ 0 7 = N + 20 := by rw [hS5_ 7, if_pos rfl]; omega
    show mm_wp _ _ (42, [some (.ref 0), some (.int (iI a)), some (.int (iI b)), some (.int (iI c)), some (.int (iI d9)), some (.int (iI e))], [], MX L t s5_ l) _
    refine wi_a1 hc rfl rfl ?_
    refine wi_gfv (kz := 7) rfl hc rfl rfl (by decide) (Nat.le_of_ble_eq_true rfl) rfl (v := N + 20) (hNq5) ?_
    refine wi_ri hc rfl (by rw [cm_88]; rfl) ?_
    have h1 : fdI N = N + 20 := by unfold fdI; rw [if_pos (by omega)]
    have h2 : fdN N = N + 20 := by unfold fdN; rw [if_pos (by omega)]
    have h3 : fdT (s 597) N a b c d9 e = tp4 (tp4 (tp4 (tp4 (tp4 (s 597) N a) (N + 4) b) (N + 8) c) (N + 12) d9) (N + 16) e := by unfold fdT; rw [if_pos (by omega)]
    rw [h1, h2, h3]
    refine ⟨s5_, rfl, ?_, fun k => ?_, fun c hc9_ => (hF5_ c (by omega)).trans ((hF4_ c (by omega)).trans ((hF3_ c (by omega)).trans ((hF2_ c (by omega)).trans (hF1_ c (by omega)))))⟩
    · rw [hT5_, hT4_, hT3_, hT2_, hT1_]
    by_cases q : k = 7
    · rw [if_pos q, q]; exact hNq5
    · rw [if_neg q, hS5_ k, if_neg q, hS4_ k, if_neg q, hS3_ k, if_neg q, hS2_ k, if_neg q, hS1_ k, if_neg q]
  · refine wi_ic hc rfl ?_
    refine wi_ri hc rfl (by rw [cm_88]; rfl) ?_
    have h1 : fdI N = -1 := by unfold fdI; rw [if_neg (by omega)]
    have h2 : fdN N = N := by unfold fdN; rw [if_neg (by omega)]
    have h3 : fdT (s 597) N a b c d9 e = s 597 := by unfold fdT; rw [if_neg (by omega)]
    rw [h1, h2, h3]
    refine ⟨s, rfl, rfl, fun k => ?_, fun c _ => rfl⟩
    by_cases q : k = 7
    · rw [if_pos q, q]; exact hN
    · rw [if_neg q]
theorem sp_161 {d L t : Nat} {s l : Nat → Int → Int} {N a b c d9 e : Int} (hN : s 598 4 = N) (hr : 0 ≤ N ∧ N ≤ 300) (ha : rI a) (hb : rI b) (hc2 : rI c) (hd : rI d9) (he : rI e) : ∃ s1, mm_Ev mm_ct mm_CM (d + 2) 161 [.ref 598, .int (iI a), .int (iI b), .int (iI c), .int (iI d9), .int (iI e)] (MX L t s l) (some (.int (iI (fdI N))), MX L t s1 l) ∧ s1 602 = fdT (s 602) N a b c d9 e ∧ (∀ k, s1 598 k = if k = 4 then fdN N else s 598 k) ∧ (∀ c, c ≠ 598 ∧ c ≠ 602 → s1 c = s c) := by
  have hc : (mm_CM 161).2.2.2.2.2.2.2 = mm_cf cd_161 := by rw [cm_161]; rfl
  refine ev_xs ?_
  refine ev_to (mx := 6) (by rw [cm_161]; decide) (by rw [cm_161]; rfl) (by show 6 ≤ _; decide) ?_
  show mm_wp _ _ (0, [some (.ref 598), some (.int (iI a)), some (.int (iI b)), some (.int (iI c)), some (.int (iI d9)), some (.int (iI e))], [], MX L t s l) (fun res => ∃ s1, res = (some (.int (iI (fdI N))), MX L t s1 l) ∧ s1 602 = fdT (s 602) N a b c d9 e ∧ (∀ k, s1 598 k = if k = 4 then fdN N else s 598 k) ∧ (∀ c, c ≠ 598 ∧ c ≠ 602 → s1 c = s c))
  refine wi_a1 hc rfl rfl ?_
  refine wi_gfv (kz := 4) rfl hc rfl rfl (by decide) (Nat.le_of_ble_eq_true rfl) rfl (v := N) (hN) ?_
  refine wi_bi hc rfl rfl ?_
  refine wi_add hc rfl ?_
  refine wi_si hc rfl rfl ?_
  refine wi_cle hc rfl ⟨by omega, by omega⟩ ⟨by decide, by decide⟩ (fun h1_ => ?_) (fun h1_ => ?_)
  · refine wi_a1 hc rfl rfl ?_
    refine wi_i1 hc rfl rfl ?_
    obtain ⟨s1_, hE1_, hT1_, hS1_, hF1_⟩ := sp_160 (d := 0) (L := L) (t := t) (l := l) (N := N) (x := a) hN (by omega) ha
    refine wp_cv (b := 598) (As := [.int (iI a)]) (r := []) hc rfl (by rw [cm_160]; rfl) rfl (Nat.le_of_ble_eq_true rfl) (show 598 < 621 by decide) (by rw [cm_160]; rfl) (ev_mono hE1_ (by omega)) ?_
    have hNq1 : s1_ 598 4 = N + 4 := by rw [hS1_ 4, if_pos rfl]
    show mm_wp _ _ (20, [some (.ref 598), some (.int (iI a)), some (.int (iI b)), some (.int (iI c)), some (.int (iI d9)), some (.int (iI e))], [], MX L t s1_ l) _
    refine wi_a1 hc rfl rfl ?_
    refine wi_i1 hc rfl rfl ?_
    obtain ⟨s2_, hE2_, hT2_, hS2_, hF2_⟩ := sp_160 (d := 0) (L := L) (t := t) (l := l) (N := N + 4) (x := b) hNq1 (by omega) hb
    refine wp_cv (b := 598) (As := [.int (iI b)]) (r := []) hc rfl (by rw [cm_160]; rfl) rfl (Nat.le_of_ble_eq_true rfl) (show 598 < 621 by decide) (by rw [cm_160]; rfl) (ev_mono hE2_ (by omega)) ?_
    have hNq2 : s2_ 598 4 = N + 8 := by rw [hS2_ 4, if_pos rfl]; omega
    show mm_wp _ _ (25, [some (.ref 598), some (.int (iI a)), some (.int (iI b)), some (.int (iI c)), some (.int (iI d9)), some (.int (iI e))], [], MX L t s2_ l) _
    refine wi_a1 hc rfl rfl ?_
    refine wi_i1 hc rfl rfl ?_
    obtain ⟨s3_, hE3_, hT3_, hS3_, hF3_⟩ := sp_160 (d := 0) (L := L) (t := t) (l := l) (N := N + 8) (x := c) hNq2 (by omega) hc2
    refine wp_cv (b := 598) (As := [.int (iI c)]) (r := []) hc rfl (by rw [cm_160]; rfl) rfl (Nat.le_of_ble_eq_true rfl) (show 598 < 621 by decide) (by rw [cm_160]; rfl) (ev_mono hE3_ (by omega)) ?_
    have hNq3 : s3_ 598 4 = N + 12 := by rw [hS3_ 4, if_pos rfl]; omega
    show mm_wp _ _ (30, [some (.ref 598), some (.int (iI a)), some (.int (iI b)), some (.int (iI c)), some (.int (iI d9)), some (.int (iI e))], [], MX L t s3_ l) _
    refine wi_a1 hc rfl rfl ?_
    refine wi_i2 hc rfl rfl ?_
    obtain ⟨s4_, hE4_, hT4_, hS4_, hF4_⟩ := sp_160 (d := 0) (L := L) (t := t) (l := l) (N := N + 12) (x := d9) hNq3 (by omega) hd
    refine wp_cv (b := 598) (As := [.int (iI d9)]) (r := []) hc rfl (by rw [cm_160]; rfl) rfl (Nat.le_of_ble_eq_true rfl) (show 598 < 621 by decide) (by rw [cm_160]; rfl) (ev_mono hE4_ (by omega)) ?_
    have hNq4 : s4_ 598 4 = N + 16 := by rw [hS4_ 4, if_pos rfl]; omega
    show mm_wp _ _ (36, [some (.ref 598), some (.int (iI a)), some (.int (iI b)), some (.int (iI c)), some (.int (iI d9)), some (.int (iI e))], [], MX L t s4_ l) _
    refine wi_a1 hc rfl rfl ?_
    refine wi_i2 hc rfl rfl ?_
    obtain ⟨s5_, hE5_, hT5_, hS5_, hF5_⟩ := sp_160 (d := 0) (L := L) (t := t) (l := l) (N := N + 16) (x := e) hNq4 (by omega) he
    refine wp_cv (b := 598) (As := [.int (iI e)]) (r := []) hc rfl (by rw [cm_160]; rfl) rfl (Nat.le_of_ble_eq_true rfl) (show 598 < 621 by decide) (by rw [cm_160]; rfl) (ev_mono hE5_ (by omega)) ?_
    have hNq5 : s5_ 598 4 = N + 20 := by rw [hS5_ 4, if_pos rfl]; omega
    show mm_wp _ _ (42, [some (.ref 598), some (.int (iI a)), some (.int (iI b)), some (.int (iI c)), some (.int (iI d9)), some (.int (iI e))], [], MX L t s5_ l) _
    refine wi_a1 hc rfl rfl ?_
    refine wi_gfv (kz := 4) rfl hc rfl rfl (by decide) (Nat.le_of_ble_eq_true rfl) rfl (v := N + 20) (hNq5) ?_
    refine wi_ri hc rfl (by rw [cm_161]; rfl) ?_
    have h1 : fdI N = N + 20 := by unfold fdI; rw [if_pos (by omega)]
    have h2 : fdN N = N + 20 := by unfold fdN; rw [if_pos (by omega)]
    have h3 : fdT (s 602) N a b c d9 e = tp4 (tp4 (tp4 (tp4 (tp4 (s 602) N a) (N + 4) b) (N + 8) c) (N + 12) d9) (N + 16) e := by unfold fdT; rw [if_pos (by omega)]
    rw [h1, h2, h3]
    refine ⟨s5_, rfl, ?_, fun k => ?_, fun c hc9_ => (hF5_ c (by omega)).trans ((hF4_ c (by omega)).trans ((hF3_ c (by omega)).trans ((hF2_ c (by omega)).trans (hF1_ c (by omega)))))⟩
    · rw [hT5_, hT4_, hT3_, hT2_, hT1_]
    by_cases q : k = 4
    · rw [if_pos q, q]; exact hNq5
    · rw [if_neg q, hS5_ k, if_neg q, hS4_ k, if_neg q, hS3_ k, if_neg q, hS2_ k, if_neg q, hS1_ k, if_neg q]
  · refine wi_ic hc rfl ?_
    refine wi_ri hc rfl (by rw [cm_161]; rfl) ?_
    have h1 : fdI N = -1 := by unfold fdI; rw [if_neg (by omega)]
    have h2 : fdN N = N := by unfold fdN; rw [if_neg (by omega)]
    have h3 : fdT (s 602) N a b c d9 e = s 602 := by unfold fdT; rw [if_neg (by omega)]
    rw [h1, h2, h3]
    refine ⟨s, rfl, rfl, fun k => ?_, fun c _ => rfl⟩
    by_cases q : k = 4
    · rw [if_pos q, q]; exact hN
    · rw [if_neg q]
