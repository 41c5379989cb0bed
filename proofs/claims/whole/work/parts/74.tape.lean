/-! The tape. -/
def tp4 (f : Int → Int) (N x : Int) : Int → Int := fun k => if k = N + 3 then x % 256 else if k = N + 2 then x / 256 % 256 else if k = N + 1 then x / 65536 % 256 else if k = N then x / 16777216 % 256 else f k

theorem sp_134 {d L t : Nat} {s l : Nat → Int → Int} {N x : Int} (hN : s 0 7 = N) (hr : 0 ≤ N ∧ N + 4 ≤ 300) (hx : rI x) : ∃ s1, mm_Ev mm_ct mm_CM (d + 1) 134 [.ref 0, .int (iI x)] (MX L t s l) (none, MX L t s1 l) ∧ s1 597 = tp4 (s 597) N x ∧ (∀ k, s1 0 k = if k = 7 then N + 4 else s 0 k) ∧ (∀ c, c ≠ 0 ∧ c ≠ 597 → s1 c = s c) := by
  have hc : (mm_CM 134).2.2.2.2.2.2.2 = mm_cf cd_134 := by rw [cm_134]; rfl
  refine ev_xs ?_
  refine ev_to (mx := 3) (by rw [cm_134]; decide) (by rw [cm_134]; rfl) (by show 2 ≤ _; decide) ?_
  show mm_wp _ _ (0, [some (.ref 0), some (.int (iI x)), none], [], MX L t s l) (fun res => ∃ s1, res = (none, MX L t s1 l) ∧ s1 597 = tp4 (s 597) N x ∧ (∀ k, s1 0 k = if k = 7 then N + 4 else s 0 k) ∧ (∀ c, c ≠ 0 ∧ c ≠ 597 → s1 c = s c))
  refine wi_bi hc rfl rfl ?_
  refine wi_is1 (L' := [some (.ref 0), some (.int (iI x)), some (.int (iI 24))]) hc rfl (Nat.le_of_ble_eq_true rfl) rfl ?_
  refine wi_i1 hc rfl rfl ?_
  refine wi_zlt hc rfl ⟨by decide, by decide⟩ (fun q => absurd q (by decide)) (fun _ => ?_)
  refine wi_a1 hc rfl rfl ?_
  refine wi_gfv (kz := 7) rfl hc rfl rfl (by decide) (Nat.le_of_ble_eq_true rfl) rfl (v := N) (hN) ?_
  refine wi_si hc rfl rfl ?_
  refine wi_cge hc rfl ⟨by omega, by omega⟩ ⟨by decide, by decide⟩ (fun h2_ => (by exfalso; omega)) (fun h2_ => ?_)
  refine wi_a1 hc rfl rfl ?_
  refine wi_gr (w := 597) hc rfl rfl (by decide) (Nat.le_of_ble_eq_true rfl) rfl ?_
  refine wi_a1 hc rfl rfl ?_
  refine wi_gfv (kz := 7) rfl hc rfl rfl (by decide) (Nat.le_of_ble_eq_true rfl) rfl (v := N) (hN) ?_
  refine wi_i1 hc rfl rfl ?_
  refine wi_i1 hc rfl rfl ?_
  refine wi_ushr 16777216 rfl hc rfl hx (by omega) (by omega) ?_
  refine wi_si hc rfl rfl ?_
  refine wi_msk 8 256 rfl (by decide) (by decide) hc rfl ?_
  refine wi_ist (N := 300) hc rfl rfl (by decide) (by decide) (by omega) (by omega) ?_
  obtain ⟨s1_, es1_⟩ : ∃ q, q = up s 597 N ((x % 4294967296 / 16777216) % 256) := ⟨_, rfl⟩
  rw [← es1_]
  refine wi_a1 hc rfl rfl ?_
  refine wi_dupr hc rfl ?_
  refine wi_gfv (kz := 7) rfl hc rfl rfl (by decide) (Nat.le_of_ble_eq_true rfl) rfl (v := N) (((congrFun (congrFun es1_ _) _).trans (up_c (by decide))).trans (hN)) ?_
  refine wi_ic hc rfl ?_
  refine wi_add hc rfl ?_
  refine wi_pf (kz := 7) rfl hc rfl rfl (by decide) (Nat.le_of_ble_eq_true rfl) rfl (Nat.le_of_ble_eq_true rfl) ⟨rfl, rfl⟩ rfl ?_
  obtain ⟨s2_, es2_⟩ : ∃ q, q = up s1_ 0 7 (N + 1) := ⟨_, rfl⟩
  rw [← es2_]
  refine wi_inc (L' := [some (.ref 0), some (.int (iI x)), some (.int (iI (24 + (-8))))]) hc rfl rfl rfl ?_
  refine wi_go hc rfl ?_
  rw [show (24 + (-8) : Int) = 16 from rfl]
  refine wi_i1 hc rfl rfl ?_
  refine wi_zlt hc rfl ⟨by decide, by decide⟩ (fun q => absurd q (by decide)) (fun _ => ?_)
  refine wi_a1 hc rfl rfl ?_
  refine wi_gfv (kz := 7) rfl hc rfl rfl (by decide) (Nat.le_of_ble_eq_true rfl) rfl (v := N + 1) ((congrFun (congrFun es2_ _) _).trans (up_e (by omega))) ?_
  refine wi_si hc rfl rfl ?_
  refine wi_cge hc rfl ⟨by omega, by omega⟩ ⟨by decide, by decide⟩ (fun h4_ => (by exfalso; omega)) (fun h4_ => ?_)
  refine wi_a1 hc rfl rfl ?_
  refine wi_gr (w := 597) hc rfl rfl (by decide) (Nat.le_of_ble_eq_true rfl) rfl ?_
  refine wi_a1 hc rfl rfl ?_
  refine wi_gfv (kz := 7) rfl hc rfl rfl (by decide) (Nat.le_of_ble_eq_true rfl) rfl (v := N + 1) ((congrFun (congrFun es2_ _) _).trans (up_e (by omega))) ?_
  refine wi_i1 hc rfl rfl ?_
  refine wi_i1 hc rfl rfl ?_
  refine wi_ushr 65536 rfl hc rfl hx (by omega) (by omega) ?_
  refine wi_si hc rfl rfl ?_
  refine wi_msk 8 256 rfl (by decide) (by decide) hc rfl ?_
  refine wi_ist (N := 300) hc rfl rfl (by decide) (by decide) (by omega) (by omega) ?_
  obtain ⟨s3_, es3_⟩ : ∃ q, q = up s2_ 597 (N + 1) ((x % 4294967296 / 65536) % 256) := ⟨_, rfl⟩
  rw [← es3_]
  refine wi_a1 hc rfl rfl ?_
  refine wi_dupr hc rfl ?_
  refine wi_gfv (kz := 7) rfl hc rfl rfl (by decide) (Nat.le_of_ble_eq_true rfl) rfl (v := N + 1) (((congrFun (congrFun es3_ _) _).trans (up_c (by decide))).trans ((congrFun (congrFun es2_ _) _).trans (up_e (by omega)))) ?_
  refine wi_ic hc rfl ?_
  refine wi_add hc rfl ?_
  refine wi_pf (kz := 7) rfl hc rfl rfl (by decide) (Nat.le_of_ble_eq_true rfl) rfl (Nat.le_of_ble_eq_true rfl) ⟨rfl, rfl⟩ rfl ?_
  obtain ⟨s4_, es4_⟩ : ∃ q, q = up s3_ 0 7 ((N + 1) + 1) := ⟨_, rfl⟩
  rw [← es4_]
  refine wi_inc (L' := [some (.ref 0), some (.int (iI x)), some (.int (iI (16 + (-8))))]) hc rfl rfl rfl ?_
  refine wi_go hc rfl ?_
  rw [show (16 + (-8) : Int) = 8 from rfl]
  refine wi_i1 hc rfl rfl ?_
  refine wi_zlt hc rfl ⟨by decide, by decide⟩ (fun q => absurd q (by decide)) (fun _ => ?_)
  refine wi_a1 hc rfl rfl ?_
  refine wi_gfv (kz := 7) rfl hc rfl rfl (by decide) (Nat.le_of_ble_eq_true rfl) rfl (v := (N + 1) + 1) ((congrFun (congrFun es4_ _) _).trans (up_e (by omega))) ?_
  refine wi_si hc rfl rfl ?_
  refine wi_cge hc rfl ⟨by omega, by omega⟩ ⟨by decide, by decide⟩ (fun h6_ => (by exfalso; omega)) (fun h6_ => ?_)
  refine wi_a1 hc rfl rfl ?_
  refine wi_gr (w := 597) hc rfl rfl (by decide) (Nat.le_of_ble_eq_true rfl) rfl ?_
  refine wi_a1 hc rfl rfl ?_
  refine wi_gfv (kz := 7) rfl hc rfl rfl (by decide) (Nat.le_of_ble_eq_true rfl) rfl (v := (N + 1) + 1) ((congrFun (congrFun es4_ _) _).trans (up_e (by omega))) ?_
  refine wi_i1 hc rfl rfl ?_
  refine wi_i1 hc rfl rfl ?_
  refine wi_ushr 256 rfl hc rfl hx (by omega) (by omega) ?_
  refine wi_si hc rfl rfl ?_
  refine wi_msk 8 256 rfl (by decide) (by decide) hc rfl ?_
  refine wi_ist (N := 300) hc rfl rfl (by decide) (by decide) (by omega) (by omega) ?_
  obtain ⟨s5_, es5_⟩ : ∃ q, q = up s4_ 597 ((N + 1) + 1) ((x % 4294967296 / 256) % 256) := ⟨_, rfl⟩
  rw [← es5_]
  refine wi_a1 hc rfl rfl ?_
  refine wi_dupr hc rfl ?_
  refine wi_gfv (kz := 7) rfl hc rfl rfl (by decide) (Nat.le_of_ble_eq_true rfl) rfl (v := (N + 1) + 1) (((congrFun (congrFun es5_ _) _).trans (up_c (by decide))).trans ((congrFun (congrFun es4_ _) _).trans (up_e (by omega)))) ?_
  refine wi_ic hc rfl ?_
  refine wi_add hc rfl ?_
  refine wi_pf (kz := 7) rfl hc rfl rfl (by decide) (Nat.le_of_ble_eq_true rfl) rfl (Nat.le_of_ble_eq_true rfl) ⟨rfl, rfl⟩ rfl ?_
  obtain ⟨s6_, es6_⟩ : ∃ q, q = up s5_ 0 7 (((N + 1) + 1) + 1) := ⟨_, rfl⟩
  rw [← es6_]
  refine wi_inc (L' := [some (.ref 0), some (.int (iI x)), some (.int (iI (8 + (-8))))]) hc rfl rfl rfl ?_
  refine wi_go hc rfl ?_
  rw [show (8 + (-8) : Int) = 0 from rfl]
  refine wi_i1 hc rfl rfl ?_
  refine wi_zlt hc rfl ⟨by decide, by decide⟩ (fun q => absurd q (by decide)) (fun _ => ?_)
  refine wi_a1 hc rfl rfl ?_
  refine wi_gfv (kz := 7) rfl hc rfl rfl (by decide) (Nat.le_of_ble_eq_true rfl) rfl (v := ((N + 1) + 1) + 1) ((congrFun (congrFun es6_ _) _).trans (up_e (by omega))) ?_
  refine wi_si hc rfl rfl ?_
  refine wi_cge hc rfl ⟨by omega, by omega⟩ ⟨by decide, by decide⟩ (fun h8_ => (by exfalso; omega)) (fun h8_ => ?_)
  refine wi_a1 hc rfl rfl ?_
  refine wi_gr (w := 597) hc rfl rfl (by decide) (Nat.le_of_ble_eq_true rfl) rfl ?_
  refine wi_a1 hc rfl rfl ?_
  refine wi_gfv (kz := 7) rfl hc rfl rfl (by decide) (Nat.le_of_ble_eq_true rfl) rfl (v := ((N + 1) + 1) + 1) ((congrFun (congrFun es6_ _) _).trans (up_e (by omega))) ?_
  refine wi_i1 hc rfl rfl ?_
  refine wi_i1 hc rfl rfl ?_
  refine wi_ushr 1 rfl hc rfl hx (by omega) (by omega) ?_
  refine wi_si hc rfl rfl ?_
  refine wi_msk 8 256 rfl (by decide) (by decide) hc rfl ?_
  refine wi_ist (N := 300) hc rfl rfl (by decide) (by decide) (by omega) (by omega) ?_
  obtain ⟨s7_, es7_⟩ : ∃ q, q = up s6_ 597 (((N + 1) + 1) + 1) ((x % 4294967296 / 1) % 256) := ⟨_, rfl⟩
  rw [← es7_]
  refine wi_a1 hc rfl rfl ?_
  refine wi_dupr hc rfl ?_
  refine wi_gfv (kz := 7) rfl hc rfl rfl (by decide) (Nat.le_of_ble_eq_true rfl) rfl (v := ((N + 1) + 1) + 1) (((congrFun (congrFun es7_ _) _).trans (up_c (by decide))).trans ((congrFun (congrFun es6_ _) _).trans (up_e (by omega)))) ?_
  refine wi_ic hc rfl ?_
  refine wi_add hc rfl ?_
  refine wi_pf (kz := 7) rfl hc rfl rfl (by decide) (Nat.le_of_ble_eq_true rfl) rfl (Nat.le_of_ble_eq_true rfl) ⟨rfl, rfl⟩ rfl ?_
  obtain ⟨s8_, es8_⟩ : ∃ q, q = up s7_ 0 7 ((((N + 1) + 1) + 1) + 1) := ⟨_, rfl⟩
  rw [← es8_]
  refine wi_inc (L' := [some (.ref 0), some (.int (iI x)), some (.int (iI (0 + (-8))))]) hc rfl rfl rfl ?_
  refine wi_go hc rfl ?_
  rw [show (0 + (-8) : Int) = -8 from rfl]
  refine wi_i1 hc rfl rfl ?_
  refine wi_zlt hc rfl ⟨by decide, by decide⟩ (fun _ => ?_) (fun q => absurd q (by decide))
  refine wi_rv hc rfl (by rw [cm_134]; rfl) ?_
  refine ⟨s8_, rfl, ?_, ?_, fun c hc9_ => ((congrFun es8_ c).trans (up_cc (by omega))).trans (((congrFun es7_ c).trans (up_cc (by omega))).trans (((congrFun es6_ c).trans (up_cc (by omega))).trans (((congrFun es5_ c).trans (up_cc (by omega))).trans (((congrFun es4_ c).trans (up_cc (by omega))).trans (((congrFun es3_ c).trans (up_cc (by omega))).trans (((congrFun es2_ c).trans (up_cc (by omega))).trans ((congrFun es1_ c).trans (up_cc (by omega)))))))))⟩
  · funext k
    unfold tp4
    rw [es8_, up_cc (by decide)]
    by_cases q3 : k = N + 3
    · rw [es7_, up_e (by omega)]
      (repeat' split) <;> first | rfl | omega
    rw [es7_, up_k (by omega)]
    rw [es6_, up_cc (by decide)]
    by_cases q2 : k = N + 2
    · rw [es5_, up_e (by omega)]
      (repeat' split) <;> first | rfl | omega
    rw [es5_, up_k (by omega)]
    rw [es4_, up_cc (by decide)]
    by_cases q1 : k = N + 1
    · rw [es3_, up_e (by omega)]
      (repeat' split) <;> first | rfl | omega
    rw [es3_, up_k (by omega)]
    rw [es2_, up_cc (by decide)]
    by_cases q0 : k = N
    · rw [es1_, up_e (by omega)]
      (repeat' split) <;> first | rfl | omega
    rw [es1_, up_k (by omega)]
    (repeat' split) <;> first | rfl | omega
  · intro k
    by_cases q : k = 7
    · rw [es8_, up_e q, if_pos q]; omega
    · rw [es8_, up_k q, es7_, up_cc (by decide), es6_, up_k q, es5_, up_cc (by decide), es4_, up_k q, es3_, up_cc (by decide), es2_, up_k q, es1_, up_cc (by decide), if_neg q]
theorem sp_160 {d L t : Nat} {s l : Nat → Int → Int} {N x : Int} (hN : s 598 4 = N) (hr : 0 ≤ N ∧ N + 4 ≤ 300) (hx : rI x) : ∃ s1, mm_Ev mm_ct mm_CM (d + 1) 160 [.ref 598, .int (iI x)] (MX L t s l) (none, MX L t s1 l) ∧ s1 602 = tp4 (s 602) N x ∧ (∀ k, s1 598 k = if k = 4 then N + 4 else s 598 k) ∧ (∀ c, c ≠ 598 ∧ c ≠ 602 → s1 c = s c) := by
  have hc : (mm_CM 160).2.2.2.2.2.2.2 = mm_cf cd_160 := by rw [cm_160]; rfl
  refine ev_xs ?_
  refine ev_to (mx := 3) (by rw [cm_160]; decide) (by rw [cm_160]; rfl) (by show 2 ≤ _; decide) ?_
  show mm_wp _ _ (0, [some (.ref 598), some (.int (iI x)), none], [], MX L t s l) (fun res => ∃ s1, res = (none, MX L t s1 l) ∧ s1 602 = tp4 (s 602) N x ∧ (∀ k, s1 598 k = if k = 4 then N + 4 else s 598 k) ∧ (∀ c, c ≠ 598 ∧ c ≠ 602 → s1 c = s c))
  refine wi_bi hc rfl rfl ?_
  refine wi_is1 (L' := [some (.ref 598), some (.int (iI x)), some (.int (iI 24))]) hc rfl (Nat.le_of_ble_eq_true rfl) rfl ?_
  refine wi_i1 hc rfl rfl ?_
  refine wi_zlt hc rfl ⟨by decide, by decide⟩ (fun q => absurd q (by decide)) (fun _ => ?_)
  refine wi_a1 hc rfl rfl ?_
  refine wi_gr (w := 602) hc rfl rfl (by decide) (Nat.le_of_ble_eq_true rfl) rfl ?_
  refine wi_a1 hc rfl rfl ?_
  refine wi_gfv (kz := 4) rfl hc rfl rfl (by decide) (Nat.le_of_ble_eq_true rfl) rfl (v := N) (hN) ?_
  refine wi_i1 hc rfl rfl ?_
  refine wi_i1 hc rfl rfl ?_
  refine wi_shr 16777216 rfl hc rfl hx (by omega) (by omega) ?_
  refine wi_si hc rfl rfl ?_
  refine wi_msk 8 256 rfl (by decide) (by decide) hc rfl ?_
  refine wi_ist (N := 300) hc rfl rfl (by decide) (by decide) (by omega) (by omega) ?_
  obtain ⟨s1_, es1_⟩ : ∃ q, q = up s 602 N ((x / 16777216) % 256) := ⟨_, rfl⟩
  rw [← es1_]
  refine wi_a1 hc rfl rfl ?_
  refine wi_dupr hc rfl ?_
  refine wi_gfv (kz := 4) rfl hc rfl rfl (by decide) (Nat.le_of_ble_eq_true rfl) rfl (v := N) (((congrFun (congrFun es1_ _) _).trans (up_c (by decide))).trans (hN)) ?_
  refine wi_ic hc rfl ?_
  refine wi_add hc rfl ?_
  refine wi_pf (kz := 4) rfl hc rfl rfl (by decide) (Nat.le_of_ble_eq_true rfl) rfl (Nat.le_of_ble_eq_true rfl) ⟨rfl, rfl⟩ rfl ?_
  obtain ⟨s2_, es2_⟩ : ∃ q, q = up s1_ 598 4 (N + 1) := ⟨_, rfl⟩
  rw [← es2_]
  refine wi_inc (L' := [some (.ref 598), some (.int (iI x)), some (.int (iI (24 + (-8))))]) hc rfl rfl rfl ?_
  refine wi_go hc rfl ?_
  rw [show (24 + (-8) : Int) = 16 from rfl]
  refine wi_i1 hc rfl rfl ?_
  refine wi_zlt hc rfl ⟨by decide, by decide⟩ (fun q => absurd q (by decide)) (fun _ => ?_)
  refine wi_a1 hc rfl rfl ?_
  refine wi_gr (w := 602) hc rfl rfl (by decide) (Nat.le_of_ble_eq_true rfl) rfl ?_
  refine wi_a1 hc rfl rfl ?_
  refine wi_gfv (kz := 4) rfl hc rfl rfl (by decide) (Nat.le_of_ble_eq_true rfl) rfl (v := N + 1) ((congrFun (congrFun es2_ _) _).trans (up_e (by omega))) ?_
  refine wi_i1 hc rfl rfl ?_
  refine wi_i1 hc rfl rfl ?_
  refine wi_shr 65536 rfl hc rfl hx (by omega) (by omega) ?_
  refine wi_si hc rfl rfl ?_
  refine wi_msk 8 256 rfl (by decide) (by decide) hc rfl ?_
  refine wi_ist (N := 300) hc rfl rfl (by decide) (by decide) (by omega) (by omega) ?_
  obtain ⟨s3_, es3_⟩ : ∃ q, q = up s2_ 602 (N + 1) ((x / 65536) % 256) := ⟨_, rfl⟩
  rw [← es3_]
  refine wi_a1 hc rfl rfl ?_
  refine wi_dupr hc rfl ?_
  refine wi_gfv (kz := 4) rfl hc rfl rfl (by decide) (Nat.le_of_ble_eq_true rfl) rfl (v := N + 1) (((congrFun (congrFun es3_ _) _).trans (up_c (by decide))).trans ((congrFun (congrFun es2_ _) _).trans (up_e (by omega)))) ?_
  refine wi_ic hc rfl ?_
  refine wi_add hc rfl ?_
  refine wi_pf (kz := 4) rfl hc rfl rfl (by decide) (Nat.le_of_ble_eq_true rfl) rfl (Nat.le_of_ble_eq_true rfl) ⟨rfl, rfl⟩ rfl ?_
  obtain ⟨s4_, es4_⟩ : ∃ q, q = up s3_ 598 4 ((N + 1) + 1) := ⟨_, rfl⟩
  rw [← es4_]
  refine wi_inc (L' := [some (.ref 598), some (.int (iI x)), some (.int (iI (16 + (-8))))]) hc rfl rfl rfl ?_
  refine wi_go hc rfl ?_
  rw [show (16 + (-8) : Int) = 8 from rfl]
  refine wi_i1 hc rfl rfl ?_
  refine wi_zlt hc rfl ⟨by decide, by decide⟩ (fun q => absurd q (by decide)) (fun _ => ?_)
  refine wi_a1 hc rfl rfl ?_
  refine wi_gr (w := 602) hc rfl rfl (by decide) (Nat.le_of_ble_eq_true rfl) rfl ?_
  refine wi_a1 hc rfl rfl ?_
  refine wi_gfv (kz := 4) rfl hc rfl rfl (by decide) (Nat.le_of_ble_eq_true rfl) rfl (v := (N + 1) + 1) ((congrFun (congrFun es4_ _) _).trans (up_e (by omega))) ?_
  refine wi_i1 hc rfl rfl ?_
  refine wi_i1 hc rfl rfl ?_
  refine wi_shr 256 rfl hc rfl hx (by omega) (by omega) ?_
  refine wi_si hc rfl rfl ?_
  refine wi_msk 8 256 rfl (by decide) (by decide) hc rfl ?_
  refine wi_ist (N := 300) hc rfl rfl (by decide) (by decide) (by omega) (by omega) ?_
  obtain ⟨s5_, es5_⟩ : ∃ q, q = up s4_ 602 ((N + 1) + 1) ((x / 256) % 256) := ⟨_, rfl⟩
  rw [← es5_]
  refine wi_a1 hc rfl rfl ?_
  refine wi_dupr hc rfl ?_
  refine wi_gfv (kz := 4) rfl hc rfl rfl (by decide) (Nat.le_of_ble_eq_true rfl) rfl (v := (N + 1) + 1) (((congrFun (congrFun es5_ _) _).trans (up_c (by decide))).trans ((congrFun (congrFun es4_ _) _).trans (up_e (by omega)))) ?_
  refine wi_ic hc rfl ?_
  refine wi_add hc rfl ?_
  refine wi_pf (kz := 4) rfl hc rfl rfl (by decide) (Nat.le_of_ble_eq_true rfl) rfl (Nat.le_of_ble_eq_true rfl) ⟨rfl, rfl⟩ rfl ?_
  obtain ⟨s6_, es6_⟩ : ∃ q, q = up s5_ 598 4 (((N + 1) + 1) + 1) := ⟨_, rfl⟩
  rw [← es6_]
  refine wi_inc (L' := [some (.ref 598), some (.int (iI x)), some (.int (iI (8 + (-8))))]) hc rfl rfl rfl ?_
  refine wi_go hc rfl ?_
  rw [show (8 + (-8) : Int) = 0 from rfl]
  refine wi_i1 hc rfl rfl ?_
  refine wi_zlt hc rfl ⟨by decide, by decide⟩ (fun q => absurd q (by decide)) (fun _ => ?_)
  refine wi_a1 hc rfl rfl ?_
  refine wi_gr (w := 602) hc rfl rfl (by decide) (Nat.le_of_ble_eq_true rfl) rfl ?_
  refine wi_a1 hc rfl rfl ?_
  refine wi_gfv (kz := 4) rfl hc rfl rfl (by decide) (Nat.le_of_ble_eq_true rfl) rfl (v := ((N + 1) + 1) + 1) ((congrFun (congrFun es6_ _) _).trans (up_e (by omega))) ?_
  refine wi_i1 hc rfl rfl ?_
  refine wi_i1 hc rfl rfl ?_
  refine wi_shr 1 rfl hc rfl hx (by omega) (by omega) ?_
  refine wi_si hc rfl rfl ?_
  refine wi_msk 8 256 rfl (by decide) (by decide) hc rfl ?_
  refine wi_ist (N := 300) hc rfl rfl (by decide) (by decide) (by omega) (by omega) ?_
  obtain ⟨s7_, es7_⟩ : ∃ q, q = up s6_ 602 (((N + 1) + 1) + 1) ((x / 1) % 256) := ⟨_, rfl⟩
  rw [← es7_]
  refine wi_a1 hc rfl rfl ?_
  refine wi_dupr hc rfl ?_
  refine wi_gfv (kz := 4) rfl hc rfl rfl (by decide) (Nat.le_of_ble_eq_true rfl) rfl (v := ((N + 1) + 1) + 1) (((congrFun (congrFun es7_ _) _).trans (up_c (by decide))).trans ((congrFun (congrFun es6_ _) _).trans (up_e (by omega)))) ?_
  refine wi_ic hc rfl ?_
  refine wi_add hc rfl ?_
  refine wi_pf (kz := 4) rfl hc rfl rfl (by decide) (Nat.le_of_ble_eq_true rfl) rfl (Nat.le_of_ble_eq_true rfl) ⟨rfl, rfl⟩ rfl ?_
  obtain ⟨s8_, es8_⟩ : ∃ q, q = up s7_ 598 4 ((((N + 1) + 1) + 1) + 1) := ⟨_, rfl⟩
  rw [← es8_]
  refine wi_inc (L' := [some (.ref 598), some (.int (iI x)), some (.int (iI (0 + (-8))))]) hc rfl rfl rfl ?_
  refine wi_go hc rfl ?_
  rw [show (0 + (-8) : Int) = -8 from rfl]
  refine wi_i1 hc rfl rfl ?_
  refine wi_zlt hc rfl ⟨by decide, by decide⟩ (fun _ => ?_) (fun q => absurd q (by decide))
  refine wi_rv hc rfl (by rw [cm_160]; rfl) ?_
  refine ⟨s8_, rfl, ?_, ?_, fun c hc9_ => ((congrFun es8_ c).trans (up_cc (by omega))).trans (((congrFun es7_ c).trans (up_cc (by omega))).trans (((congrFun es6_ c).trans (up_cc (by omega))).trans (((congrFun es5_ c).trans (up_cc (by omega))).trans (((congrFun es4_ c).trans (up_cc (by omega))).trans (((congrFun es3_ c).trans (up_cc (by omega))).trans (((congrFun es2_ c).trans (up_cc (by omega))).trans ((congrFun es1_ c).trans (up_cc (by omega)))))))))⟩
  · funext k
    unfold tp4
    rw [es8_, up_cc (by decide)]
    by_cases q3 : k = N + 3
    · rw [es7_, up_e (by omega)]
      (repeat' split) <;> first | rfl | omega
    rw [es7_, up_k (by omega)]
    rw [es6_, up_cc (by decide)]
    by_cases q2 : k = N + 2
    · rw [es5_, up_e (by omega)]
      (repeat' split) <;> first | rfl | omega
    rw [es5_, up_k (by omega)]
    rw [es4_, up_cc (by decide)]
    by_cases q1 : k = N + 1
    · rw [es3_, up_e (by omega)]
      (repeat' split) <;> first | rfl | omega
    rw [es3_, up_k (by omega)]
    rw [es2_, up_cc (by decide)]
    by_cases q0 : k = N
    · rw [es1_, up_e (by omega)]
      (repeat' split) <;> first | rfl | omega
    rw [es1_, up_k (by omega)]
    (repeat' split) <;> first | rfl | omega
  · intro k
    by_cases q : k = 4
    · rw [es8_, up_e q, if_pos q]; omega
    · rw [es8_, up_k q, es7_, up_cc (by decide), es6_, up_k q, es5_, up_cc (by decide), es4_, up_k q, es3_, up_cc (by decide), es2_, up_k q, es1_, up_cc (by decide), if_neg q]
