/-! A text copied. -/
def CPT (s1 s : Nat → Int → Int) (u w : Nat) : Prop := (∀ p, 0 ≤ p → p < 24 → s1 (u + 1) p = s (w + 1) p) ∧ (∀ p, 0 ≤ p → p < 72 → s1 (u + 2) p = s (w + 2) p) ∧ (∀ p, 0 ≤ p → p < 300 → s1 (u + 3) p = s (w + 3) p) ∧ (∀ p, 0 ≤ p → p < 8 → s1 (u + 4) p = s (w + 4) p ∧ s1 (u + 5) p = s (w + 5) p) ∧ s1 u 5 = s w 5 ∧ s1 u 6 = s w 6 ∧ s1 u 7 = s w 7

theorem sp_79 {d L t : Nat} {s l : Nat → Int → Int} {xu xw : Nat} (hku : KT L t xu) (hkw : KT L t xw) (hd : xu + 6 ≤ xw ∨ xw + 6 ≤ xu) : ∃ s1, mm_Ev mm_ct mm_CM (d + 1) 79 [.ref xu, .ref xw] (MX L t s l) (none, MX L t s1 l) ∧ (∀ c, ¬ (xu ≤ c ∧ c ≤ xu + 5) → s1 c = s c) ∧ CPT s1 s xu xw := by
  have hc : (mm_CM 79).2.2.2.2.2.2.2 = mm_cf cd_79 := by rw [cm_79]; rfl
  refine ev_xs ?_
  refine ev_to (mx := 2) (by rw [cm_79]; decide) (by rw [cm_79]; rfl) (by show 2 ≤ _; decide) ?_
  show mm_wp _ _ (0, [some (.ref xu), some (.ref xw)], [], MX L t s l) (fun res => ∃ s1, res = (none, MX L t s1 l) ∧ (∀ c, ¬ (xu ≤ c ∧ c ≤ xu + 5) → s1 c = s c) ∧ CPT s1 s xu xw)
  refine wi_a1 hc rfl rfl ?_
  refine wi_grs (w := xw + 1) hkw.2.1 hc rfl (by have := hkw.1; omega) (by decide) rfl ?_
  refine wi_ic hc rfl ?_
  refine wi_a1 hc rfl rfl ?_
  refine wi_grs (w := xu + 1) hku.2.1 hc rfl (by have := hku.1; omega) (by decide) rfl ?_
  refine wi_ic hc rfl ?_
  refine wi_bi hc rfl rfl ?_
  refine wi_cpy (r := []) (N0 := 24) (N1 := 24) hc rfl (Nat.le_of_ble_eq_true rfl) (by have := hkw.1; omega) hkw.2.2.1 (by have := hku.1; omega) hku.2.2.1 (by omega) (by omega) (by omega) (by omega) (by omega) (by decide) (by decide) ?_
  obtain ⟨s1_, es1_⟩ : ∃ q, q = cpI s (xw + 1) (xu + 1) 0 0 24 := ⟨_, rfl⟩
  rw [← es1_]
  show mm_wp _ _ (15, [some (.ref xu), some (.ref xw)], [], MX L t s1_ l) _
  refine wi_a1 hc rfl rfl ?_
  refine wi_grs (w := xw + 2) hkw.2.1 hc rfl (by have := hkw.1; omega) (by decide) rfl ?_
  refine wi_ic hc rfl ?_
  refine wi_a1 hc rfl rfl ?_
  refine wi_grs (w := xu + 2) hku.2.1 hc rfl (by have := hku.1; omega) (by decide) rfl ?_
  refine wi_ic hc rfl ?_
  refine wi_bi hc rfl rfl ?_
  refine wi_cpy (r := []) (N0 := 72) (N1 := 72) hc rfl (Nat.le_of_ble_eq_true rfl) (by have := hkw.1; omega) hkw.2.2.2.1 (by have := hku.1; omega) hku.2.2.2.1 (by omega) (by omega) (by omega) (by omega) (by omega) (by decide) (by decide) ?_
  obtain ⟨s2_, es2_⟩ : ∃ q, q = cpI s1_ (xw + 2) (xu + 2) 0 0 72 := ⟨_, rfl⟩
  rw [← es2_]
  show mm_wp _ _ (30, [some (.ref xu), some (.ref xw)], [], MX L t s2_ l) _
  refine wi_a1 hc rfl rfl ?_
  refine wi_grs (w := xw + 3) hkw.2.1 hc rfl (by have := hkw.1; omega) (by decide) rfl ?_
  refine wi_ic hc rfl ?_
  refine wi_a1 hc rfl rfl ?_
  refine wi_grs (w := xu + 3) hku.2.1 hc rfl (by have := hku.1; omega) (by decide) rfl ?_
  refine wi_ic hc rfl ?_
  refine wi_si hc rfl rfl ?_
  refine wi_cpy (r := []) (N0 := 300) (N1 := 300) hc rfl (Nat.le_of_ble_eq_true rfl) (by have := hkw.1; omega) hkw.2.2.2.2.1 (by have := hku.1; omega) hku.2.2.2.2.1 (by omega) (by omega) (by omega) (by omega) (by omega) (by decide) (by decide) ?_
  obtain ⟨s3_, es3_⟩ : ∃ q, q = cpI s2_ (xw + 3) (xu + 3) 0 0 300 := ⟨_, rfl⟩
  rw [← es3_]
  show mm_wp _ _ (46, [some (.ref xu), some (.ref xw)], [], MX L t s3_ l) _
  refine wi_a1 hc rfl rfl ?_
  refine wi_grs (w := xw + 4) hkw.2.1 hc rfl (by have := hkw.1; omega) (by decide) rfl ?_
  refine wi_ic hc rfl ?_
  refine wi_a1 hc rfl rfl ?_
  refine wi_grs (w := xu + 4) hku.2.1 hc rfl (by have := hku.1; omega) (by decide) rfl ?_
  refine wi_ic hc rfl ?_
  refine wi_bi hc rfl rfl ?_
  refine wi_cpy (r := []) (N0 := 8) (N1 := 8) hc rfl (Nat.le_of_ble_eq_true rfl) (by have := hkw.1; omega) hkw.2.2.2.2.2.1 (by have := hku.1; omega) hku.2.2.2.2.2.1 (by omega) (by omega) (by omega) (by omega) (by omega) (by decide) (by decide) ?_
  obtain ⟨s4_, es4_⟩ : ∃ q, q = cpI s3_ (xw + 4) (xu + 4) 0 0 8 := ⟨_, rfl⟩
  rw [← es4_]
  show mm_wp _ _ (61, [some (.ref xu), some (.ref xw)], [], MX L t s4_ l) _
  refine wi_a1 hc rfl rfl ?_
  refine wi_grs (w := xw + 5) hkw.2.1 hc rfl (by have := hkw.1; omega) (by decide) rfl ?_
  refine wi_ic hc rfl ?_
  refine wi_a1 hc rfl rfl ?_
  refine wi_grs (w := xu + 5) hku.2.1 hc rfl (by have := hku.1; omega) (by decide) rfl ?_
  refine wi_ic hc rfl ?_
  refine wi_bi hc rfl rfl ?_
  refine wi_cpy (r := []) (N0 := 8) (N1 := 8) hc rfl (Nat.le_of_ble_eq_true rfl) (by have := hkw.1; omega) hkw.2.2.2.2.2.2 (by have := hku.1; omega) hku.2.2.2.2.2.2 (by omega) (by omega) (by omega) (by omega) (by omega) (by decide) (by decide) ?_
  obtain ⟨s5_, es5_⟩ : ∃ q, q = cpI s4_ (xw + 5) (xu + 5) 0 0 8 := ⟨_, rfl⟩
  rw [← es5_]
  show mm_wp _ _ (76, [some (.ref xu), some (.ref xw)], [], MX L t s5_ l) _
  refine wi_a1 hc rfl rfl ?_
  refine wi_a1 hc rfl rfl ?_
  refine wi_gfs (kz := 5) rfl hkw.2.1 hc rfl (by have := hkw.1; omega) (by decide) rfl (v := s xw 5) (((congrFun (congrFun es5_ _) _).trans (congrFun (cp_c (by omega)) _)).trans (((congrFun (congrFun es4_ _) _).trans (congrFun (cp_c (by omega)) _)).trans (((congrFun (congrFun es3_ _) _).trans (congrFun (cp_c (by omega)) _)).trans (((congrFun (congrFun es2_ _) _).trans (congrFun (cp_c (by omega)) _)).trans ((congrFun (congrFun es1_ _) _).trans (congrFun (cp_c (by omega)) _)))))) ?_
  refine wi_pfs (kz := 5) rfl hku.2.1 hc rfl (by have := hku.1; omega) (by decide) rfl (Nat.le_of_ble_eq_true rfl) ⟨rfl, rfl⟩ rfl ?_
  obtain ⟨s6_, es6_⟩ : ∃ q, q = up s5_ xu 5 (s xw 5) := ⟨_, rfl⟩
  rw [← es6_]
  refine wi_a1 hc rfl rfl ?_
  refine wi_a1 hc rfl rfl ?_
  refine wi_gfs (kz := 6) rfl hkw.2.1 hc rfl (by have := hkw.1; omega) (by decide) rfl (v := s xw 6) (((congrFun (congrFun es6_ _) _).trans (up_c (by omega))).trans (((congrFun (congrFun es5_ _) _).trans (congrFun (cp_c (by omega)) _)).trans (((congrFun (congrFun es4_ _) _).trans (congrFun (cp_c (by omega)) _)).trans (((congrFun (congrFun es3_ _) _).trans (congrFun (cp_c (by omega)) _)).trans (((congrFun (congrFun es2_ _) _).trans (congrFun (cp_c (by omega)) _)).trans ((congrFun (congrFun es1_ _) _).trans (congrFun (cp_c (by omega)) _))))))) ?_
  refine wi_pfs (kz := 6) rfl hku.2.1 hc rfl (by have := hku.1; omega) (by decide) rfl (Nat.le_of_ble_eq_true rfl) ⟨rfl, rfl⟩ rfl ?_
  obtain ⟨s7_, es7_⟩ : ∃ q, q = up s6_ xu 6 (s xw 6) := ⟨_, rfl⟩
  rw [← es7_]
  refine wi_a1 hc rfl rfl ?_
  refine wi_a1 hc rfl rfl ?_
  refine wi_gfs (kz := 7) rfl hkw.2.1 hc rfl (by have := hkw.1; omega) (by decide) rfl (v := s xw 7) (((congrFun (congrFun es7_ _) _).trans (up_c (by omega))).trans (((congrFun (congrFun es6_ _) _).trans (up_c (by omega))).trans (((congrFun (congrFun es5_ _) _).trans (congrFun (cp_c (by omega)) _)).trans (((congrFun (congrFun es4_ _) _).trans (congrFun (cp_c (by omega)) _)).trans (((congrFun (congrFun es3_ _) _).trans (congrFun (cp_c (by omega)) _)).trans (((congrFun (congrFun es2_ _) _).trans (congrFun (cp_c (by omega)) _)).trans ((congrFun (congrFun es1_ _) _).trans (congrFun (cp_c (by omega)) _)))))))) ?_
  refine wi_pfs (kz := 7) rfl hku.2.1 hc rfl (by have := hku.1; omega) (by decide) rfl (Nat.le_of_ble_eq_true rfl) ⟨rfl, rfl⟩ rfl ?_
  obtain ⟨s8_, es8_⟩ : ∃ q, q = up s7_ xu 7 (s xw 7) := ⟨_, rfl⟩
  rw [← es8_]
  refine wi_rv hc rfl (by rw [cm_79]; rfl) ?_
  refine ⟨s8_, rfl, fun c hc9_ => ((congrFun es8_ c).trans (up_cc (by omega))).trans (((congrFun es7_ c).trans (up_cc (by omega))).trans (((congrFun es6_ c).trans (up_cc (by omega))).trans (((congrFun es5_ c).trans (cp_c (by omega))).trans (((congrFun es4_ c).trans (cp_c (by omega))).trans (((congrFun es3_ c).trans (cp_c (by omega))).trans (((congrFun es2_ c).trans (cp_c (by omega))).trans ((congrFun es1_ c).trans (cp_c (by omega))))))))), fun p p0 p1 => ((congrFun (congrFun es8_ _) _).trans (up_c (by omega))).trans (((congrFun (congrFun es7_ _) _).trans (up_c (by omega))).trans (((congrFun (congrFun es6_ _) _).trans (up_c (by omega))).trans (((congrFun (congrFun es5_ _) _).trans (congrFun (cp_c (by omega)) _)).trans (((congrFun (congrFun es4_ _) _).trans (congrFun (cp_c (by omega)) _)).trans (((congrFun (congrFun es3_ _) _).trans (congrFun (cp_c (by omega)) _)).trans (((congrFun (congrFun es2_ _) _).trans (congrFun (cp_c (by omega)) _)).trans ((congrFun (congrFun es1_ _) _).trans (cp_at (by omega) (by omega))))))))), fun p p0 p1 => ((congrFun (congrFun es8_ _) _).trans (up_c (by omega))).trans (((congrFun (congrFun es7_ _) _).trans (up_c (by omega))).trans (((congrFun (congrFun es6_ _) _).trans (up_c (by omega))).trans (((congrFun (congrFun es5_ _) _).trans (congrFun (cp_c (by omega)) _)).trans (((congrFun (congrFun es4_ _) _).trans (congrFun (cp_c (by omega)) _)).trans (((congrFun (congrFun es3_ _) _).trans (congrFun (cp_c (by omega)) _)).trans (((congrFun (congrFun es2_ _) _).trans (cp_at (by omega) (by omega))).trans ((congrFun (congrFun es1_ _) _).trans (congrFun (cp_c (by omega)) _)))))))), fun p p0 p1 => ((congrFun (congrFun es8_ _) _).trans (up_c (by omega))).trans (((congrFun (congrFun es7_ _) _).trans (up_c (by omega))).trans (((congrFun (congrFun es6_ _) _).trans (up_c (by omega))).trans (((congrFun (congrFun es5_ _) _).trans (congrFun (cp_c (by omega)) _)).trans (((congrFun (congrFun es4_ _) _).trans (congrFun (cp_c (by omega)) _)).trans (((congrFun (congrFun es3_ _) _).trans (cp_at (by omega) (by omega))).trans (((congrFun (congrFun es2_ _) _).trans (congrFun (cp_c (by omega)) _)).trans ((congrFun (congrFun es1_ _) _).trans (congrFun (cp_c (by omega)) _)))))))), fun p p0 p1 => ⟨((congrFun (congrFun es8_ _) _).trans (up_c (by omega))).trans (((congrFun (congrFun es7_ _) _).trans (up_c (by omega))).trans (((congrFun (congrFun es6_ _) _).trans (up_c (by omega))).trans (((congrFun (congrFun es5_ _) _).trans (congrFun (cp_c (by omega)) _)).trans (((congrFun (congrFun es4_ _) _).trans (cp_at (by omega) (by omega))).trans (((congrFun (congrFun es3_ _) _).trans (congrFun (cp_c (by omega)) _)).trans (((congrFun (congrFun es2_ _) _).trans (congrFun (cp_c (by omega)) _)).trans ((congrFun (congrFun es1_ _) _).trans (congrFun (cp_c (by omega)) _)))))))), ((congrFun (congrFun es8_ _) _).trans (up_c (by omega))).trans (((congrFun (congrFun es7_ _) _).trans (up_c (by omega))).trans (((congrFun (congrFun es6_ _) _).trans (up_c (by omega))).trans (((congrFun (congrFun es5_ _) _).trans (cp_at (by omega) (by omega))).trans (((congrFun (congrFun es4_ _) _).trans (congrFun (cp_c (by omega)) _)).trans (((congrFun (congrFun es3_ _) _).trans (congrFun (cp_c (by omega)) _)).trans (((congrFun (congrFun es2_ _) _).trans (congrFun (cp_c (by omega)) _)).trans ((congrFun (congrFun es1_ _) _).trans (congrFun (cp_c (by omega)) _))))))))⟩, ((congrFun (congrFun es8_ _) _).trans (up_k (by omega))).trans (((congrFun (congrFun es7_ _) _).trans (up_k (by omega))).trans ((congrFun (congrFun es6_ _) _).trans (up_e (by omega)))), ((congrFun (congrFun es8_ _) _).trans (up_k (by omega))).trans ((congrFun (congrFun es7_ _) _).trans (up_e (by omega))), (congrFun (congrFun es8_ _) _).trans (up_e (by omega))⟩
