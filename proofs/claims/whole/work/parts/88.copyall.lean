/-! The class's copies. -/
theorem pf_zi {x : Int} (h : iI x = 0 ∨ iI x = 1) : narrow .boolean (.int (iI x)) = .int (iI x) ∧ fits .boolean (.int (iI x)) = true := by
  rcases h with h | h <;> (rw [h]; exact ⟨rfl, rfl⟩)
theorem sh_trait300 {L t : Nat} {x : Int} (h0 : 0 ≤ x) (h1 : x < 10) : (mm_SH L t 300).2.2.getD x.toNat 2 = 301 + x.toNat + 3 := by
  rcases (by omega : x = 0 ∨ x = 1 ∨ x = 2 ∨ x = 3 ∨ x = 4 ∨ x = 5 ∨ x = 6 ∨ x = 7 ∨ x = 8 ∨ x = 9) with h | h | h | h | h | h | h | h | h | h <;> (subst h; rfl)
theorem sh_traitsk {L t : Nat} {x : Int} (h0 : 0 ≤ x) (h1 : x < 10) : mm_SH L t (301 + x.toNat) = (100, 5, []) := by
  rcases (by omega : x = 0 ∨ x = 1 ∨ x = 2 ∨ x = 3 ∨ x = 4 ∨ x = 5 ∨ x = 6 ∨ x = 7 ∨ x = 8 ∨ x = 9) with h | h | h | h | h | h | h | h | h | h <;> (subst h; rfl)
theorem sh_textk {L t : Nat} {x : Int} (h0 : 0 ≤ x) (h1 : x < 4) : (mm_SH L t 311).2.2.getD x.toNat 2 = 553 + 6 * x.toNat + 3 := by
  rcases (by omega : x = 0 ∨ x = 1 ∨ x = 2 ∨ x = 3) with h | h | h | h <;> (subst h; rfl)
theorem CP.src {s1 s s' : Nat → Int → Int} {u w : Nat} (h : CP s1 s' u w) (hf : ∀ c, w ≤ c → c ≤ w + 7 → s' c = s c) : CP s1 s u w := by
  unfold CP at h ⊢
  rw [hf w (by omega) (by omega), hf (w + 2) (by omega) (by omega), hf (w + 3) (by omega) (by omega), hf (w + 4) (by omega) (by omega), hf (w + 5) (by omega) (by omega), hf (w + 6) (by omega) (by omega), hf (w + 7) (by omega) (by omega)] at h
  exact h
theorem CP.fr {s1 s s' : Nat → Int → Int} {u w : Nat} (h : CP s1 s u w) (hf : ∀ c, u ≤ c → c ≤ u + 7 → s' c = s1 c) : CP s' s u w := by
  unfold CP at h ⊢
  rw [hf u (by omega) (by omega), hf (u + 2) (by omega) (by omega), hf (u + 3) (by omega) (by omega), hf (u + 4) (by omega) (by omega), hf (u + 5) (by omega) (by omega), hf (u + 6) (by omega) (by omega), hf (u + 7) (by omega) (by omega)]
  exact h
theorem CPT.src {s1 s s' : Nat → Int → Int} {u w : Nat} (h : CPT s1 s' u w) (hf : ∀ c, w ≤ c → c ≤ w + 5 → s' c = s c) : CPT s1 s u w := by
  unfold CPT at h ⊢
  rw [hf w (by omega) (by omega), hf (w + 1) (by omega) (by omega), hf (w + 2) (by omega) (by omega), hf (w + 3) (by omega) (by omega), hf (w + 4) (by omega) (by omega), hf (w + 5) (by omega) (by omega)] at h
  exact h
theorem CPT.fr {s1 s s' : Nat → Int → Int} {u w : Nat} (h : CPT s1 s u w) (hf : ∀ c, u ≤ c → c ≤ u + 5 → s' c = s1 c) : CPT s' s u w := by
  unfold CPT at h ⊢
  rw [hf u (by omega) (by omega), hf (u + 1) (by omega) (by omega), hf (u + 2) (by omega) (by omega), hf (u + 3) (by omega) (by omega), hf (u + 4) (by omega) (by omega), hf (u + 5) (by omega) (by omega)]
  exact h
/-- all of a library copied -/
def CPA (s1 s : Nat → Int → Int) (o w : Nat) : Prop := CP s1 s (o + 2) (w + 2) ∧ (∀ j : Nat, j < 30 → CP s1 s (o + 25 + 8 * j) (w + 25 + 8 * j)) ∧ (∀ x, 0 ≤ x → x < 3 → s1 (o + 11) x = s (w + 11) x) ∧ (∀ j : Nat, j < 10 → ∀ v, 0 ≤ v → v < 5 → s1 (o + 13 + j) v = s (w + 13 + j) v) ∧ (∀ j : Nat, j < 4 → CPT s1 s (o + 265 + 6 * j) (w + 265 + 6 * j)) ∧ (∀ i, 0 ≤ i → i < 12 → s1 (o + 24) i = s (w + 24) i) ∧ ∀ k, 6 ≤ k → k ≤ 12 → s1 (o + 1) k = s (w + 1) k
theorem lb_copy {o w : Nat} {s s1 : Nat → Int → Int} {A T : Int → Int} (h : LB w s A T) (hV : VA A T) (c : CPA s1 s o w) : LB o s1 A T := by
  obtain ⟨c1, c2, c3, c4, c5, c6, c7⟩ := c
  obtain ⟨⟨a1, a2, a3, a4, a5, a6, a7, a8⟩, g2, g3, g4, g5, g6, g7⟩ := h
  have g0 := hV.1.1
  have k5 := hV.1.2.2.2.1
  have k8 := hV.2.2.1.2.2.2.1
  refine ⟨⟨(c7 8 (by decide) (by decide)).trans a1, (c7 9 (by decide) (by decide)).trans a2, (c7 10 (by decide) (by decide)).trans a3, (c7 11 (by decide) (by decide)).trans a4, (c7 12 (by decide) (by decide)).trans a5, (c7 7 (by decide) (by decide)).trans a6, by rw [c7 6 (by decide) (by decide)]; exact a7, by rw [c7 6 (by decide) (by decide)]; exact a8⟩, fun x x0 x1 => (c3 x x0 x1).trans (g2 x x0 x1), fun k v k0 k1 v0 v1 => (c4 k.toNat (by omega) v v0 v1).trans (g3 k v k0 k1 v0 v1), fun i i0 i1 => (c6 i i0 (by omega)).trans (g4 i i0 i1), c1.sc g5 (okB_V hV.2.1), fun i i0 i1 => ?_, fun i i0 i1 => tx_copy (g7 i i0 i1) (c5 i.toNat (by omega)) (hV.1.2.2.2.2.2.2 i i0 i1)⟩
  rw [c7 6 (by decide) (by decide)]
  have hm : 0 ≤ (s (w + 1) 6 + i) % 30 ∧ (s (w + 1) 6 + i) % 30 < 30 := ⟨Int.emod_nonneg _ (by decide), Int.emod_lt_of_pos _ (by decide)⟩
  exact (c2 _ (by omega)).sc (g6 i i0 i1) (hV.2.2.2.1 i i0 i1).1

theorem sp_67z {d L t : Nat} {s l : Nat → Int → Int} {uu ww : Nat} (hku : KS L t uu) (hkw : KS L t ww) (hd : uu + 8 ≤ ww ∨ ww + 8 ≤ uu) (hwet : iI (s ww 5) = 0 ∨ iI (s ww 5) = 1) : ∃ s1, mm_Ev mm_ct mm_CM (d + 1) 67 [.ref uu, .ref ww] (MX L t s l) (none, MX L t s1 l) ∧ (∀ c, ¬ (uu ≤ c ∧ c ≤ uu + 7) → s1 c = s c) ∧ CP s1 s uu ww := by
  have hc : (mm_CM 67).2.2.2.2.2.2.2 = mm_cf cd_67 := by rw [cm_67]; rfl
  refine ev_xs ?_
  refine ev_to (mx := 3) (by rw [cm_67]; decide) (by rw [cm_67]; rfl) (by show 2 ≤ _; decide) ?_
  show mm_wp _ _ (0, [some (.ref uu), some (.ref ww), none], [], MX L t s l) (fun res => ∃ s1, res = (none, MX L t s1 l) ∧ (∀ c, ¬ (uu ≤ c ∧ c ≤ uu + 7) → s1 c = s c) ∧ CP s1 s uu ww)
  refine wi_ic hc rfl ?_
  refine wi_is1 (L' := [some (.ref uu), some (.ref ww), some (.int (iI 0))]) hc rfl (Nat.le_of_ble_eq_true rfl) rfl ?_
  refine wi_i1 hc rfl rfl ?_
  refine wi_ic hc rfl ?_
  refine wi_cge hc rfl ⟨by decide, by decide⟩ ⟨by decide, by decide⟩ (fun q => absurd q (by decide)) (fun _ => ?_)
  refine wi_a1 hc rfl rfl ?_
  refine wi_grs (w := ww + 1) hkw.2.1 hc rfl (by have := hkw.1; omega) (by decide) rfl ?_
  refine wi_i1 hc rfl rfl ?_
  refine wi_alds (w := ww + 2) hkw.2.2.1 hc rfl (by decide) (by decide) (by have := hkw.1; omega) (by decide) (by decide) (by decide) rfl ?_
  refine wi_ic hc rfl ?_
  refine wi_a1 hc rfl rfl ?_
  refine wi_grs (w := uu + 1) hku.2.1 hc rfl (by have := hku.1; omega) (by decide) rfl ?_
  refine wi_i1 hc rfl rfl ?_
  refine wi_alds (w := uu + 2) hku.2.2.1 hc rfl (by decide) (by decide) (by have := hku.1; omega) (by decide) (by decide) (by decide) rfl ?_
  refine wi_ic hc rfl ?_
  refine wi_bi hc rfl rfl ?_
  refine wi_cpy (r := []) (N0 := 10) (N1 := 10) hc rfl (Nat.le_of_ble_eq_true rfl) (by have := hkw.1; omega) hkw.2.2.2.1 (by have := hku.1; omega) hku.2.2.2.1 (by omega) (by omega) (by omega) (by omega) (by omega) (by decide) (by decide) ?_
  obtain ⟨s1_, es1_⟩ : ∃ q, q = cpI s (ww + 2) (uu + 2) 0 0 10 := ⟨_, rfl⟩
  rw [← es1_]
  show mm_wp _ _ (26, [some (.ref uu), some (.ref ww), some (.int (iI 0))], [], MX L t s1_ l) _
  refine wi_inc (L' := [some (.ref uu), some (.ref ww), some (.int (iI (0 + 1)))]) hc rfl rfl rfl ?_
  refine wi_go hc rfl ?_
  refine wi_i1 hc rfl rfl ?_
  refine wi_ic hc rfl ?_
  refine wi_cge hc rfl ⟨by decide, by decide⟩ ⟨by decide, by decide⟩ (fun q => absurd q (by decide)) (fun _ => ?_)
  refine wi_a1 hc rfl rfl ?_
  refine wi_grs (w := ww + 1) hkw.2.1 hc rfl (by have := hkw.1; omega) (by decide) rfl ?_
  refine wi_i1 hc rfl rfl ?_
  refine wi_alds (w := ww + 3) hkw.2.2.1 hc rfl (by decide) (by decide) (by have := hkw.1; omega) (by decide) (by decide) (by decide) rfl ?_
  refine wi_ic hc rfl ?_
  refine wi_a1 hc rfl rfl ?_
  refine wi_grs (w := uu + 1) hku.2.1 hc rfl (by have := hku.1; omega) (by decide) rfl ?_
  refine wi_i1 hc rfl rfl ?_
  refine wi_alds (w := uu + 3) hku.2.2.1 hc rfl (by decide) (by decide) (by have := hku.1; omega) (by decide) (by decide) (by decide) rfl ?_
  refine wi_ic hc rfl ?_
  refine wi_bi hc rfl rfl ?_
  refine wi_cpy (r := []) (N0 := 10) (N1 := 10) hc rfl (Nat.le_of_ble_eq_true rfl) (by have := hkw.1; omega) hkw.2.2.2.2.1 (by have := hku.1; omega) hku.2.2.2.2.1 (by omega) (by omega) (by omega) (by omega) (by omega) (by decide) (by decide) ?_
  obtain ⟨s2_, es2_⟩ : ∃ q, q = cpI s1_ (ww + 3) (uu + 3) 0 0 10 := ⟨_, rfl⟩
  rw [← es2_]
  show mm_wp _ _ (26, [some (.ref uu), some (.ref ww), some (.int (iI (0 + 1)))], [], MX L t s2_ l) _
  refine wi_inc (L' := [some (.ref uu), some (.ref ww), some (.int (iI (0 + 1 + 1)))]) hc rfl rfl rfl ?_
  refine wi_go hc rfl ?_
  refine wi_i1 hc rfl rfl ?_
  refine wi_ic hc rfl ?_
  refine wi_cge hc rfl ⟨by decide, by decide⟩ ⟨by decide, by decide⟩ (fun q => absurd q (by decide)) (fun _ => ?_)
  refine wi_a1 hc rfl rfl ?_
  refine wi_grs (w := ww + 1) hkw.2.1 hc rfl (by have := hkw.1; omega) (by decide) rfl ?_
  refine wi_i1 hc rfl rfl ?_
  refine wi_alds (w := ww + 4) hkw.2.2.1 hc rfl (by decide) (by decide) (by have := hkw.1; omega) (by decide) (by decide) (by decide) rfl ?_
  refine wi_ic hc rfl ?_
  refine wi_a1 hc rfl rfl ?_
  refine wi_grs (w := uu + 1) hku.2.1 hc rfl (by have := hku.1; omega) (by decide) rfl ?_
  refine wi_i1 hc rfl rfl ?_
  refine wi_alds (w := uu + 4) hku.2.2.1 hc rfl (by decide) (by decide) (by have := hku.1; omega) (by decide) (by decide) (by decide) rfl ?_
  refine wi_ic hc rfl ?_
  refine wi_bi hc rfl rfl ?_
  refine wi_cpy (r := []) (N0 := 10) (N1 := 10) hc rfl (Nat.le_of_ble_eq_true rfl) (by have := hkw.1; omega) hkw.2.2.2.2.2.1 (by have := hku.1; omega) hku.2.2.2.2.2.1 (by omega) (by omega) (by omega) (by omega) (by omega) (by decide) (by decide) ?_
  obtain ⟨s3_, es3_⟩ : ∃ q, q = cpI s2_ (ww + 4) (uu + 4) 0 0 10 := ⟨_, rfl⟩
  rw [← es3_]
  show mm_wp _ _ (26, [some (.ref uu), some (.ref ww), some (.int (iI (0 + 1 + 1)))], [], MX L t s3_ l) _
  refine wi_inc (L' := [some (.ref uu), some (.ref ww), some (.int (iI (0 + 1 + 1 + 1)))]) hc rfl rfl rfl ?_
  refine wi_go hc rfl ?_
  refine wi_i1 hc rfl rfl ?_
  refine wi_ic hc rfl ?_
  refine wi_cge hc rfl ⟨by decide, by decide⟩ ⟨by decide, by decide⟩ (fun _ => ?_) (fun q => absurd q (by decide))
  refine wi_a1 hc rfl rfl ?_
  refine wi_grs (w := ww + 5) hkw.2.1 hc rfl (by have := hkw.1; omega) (by decide) rfl ?_
  refine wi_ic hc rfl ?_
  refine wi_a1 hc rfl rfl ?_
  refine wi_grs (w := uu + 5) hku.2.1 hc rfl (by have := hku.1; omega) (by decide) rfl ?_
  refine wi_ic hc rfl ?_
  refine wi_ic hc rfl ?_
  refine wi_cpy (r := []) (N0 := 3) (N1 := 3) hc rfl (Nat.le_of_ble_eq_true rfl) (by have := hkw.1; omega) hkw.2.2.2.2.2.2.1 (by have := hku.1; omega) hku.2.2.2.2.2.2.1 (by omega) (by omega) (by omega) (by omega) (by omega) (by decide) (by decide) ?_
  obtain ⟨s4_, es4_⟩ : ∃ q, q = cpI s3_ (ww + 5) (uu + 5) 0 0 3 := ⟨_, rfl⟩
  rw [← es4_]
  show mm_wp _ _ (46, [some (.ref uu), some (.ref ww), some (.int (iI (0 + 1 + 1 + 1)))], [], MX L t s4_ l) _
  refine wi_a1 hc rfl rfl ?_
  refine wi_grs (w := ww + 6) hkw.2.1 hc rfl (by have := hkw.1; omega) (by decide) rfl ?_
  refine wi_ic hc rfl ?_
  refine wi_a1 hc rfl rfl ?_
  refine wi_grs (w := uu + 6) hku.2.1 hc rfl (by have := hku.1; omega) (by decide) rfl ?_
  refine wi_ic hc rfl ?_
  refine wi_bi hc rfl rfl ?_
  refine wi_cpy (r := []) (N0 := 10) (N1 := 10) hc rfl (Nat.le_of_ble_eq_true rfl) (by have := hkw.1; omega) hkw.2.2.2.2.2.2.2.1 (by have := hku.1; omega) hku.2.2.2.2.2.2.2.1 (by omega) (by omega) (by omega) (by omega) (by omega) (by decide) (by decide) ?_
  obtain ⟨s5_, es5_⟩ : ∃ q, q = cpI s4_ (ww + 6) (uu + 6) 0 0 10 := ⟨_, rfl⟩
  rw [← es5_]
  show mm_wp _ _ (61, [some (.ref uu), some (.ref ww), some (.int (iI (0 + 1 + 1 + 1)))], [], MX L t s5_ l) _
  refine wi_a1 hc rfl rfl ?_
  refine wi_grs (w := ww + 7) hkw.2.1 hc rfl (by have := hkw.1; omega) (by decide) rfl ?_
  refine wi_ic hc rfl ?_
  refine wi_a1 hc rfl rfl ?_
  refine wi_grs (w := uu + 7) hku.2.1 hc rfl (by have := hku.1; omega) (by decide) rfl ?_
  refine wi_ic hc rfl ?_
  refine wi_bi hc rfl rfl ?_
  refine wi_cpy (r := []) (N0 := 60) (N1 := 60) hc rfl (Nat.le_of_ble_eq_true rfl) (by have := hkw.1; omega) hkw.2.2.2.2.2.2.2.2 (by have := hku.1; omega) hku.2.2.2.2.2.2.2.2 (by omega) (by omega) (by omega) (by omega) (by omega) (by decide) (by decide) ?_
  obtain ⟨s6_, es6_⟩ : ∃ q, q = cpI s5_ (ww + 7) (uu + 7) 0 0 60 := ⟨_, rfl⟩
  rw [← es6_]
  show mm_wp _ _ (76, [some (.ref uu), some (.ref ww), some (.int (iI (0 + 1 + 1 + 1)))], [], MX L t s6_ l) _
  refine wi_a1 hc rfl rfl ?_
  refine wi_a1 hc rfl rfl ?_
  refine wi_gfs (kz := 4) rfl hkw.2.1 hc rfl (by have := hkw.1; omega) (by decide) rfl (v := s ww 4) (((congrFun (congrFun es6_ _) _).trans (congrFun (cp_c (by omega)) _)).trans (((congrFun (congrFun es5_ _) _).trans (congrFun (cp_c (by omega)) _)).trans (((congrFun (congrFun es4_ _) _).trans (congrFun (cp_c (by omega)) _)).trans (((congrFun (congrFun es3_ _) _).trans (congrFun (cp_c (by omega)) _)).trans (((congrFun (congrFun es2_ _) _).trans (congrFun (cp_c (by omega)) _)).trans ((congrFun (congrFun es1_ _) _).trans (congrFun (cp_c (by omega)) _))))))) ?_
  refine wi_pfs (kz := 4) rfl hku.2.1 hc rfl (by have := hku.1; omega) (by decide) rfl (Nat.le_of_ble_eq_true rfl) ⟨rfl, rfl⟩ rfl ?_
  obtain ⟨s7_, es7_⟩ : ∃ q, q = up s6_ uu 4 (s ww 4) := ⟨_, rfl⟩
  rw [← es7_]
  refine wi_a1 hc rfl rfl ?_
  refine wi_a1 hc rfl rfl ?_
  refine wi_gfs (kz := 5) rfl hkw.2.1 hc rfl (by have := hkw.1; omega) (by decide) rfl (v := s ww 5) (((congrFun (congrFun es7_ _) _).trans (up_c (by omega))).trans (((congrFun (congrFun es6_ _) _).trans (congrFun (cp_c (by omega)) _)).trans (((congrFun (congrFun es5_ _) _).trans (congrFun (cp_c (by omega)) _)).trans (((congrFun (congrFun es4_ _) _).trans (congrFun (cp_c (by omega)) _)).trans (((congrFun (congrFun es3_ _) _).trans (congrFun (cp_c (by omega)) _)).trans (((congrFun (congrFun es2_ _) _).trans (congrFun (cp_c (by omega)) _)).trans ((congrFun (congrFun es1_ _) _).trans (congrFun (cp_c (by omega)) _)))))))) ?_
  refine wi_pfs (kz := 5) rfl hku.2.1 hc rfl (by have := hku.1; omega) (by decide) rfl (Nat.le_of_ble_eq_true rfl) (pf_zi hwet) rfl ?_
  obtain ⟨s8_, es8_⟩ : ∃ q, q = up s7_ uu 5 (s ww 5) := ⟨_, rfl⟩
  rw [← es8_]
  refine wi_a1 hc rfl rfl ?_
  refine wi_a1 hc rfl rfl ?_
  refine wi_gfs (kz := 6) rfl hkw.2.1 hc rfl (by have := hkw.1; omega) (by decide) rfl (v := s ww 6) (((congrFun (congrFun es8_ _) _).trans (up_c (by omega))).trans (((congrFun (congrFun es7_ _) _).trans (up_c (by omega))).trans (((congrFun (congrFun es6_ _) _).trans (congrFun (cp_c (by omega)) _)).trans (((congrFun (congrFun es5_ _) _).trans (congrFun (cp_c (by omega)) _)).trans (((congrFun (congrFun es4_ _) _).trans (congrFun (cp_c (by omega)) _)).trans (((congrFun (congrFun es3_ _) _).trans (congrFun (cp_c (by omega)) _)).trans (((congrFun (congrFun es2_ _) _).trans (congrFun (cp_c (by omega)) _)).trans ((congrFun (congrFun es1_ _) _).trans (congrFun (cp_c (by omega)) _))))))))) ?_
  refine wi_pfs (kz := 6) rfl hku.2.1 hc rfl (by have := hku.1; omega) (by decide) rfl (Nat.le_of_ble_eq_true rfl) ⟨rfl, rfl⟩ rfl ?_
  obtain ⟨s9_, es9_⟩ : ∃ q, q = up s8_ uu 6 (s ww 6) := ⟨_, rfl⟩
  rw [← es9_]
  refine wi_a1 hc rfl rfl ?_
  refine wi_a1 hc rfl rfl ?_
  refine wi_gfs (kz := 7) rfl hkw.2.1 hc rfl (by have := hkw.1; omega) (by decide) rfl (v := s ww 7) (((congrFun (congrFun es9_ _) _).trans (up_c (by omega))).trans (((congrFun (congrFun es8_ _) _).trans (up_c (by omega))).trans (((congrFun (congrFun es7_ _) _).trans (up_c (by omega))).trans (((congrFun (congrFun es6_ _) _).trans (congrFun (cp_c (by omega)) _)).trans (((congrFun (congrFun es5_ _) _).trans (congrFun (cp_c (by omega)) _)).trans (((congrFun (congrFun es4_ _) _).trans (congrFun (cp_c (by omega)) _)).trans (((congrFun (congrFun es3_ _) _).trans (congrFun (cp_c (by omega)) _)).trans (((congrFun (congrFun es2_ _) _).trans (congrFun (cp_c (by omega)) _)).trans ((congrFun (congrFun es1_ _) _).trans (congrFun (cp_c (by omega)) _)))))))))) ?_
  refine wi_pfs (kz := 7) rfl hku.2.1 hc rfl (by have := hku.1; omega) (by decide) rfl (Nat.le_of_ble_eq_true rfl) ⟨rfl, rfl⟩ rfl ?_
  obtain ⟨s10_, es10_⟩ : ∃ q, q = up s9_ uu 7 (s ww 7) := ⟨_, rfl⟩
  rw [← es10_]
  refine wi_rv hc rfl (by rw [cm_67]; rfl) ?_
  refine ⟨s10_, rfl, fun c hc9_ => ((congrFun es10_ c).trans (up_cc (by omega))).trans (((congrFun es9_ c).trans (up_cc (by omega))).trans (((congrFun es8_ c).trans (up_cc (by omega))).trans (((congrFun es7_ c).trans (up_cc (by omega))).trans (((congrFun es6_ c).trans (cp_c (by omega))).trans (((congrFun es5_ c).trans (cp_c (by omega))).trans (((congrFun es4_ c).trans (cp_c (by omega))).trans (((congrFun es3_ c).trans (cp_c (by omega))).trans (((congrFun es2_ c).trans (cp_c (by omega))).trans ((congrFun es1_ c).trans (cp_c (by omega))))))))))), fun p p0 p1 => ⟨((congrFun (congrFun es10_ _) _).trans (up_c (by omega))).trans (((congrFun (congrFun es9_ _) _).trans (up_c (by omega))).trans (((congrFun (congrFun es8_ _) _).trans (up_c (by omega))).trans (((congrFun (congrFun es7_ _) _).trans (up_c (by omega))).trans (((congrFun (congrFun es6_ _) _).trans (congrFun (cp_c (by omega)) _)).trans (((congrFun (congrFun es5_ _) _).trans (congrFun (cp_c (by omega)) _)).trans (((congrFun (congrFun es4_ _) _).trans (congrFun (cp_c (by omega)) _)).trans (((congrFun (congrFun es3_ _) _).trans (congrFun (cp_c (by omega)) _)).trans (((congrFun (congrFun es2_ _) _).trans (congrFun (cp_c (by omega)) _)).trans ((congrFun (congrFun es1_ _) _).trans (cp_at (by omega) (by omega))))))))))), ((congrFun (congrFun es10_ _) _).trans (up_c (by omega))).trans (((congrFun (congrFun es9_ _) _).trans (up_c (by omega))).trans (((congrFun (congrFun es8_ _) _).trans (up_c (by omega))).trans (((congrFun (congrFun es7_ _) _).trans (up_c (by omega))).trans (((congrFun (congrFun es6_ _) _).trans (congrFun (cp_c (by omega)) _)).trans (((congrFun (congrFun es5_ _) _).trans (congrFun (cp_c (by omega)) _)).trans (((congrFun (congrFun es4_ _) _).trans (congrFun (cp_c (by omega)) _)).trans (((congrFun (congrFun es3_ _) _).trans (congrFun (cp_c (by omega)) _)).trans (((congrFun (congrFun es2_ _) _).trans (cp_at (by omega) (by omega))).trans ((congrFun (congrFun es1_ _) _).trans (congrFun (cp_c (by omega)) _)))))))))), ((congrFun (congrFun es10_ _) _).trans (up_c (by omega))).trans (((congrFun (congrFun es9_ _) _).trans (up_c (by omega))).trans (((congrFun (congrFun es8_ _) _).trans (up_c (by omega))).trans (((congrFun (congrFun es7_ _) _).trans (up_c (by omega))).trans (((congrFun (congrFun es6_ _) _).trans (congrFun (cp_c (by omega)) _)).trans (((congrFun (congrFun es5_ _) _).trans (congrFun (cp_c (by omega)) _)).trans (((congrFun (congrFun es4_ _) _).trans (congrFun (cp_c (by omega)) _)).trans (((congrFun (congrFun es3_ _) _).trans (cp_at (by omega) (by omega))).trans (((congrFun (congrFun es2_ _) _).trans (congrFun (cp_c (by omega)) _)).trans ((congrFun (congrFun es1_ _) _).trans (congrFun (cp_c (by omega)) _)))))))))), ((congrFun (congrFun es10_ _) _).trans (up_c (by omega))).trans (((congrFun (congrFun es9_ _) _).trans (up_c (by omega))).trans (((congrFun (congrFun es8_ _) _).trans (up_c (by omega))).trans (((congrFun (congrFun es7_ _) _).trans (up_c (by omega))).trans (((congrFun (congrFun es6_ _) _).trans (congrFun (cp_c (by omega)) _)).trans (((congrFun (congrFun es5_ _) _).trans (cp_at (by omega) (by omega))).trans (((congrFun (congrFun es4_ _) _).trans (congrFun (cp_c (by omega)) _)).trans (((congrFun (congrFun es3_ _) _).trans (congrFun (cp_c (by omega)) _)).trans (((congrFun (congrFun es2_ _) _).trans (congrFun (cp_c (by omega)) _)).trans ((congrFun (congrFun es1_ _) _).trans (congrFun (cp_c (by omega)) _))))))))))⟩, fun x x0 x1 => ((congrFun (congrFun es10_ _) _).trans (up_c (by omega))).trans (((congrFun (congrFun es9_ _) _).trans (up_c (by omega))).trans (((congrFun (congrFun es8_ _) _).trans (up_c (by omega))).trans (((congrFun (congrFun es7_ _) _).trans (up_c (by omega))).trans (((congrFun (congrFun es6_ _) _).trans (congrFun (cp_c (by omega)) _)).trans (((congrFun (congrFun es5_ _) _).trans (congrFun (cp_c (by omega)) _)).trans (((congrFun (congrFun es4_ _) _).trans (cp_at (by omega) (by omega))).trans (((congrFun (congrFun es3_ _) _).trans (congrFun (cp_c (by omega)) _)).trans (((congrFun (congrFun es2_ _) _).trans (congrFun (cp_c (by omega)) _)).trans ((congrFun (congrFun es1_ _) _).trans (congrFun (cp_c (by omega)) _)))))))))), fun i i0 i1 => ((congrFun (congrFun es10_ _) _).trans (up_c (by omega))).trans (((congrFun (congrFun es9_ _) _).trans (up_c (by omega))).trans (((congrFun (congrFun es8_ _) _).trans (up_c (by omega))).trans (((congrFun (congrFun es7_ _) _).trans (up_c (by omega))).trans (((congrFun (congrFun es6_ _) _).trans (cp_at (by omega) (by omega))).trans (((congrFun (congrFun es5_ _) _).trans (congrFun (cp_c (by omega)) _)).trans (((congrFun (congrFun es4_ _) _).trans (congrFun (cp_c (by omega)) _)).trans (((congrFun (congrFun es3_ _) _).trans (congrFun (cp_c (by omega)) _)).trans (((congrFun (congrFun es2_ _) _).trans (congrFun (cp_c (by omega)) _)).trans ((congrFun (congrFun es1_ _) _).trans (congrFun (cp_c (by omega)) _)))))))))), ((congrFun (congrFun es10_ _) _).trans (up_k (by omega))).trans (((congrFun (congrFun es9_ _) _).trans (up_k (by omega))).trans (((congrFun (congrFun es8_ _) _).trans (up_k (by omega))).trans ((congrFun (congrFun es7_ _) _).trans (up_e (by omega))))), ((congrFun (congrFun es10_ _) _).trans (up_k (by omega))).trans (((congrFun (congrFun es9_ _) _).trans (up_k (by omega))).trans ((congrFun (congrFun es8_ _) _).trans (up_e (by omega)))), ((congrFun (congrFun es10_ _) _).trans (up_k (by omega))).trans ((congrFun (congrFun es9_ _) _).trans (up_e (by omega))), (congrFun (congrFun es10_ _) _).trans (up_e (by omega))⟩
set_option maxHeartbeats 1000000 in
theorem sp_10i {d L t : Nat} {s l : Nat → Int → Int} (hW : WZ s) : ∃ s1, mm_Ev mm_ct mm_CM (d + 2) 10 [.ref 289, .ref 1] (MX L t s l) (none, MX L t s1 l) ∧ (∀ c, ¬ (289 ≤ c ∧ c ≤ 576) → s1 c = s c) ∧ CPA s1 s 288 0 := by
  have hc : (mm_CM 10).2.2.2.2.2.2.2 = mm_cf cd_10 := by rw [cm_10]; rfl
  refine ev_xs ?_
  refine ev_to (mx := 3) (by rw [cm_10]; decide) (by rw [cm_10]; rfl) (by show 2 ≤ _; decide) ?_
  show mm_wp _ _ (0, [some (.ref 289), some (.ref 1), none], [], MX L t s l) (fun res => ∃ s1, res = (none, MX L t s1 l) ∧ (∀ c, ¬ (289 ≤ c ∧ c ≤ 576) → s1 c = s c) ∧ CPA s1 s 288 0)
  refine wi_a1 hc rfl rfl ?_
  refine wi_gr (w := 290) hc rfl rfl (by decide) (Nat.le_of_ble_eq_true rfl) rfl ?_
  refine wi_a1 hc rfl rfl ?_
  refine wi_gr (w := 2) hc rfl rfl (by decide) (Nat.le_of_ble_eq_true rfl) rfl ?_
  obtain ⟨s1_, hE1_, hF1_, hC1_⟩ := sp_67z (d := 0) (L := L) (t := t) (s := s) (l := l) (uu := 290) (ww := 2) ks_290 ks_2 (by omega) (hW _ 0 (Or.inl rfl))
  refine wp_cv (b := 290) (As := [.ref 2]) (r := []) hc rfl (by rw [cm_67]; rfl) rfl (Nat.le_of_ble_eq_true rfl) (show 290 < 621 by decide) (by rw [cm_67]; rfl) (ev_mono hE1_ (by omega)) ?_
  show mm_wp _ _ (11, [some (.ref 289), some (.ref 1), none], [], MX L t s1_ l) _
  refine wi_ic hc rfl ?_
  refine wi_is1 (L' := [some (.ref 289), some (.ref 1), some (.int (iI 0))]) hc rfl (Nat.le_of_ble_eq_true rfl) rfl ?_
  have loop13_ : ∀ i : Int, i ≤ 30 → 0 ≤ i → ∀ s2 : Nat → Int → Int, (∀ c, ¬ (290 ≤ c ∧ c ≤ 297) ∧ ¬ (313 ≤ c ∧ c ≤ 552) → s2 c = s c) → CP s2 s 290 2 → (∀ j : Nat, (j : Int) < i → CP s2 s (313 + 8 * j) (25 + 8 * j)) → mm_wp (mm_Ev mm_ct mm_CM (d + 1)) 10 (13, [some (.ref 289), some (.ref 1), some (.int (iI i))], [], MX L t s2 l) (fun res => ∃ s1, res = (none, MX L t s1 l) ∧ (∀ c, ¬ (289 ≤ c ∧ c ≤ 576) → s1 c = s c) ∧ CPA s1 s 288 0) := by
    refine up_ind ?_
    intro i hi ih hi0 s2 hF2 hC2 hD2
    refine wi_i1 hc rfl rfl ?_
    refine wi_bi hc rfl rfl ?_
    refine wi_cge hc rfl ⟨by omega, by omega⟩ ⟨by decide, by decide⟩ (fun h1_ => ?_) (fun h1_ => ?_)
    · refine wi_a1 hc rfl rfl ?_
      refine wi_gr (w := 11) hc rfl rfl (by decide) (Nat.le_of_ble_eq_true rfl) rfl ?_
      refine wi_ic hc rfl ?_
      refine wi_a1 hc rfl rfl ?_
      refine wi_gr (w := 299) hc rfl rfl (by decide) (Nat.le_of_ble_eq_true rfl) rfl ?_
      refine wi_ic hc rfl ?_
      refine wi_ic hc rfl ?_
      refine wi_cpy (r := []) (N0 := 3) (N1 := 3) hc rfl (Nat.le_of_ble_eq_true rfl) (by decide) rfl (by decide) rfl (by omega) (by omega) (by omega) (by omega) (by omega) (by decide) (by decide) ?_
      obtain ⟨s2_, es2_⟩ : ∃ q, q = cpI s2 11 299 0 0 3 := ⟨_, rfl⟩
      rw [← es2_]
      show mm_wp _ _ (54, [some (.ref 289), some (.ref 1), some (.int (iI i))], [], MX L t s2_ l) _
      refine wi_ic hc rfl ?_
      refine wi_is1 (L' := [some (.ref 289), some (.ref 1), some (.int (iI 0))]) hc rfl (Nat.le_of_ble_eq_true rfl) rfl ?_
      have loop56_ : ∀ k : Int, k ≤ 10 → 0 ≤ k → ∀ s4 : Nat → Int → Int, (∀ c, ¬ (301 ≤ c ∧ c ≤ 310) → s4 c = s2_ c) → (∀ j : Nat, (j : Int) < k → ∀ v, 0 ≤ v → v < 5 → s4 (301 + j) v = s (13 + j) v) → mm_wp (mm_Ev mm_ct mm_CM (d + 1)) 10 (56, [some (.ref 289), some (.ref 1), some (.int (iI k))], [], MX L t s4 l) (fun res => ∃ s1, res = (none, MX L t s1 l) ∧ (∀ c, ¬ (289 ≤ c ∧ c ≤ 576) → s1 c = s c) ∧ CPA s1 s 288 0) := by
        refine up_ind ?_
        intro k hk ih4 hk0 s4 hF4 hD4
        refine wi_i1 hc rfl rfl ?_
        refine wi_bi hc rfl rfl ?_
        refine wi_cge hc rfl ⟨by omega, by omega⟩ ⟨by decide, by decide⟩ (fun h2_ => ?_) (fun h2_ => ?_)
        · refine wi_ic hc rfl ?_
          refine wi_is1 (L' := [some (.ref 289), some (.ref 1), some (.int (iI 0))]) hc rfl (Nat.le_of_ble_eq_true rfl) rfl ?_
          have loop88_ : ∀ y : Int, y ≤ 4 → 0 ≤ y → ∀ s5 : Nat → Int → Int, (∀ c, ¬ (553 ≤ c ∧ c ≤ 576) → s5 c = s4 c) → (∀ j : Nat, (j : Int) < y → CPT s5 s (553 + 6 * j) (265 + 6 * j)) → mm_wp (mm_Ev mm_ct mm_CM (d + 1)) 10 (88, [some (.ref 289), some (.ref 1), some (.int (iI y))], [], MX L t s5 l) (fun res => ∃ s1, res = (none, MX L t s1 l) ∧ (∀ c, ¬ (289 ≤ c ∧ c ≤ 576) → s1 c = s c) ∧ CPA s1 s 288 0) := by
            refine up_ind ?_
            intro y hy ih5 hy0 s5 hF5 hD5
            refine wi_i1 hc rfl rfl ?_
            refine wi_ic hc rfl ?_
            refine wi_cge hc rfl ⟨by omega, by omega⟩ ⟨by decide, by decide⟩ (fun h3_ => ?_) (fun h3_ => ?_)
            · refine wi_a1 hc rfl rfl ?_
              refine wi_gr (w := 24) hc rfl rfl (by decide) (Nat.le_of_ble_eq_true rfl) rfl ?_
              refine wi_ic hc rfl ?_
              refine wi_a1 hc rfl rfl ?_
              refine wi_gr (w := 312) hc rfl rfl (by decide) (Nat.le_of_ble_eq_true rfl) rfl ?_
              refine wi_ic hc rfl ?_
              refine wi_bi hc rfl rfl ?_
              refine wi_cpy (r := []) (N0 := 12) (N1 := 12) hc rfl (Nat.le_of_ble_eq_true rfl) (by decide) rfl (by decide) rfl (by omega) (by omega) (by omega) (by omega) (by omega) (by decide) (by decide) ?_
              obtain ⟨s3_, es3_⟩ : ∃ q, q = cpI s5 24 312 0 0 12 := ⟨_, rfl⟩
              rw [← es3_]
              show mm_wp _ _ (129, [some (.ref 289), some (.ref 1), some (.int (iI y))], [], MX L t s3_ l) _
              refine wi_a1 hc rfl rfl ?_
              refine wi_a1 hc rfl rfl ?_
              refine wi_gfv (kz := 6) rfl hc rfl rfl (by decide) (Nat.le_of_ble_eq_true rfl) rfl (v := s 1 6) (((congrFun (congrFun es3_ _) _).trans (congrFun (cp_c (by omega)) _)).trans ((congrFun (hF5 1 (by omega)) _).trans ((congrFun (hF4 1 (by omega)) _).trans (((congrFun (congrFun es2_ _) _).trans (congrFun (cp_c (by omega)) _)).trans (congrFun (hF2 1 (by omega)) _))))) ?_
              refine wi_pf (kz := 6) rfl hc rfl rfl (by decide) (Nat.le_of_ble_eq_true rfl) rfl (Nat.le_of_ble_eq_true rfl) ⟨rfl, rfl⟩ rfl ?_
              obtain ⟨s4_, es4_⟩ : ∃ q, q = up s3_ 289 6 (s 1 6) := ⟨_, rfl⟩
              rw [← es4_]
              refine wi_a1 hc rfl rfl ?_
              refine wi_a1 hc rfl rfl ?_
              refine wi_gfv (kz := 7) rfl hc rfl rfl (by decide) (Nat.le_of_ble_eq_true rfl) rfl (v := s 1 7) (((congrFun (congrFun es4_ _) _).trans (up_c (by decide))).trans (((congrFun (congrFun es3_ _) _).trans (congrFun (cp_c (by omega)) _)).trans ((congrFun (hF5 1 (by omega)) _).trans ((congrFun (hF4 1 (by omega)) _).trans (((congrFun (congrFun es2_ _) _).trans (congrFun (cp_c (by omega)) _)).trans (congrFun (hF2 1 (by omega)) _)))))) ?_
              refine wi_pf (kz := 7) rfl hc rfl rfl (by decide) (Nat.le_of_ble_eq_true rfl) rfl (Nat.le_of_ble_eq_true rfl) ⟨rfl, rfl⟩ rfl ?_
              obtain ⟨s5_, es5_⟩ : ∃ q, q = up s4_ 289 7 (s 1 7) := ⟨_, rfl⟩
              rw [← es5_]
              refine wi_a1 hc rfl rfl ?_
              refine wi_a1 hc rfl rfl ?_
              refine wi_gfv (kz := 8) rfl hc rfl rfl (by decide) (Nat.le_of_ble_eq_true rfl) rfl (v := s 1 8) (((congrFun (congrFun es5_ _) _).trans (up_c (by decide))).trans (((congrFun (congrFun es4_ _) _).trans (up_c (by decide))).trans (((congrFun (congrFun es3_ _) _).trans (congrFun (cp_c (by omega)) _)).trans ((congrFun (hF5 1 (by omega)) _).trans ((congrFun (hF4 1 (by omega)) _).trans (((congrFun (congrFun es2_ _) _).trans (congrFun (cp_c (by omega)) _)).trans (congrFun (hF2 1 (by omega)) _))))))) ?_
              refine wi_pf (kz := 8) rfl hc rfl rfl (by decide) (Nat.le_of_ble_eq_true rfl) rfl (Nat.le_of_ble_eq_true rfl) ⟨rfl, rfl⟩ rfl ?_
              obtain ⟨s6_, es6_⟩ : ∃ q, q = up s5_ 289 8 (s 1 8) := ⟨_, rfl⟩
              rw [← es6_]
              refine wi_a1 hc rfl rfl ?_
              refine wi_a1 hc rfl rfl ?_
              refine wi_gfv (kz := 9) rfl hc rfl rfl (by decide) (Nat.le_of_ble_eq_true rfl) rfl (v := s 1 9) (((congrFun (congrFun es6_ _) _).trans (up_c (by decide))).trans (((congrFun (congrFun es5_ _) _).trans (up_c (by decide))).trans (((congrFun (congrFun es4_ _) _).trans (up_c (by decide))).trans (((congrFun (congrFun es3_ _) _).trans (congrFun (cp_c (by omega)) _)).trans ((congrFun (hF5 1 (by omega)) _).trans ((congrFun (hF4 1 (by omega)) _).trans (((congrFun (congrFun es2_ _) _).trans (congrFun (cp_c (by omega)) _)).trans (congrFun (hF2 1 (by omega)) _)))))))) ?_
              refine wi_pf (kz := 9) rfl hc rfl rfl (by decide) (Nat.le_of_ble_eq_true rfl) rfl (Nat.le_of_ble_eq_true rfl) ⟨rfl, rfl⟩ rfl ?_
              obtain ⟨s7_, es7_⟩ : ∃ q, q = up s6_ 289 9 (s 1 9) := ⟨_, rfl⟩
              rw [← es7_]
              refine wi_a1 hc rfl rfl ?_
              refine wi_a1 hc rfl rfl ?_
              refine wi_gfv (kz := 10) rfl hc rfl rfl (by decide) (Nat.le_of_ble_eq_true rfl) rfl (v := s 1 10) (((congrFun (congrFun es7_ _) _).trans (up_c (by decide))).trans (((congrFun (congrFun es6_ _) _).trans (up_c (by decide))).trans (((congrFun (congrFun es5_ _) _).trans (up_c (by decide))).trans (((congrFun (congrFun es4_ _) _).trans (up_c (by decide))).trans (((congrFun (congrFun es3_ _) _).trans (congrFun (cp_c (by omega)) _)).trans ((congrFun (hF5 1 (by omega)) _).trans ((congrFun (hF4 1 (by omega)) _).trans (((congrFun (congrFun es2_ _) _).trans (congrFun (cp_c (by omega)) _)).trans (congrFun (hF2 1 (by omega)) _))))))))) ?_
              refine wi_pf (kz := 10) rfl hc rfl rfl (by decide) (Nat.le_of_ble_eq_true rfl) rfl (Nat.le_of_ble_eq_true rfl) ⟨rfl, rfl⟩ rfl ?_
              obtain ⟨s8_, es8_⟩ : ∃ q, q = up s7_ 289 10 (s 1 10) := ⟨_, rfl⟩
              rw [← es8_]
              refine wi_a1 hc rfl rfl ?_
              refine wi_a1 hc rfl rfl ?_
              refine wi_gfv (kz := 11) rfl hc rfl rfl (by decide) (Nat.le_of_ble_eq_true rfl) rfl (v := s 1 11) (((congrFun (congrFun es8_ _) _).trans (up_c (by decide))).trans (((congrFun (congrFun es7_ _) _).trans (up_c (by decide))).trans (((congrFun (congrFun es6_ _) _).trans (up_c (by decide))).trans (((congrFun (congrFun es5_ _) _).trans (up_c (by decide))).trans (((congrFun (congrFun es4_ _) _).trans (up_c (by decide))).trans (((congrFun (congrFun es3_ _) _).trans (congrFun (cp_c (by omega)) _)).trans ((congrFun (hF5 1 (by omega)) _).trans ((congrFun (hF4 1 (by omega)) _).trans (((congrFun (congrFun es2_ _) _).trans (congrFun (cp_c (by omega)) _)).trans (congrFun (hF2 1 (by omega)) _)))))))))) ?_
              refine wi_pf (kz := 11) rfl hc rfl rfl (by decide) (Nat.le_of_ble_eq_true rfl) rfl (Nat.le_of_ble_eq_true rfl) ⟨rfl, rfl⟩ rfl ?_
              obtain ⟨s9_, es9_⟩ : ∃ q, q = up s8_ 289 11 (s 1 11) := ⟨_, rfl⟩
              rw [← es9_]
              refine wi_a1 hc rfl rfl ?_
              refine wi_a1 hc rfl rfl ?_
              refine wi_gfv (kz := 12) rfl hc rfl rfl (by decide) (Nat.le_of_ble_eq_true rfl) rfl (v := s 1 12) (((congrFun (congrFun es9_ _) _).trans (up_c (by decide))).trans (((congrFun (congrFun es8_ _) _).trans (up_c (by decide))).trans (((congrFun (congrFun es7_ _) _).trans (up_c (by decide))).trans (((congrFun (congrFun es6_ _) _).trans (up_c (by decide))).trans (((congrFun (congrFun es5_ _) _).trans (up_c (by decide))).trans (((congrFun (congrFun es4_ _) _).trans (up_c (by decide))).trans (((congrFun (congrFun es3_ _) _).trans (congrFun (cp_c (by omega)) _)).trans ((congrFun (hF5 1 (by omega)) _).trans ((congrFun (hF4 1 (by omega)) _).trans (((congrFun (congrFun es2_ _) _).trans (congrFun (cp_c (by omega)) _)).trans (congrFun (hF2 1 (by omega)) _))))))))))) ?_
              refine wi_pf (kz := 12) rfl hc rfl rfl (by decide) (Nat.le_of_ble_eq_true rfl) rfl (Nat.le_of_ble_eq_true rfl) ⟨rfl, rfl⟩ rfl ?_
              obtain ⟨s10_, es10_⟩ : ∃ q, q = up s9_ 289 12 (s 1 12) := ⟨_, rfl⟩
              rw [← es10_]
              refine wi_rv hc rfl (by rw [cm_10]; rfl) ?_
              have hall : ∀ c, ¬ (289 ≤ c ∧ c ≤ 576) → s10_ c = s c := fun c q => ((congrFun es10_ c).trans (up_cc (by omega))).trans (((congrFun es9_ c).trans (up_cc (by omega))).trans (((congrFun es8_ c).trans (up_cc (by omega))).trans (((congrFun es7_ c).trans (up_cc (by omega))).trans (((congrFun es6_ c).trans (up_cc (by omega))).trans (((congrFun es5_ c).trans (up_cc (by omega))).trans (((congrFun es4_ c).trans (up_cc (by omega))).trans (((congrFun es3_ c).trans (cp_c (by omega))).trans ((hF5 c (by omega)).trans ((hF4 c (by omega)).trans (((congrFun es2_ c).trans (cp_c (by omega))).trans (hF2 c (by omega))))))))))))
              refine ⟨s10_, rfl, hall, hC2.fr (fun c a b => ((congrFun es10_ c).trans (up_cc (by omega))).trans (((congrFun es9_ c).trans (up_cc (by omega))).trans (((congrFun es8_ c).trans (up_cc (by omega))).trans (((congrFun es7_ c).trans (up_cc (by omega))).trans (((congrFun es6_ c).trans (up_cc (by omega))).trans (((congrFun es5_ c).trans (up_cc (by omega))).trans (((congrFun es4_ c).trans (up_cc (by omega))).trans (((congrFun es3_ c).trans (cp_c (by omega))).trans ((hF5 c (by omega)).trans ((hF4 c (by omega)).trans ((congrFun es2_ c).trans (cp_c (by omega))))))))))))), fun j hj => ?_, fun x x0 x1 => ?_, fun j hj v v0 v1 => ?_, fun j hj => ?_, fun i i0 i1 => ?_, fun k k0 k1 => ?_⟩
              · have := hD2 j (by omega)
                exact this.fr (fun c a b => ((congrFun es10_ c).trans (up_cc (by omega))).trans (((congrFun es9_ c).trans (up_cc (by omega))).trans (((congrFun es8_ c).trans (up_cc (by omega))).trans (((congrFun es7_ c).trans (up_cc (by omega))).trans (((congrFun es6_ c).trans (up_cc (by omega))).trans (((congrFun es5_ c).trans (up_cc (by omega))).trans (((congrFun es4_ c).trans (up_cc (by omega))).trans (((congrFun es3_ c).trans (cp_c (by omega))).trans ((hF5 c (by omega)).trans ((hF4 c (by omega)).trans ((congrFun es2_ c).trans (cp_c (by omega)))))))))))))
              · exact ((congrFun (congrFun es10_ _) _).trans (up_c (by decide))).trans (((congrFun (congrFun es9_ _) _).trans (up_c (by decide))).trans (((congrFun (congrFun es8_ _) _).trans (up_c (by decide))).trans (((congrFun (congrFun es7_ _) _).trans (up_c (by decide))).trans (((congrFun (congrFun es6_ _) _).trans (up_c (by decide))).trans (((congrFun (congrFun es5_ _) _).trans (up_c (by decide))).trans (((congrFun (congrFun es4_ _) _).trans (up_c (by decide))).trans (((congrFun (congrFun es3_ _) _).trans (congrFun (cp_c (by omega)) _)).trans ((congrFun (hF5 299 (by omega)) _).trans ((congrFun (hF4 299 (by omega)) _).trans (((congrFun (congrFun es2_ _) _).trans (cp_at (by omega) (by omega))).trans (congrFun (hF2 11 (by omega)) _)))))))))))
              · have := hD4 j (by omega) v v0 v1
                exact (congrFun (((congrFun es10_ (301 + j)).trans (up_cc (by omega))).trans (((congrFun es9_ (301 + j)).trans (up_cc (by omega))).trans (((congrFun es8_ (301 + j)).trans (up_cc (by omega))).trans (((congrFun es7_ (301 + j)).trans (up_cc (by omega))).trans (((congrFun es6_ (301 + j)).trans (up_cc (by omega))).trans (((congrFun es5_ (301 + j)).trans (up_cc (by omega))).trans (((congrFun es4_ (301 + j)).trans (up_cc (by omega))).trans (((congrFun es3_ (301 + j)).trans (cp_c (by omega))).trans (hF5 (301 + j) (by omega)))))))))) v).trans this
              · have := hD5 j (by omega)
                exact this.fr (fun c a b => ((congrFun es10_ c).trans (up_cc (by omega))).trans (((congrFun es9_ c).trans (up_cc (by omega))).trans (((congrFun es8_ c).trans (up_cc (by omega))).trans (((congrFun es7_ c).trans (up_cc (by omega))).trans (((congrFun es6_ c).trans (up_cc (by omega))).trans (((congrFun es5_ c).trans (up_cc (by omega))).trans (((congrFun es4_ c).trans (up_cc (by omega))).trans ((congrFun es3_ c).trans (cp_c (by omega))))))))))
              · exact ((congrFun (congrFun es10_ _) _).trans (up_c (by decide))).trans (((congrFun (congrFun es9_ _) _).trans (up_c (by decide))).trans (((congrFun (congrFun es8_ _) _).trans (up_c (by decide))).trans (((congrFun (congrFun es7_ _) _).trans (up_c (by decide))).trans (((congrFun (congrFun es6_ _) _).trans (up_c (by decide))).trans (((congrFun (congrFun es5_ _) _).trans (up_c (by decide))).trans (((congrFun (congrFun es4_ _) _).trans (up_c (by decide))).trans (((congrFun (congrFun es3_ _) _).trans (cp_at (by omega) (by omega))).trans ((congrFun (hF5 24 (by omega)) _).trans ((congrFun (hF4 24 (by omega)) _).trans (((congrFun (congrFun es2_ _) _).trans (congrFun (cp_c (by omega)) _)).trans (congrFun (hF2 24 (by omega)) _)))))))))))
              · rcases (by omega : k = 6 ∨ k = 7 ∨ k = 8 ∨ k = 9 ∨ k = 10 ∨ k = 11 ∨ k = 12) with q | q | q | q | q | q | q <;> subst q
                · exact ((congrFun (congrFun es10_ _) _).trans (up_k (by omega))).trans (((congrFun (congrFun es9_ _) _).trans (up_k (by omega))).trans (((congrFun (congrFun es8_ _) _).trans (up_k (by omega))).trans (((congrFun (congrFun es7_ _) _).trans (up_k (by omega))).trans (((congrFun (congrFun es6_ _) _).trans (up_k (by omega))).trans (((congrFun (congrFun es5_ _) _).trans (up_k (by omega))).trans ((congrFun (congrFun es4_ _) _).trans (up_e (by omega))))))))
                · exact ((congrFun (congrFun es10_ _) _).trans (up_k (by omega))).trans (((congrFun (congrFun es9_ _) _).trans (up_k (by omega))).trans (((congrFun (congrFun es8_ _) _).trans (up_k (by omega))).trans (((congrFun (congrFun es7_ _) _).trans (up_k (by omega))).trans (((congrFun (congrFun es6_ _) _).trans (up_k (by omega))).trans ((congrFun (congrFun es5_ _) _).trans (up_e (by omega)))))))
                · exact ((congrFun (congrFun es10_ _) _).trans (up_k (by omega))).trans (((congrFun (congrFun es9_ _) _).trans (up_k (by omega))).trans (((congrFun (congrFun es8_ _) _).trans (up_k (by omega))).trans (((congrFun (congrFun es7_ _) _).trans (up_k (by omega))).trans ((congrFun (congrFun es6_ _) _).trans (up_e (by omega))))))
                · exact ((congrFun (congrFun es10_ _) _).trans (up_k (by omega))).trans (((congrFun (congrFun es9_ _) _).trans (up_k (by omega))).trans (((congrFun (congrFun es8_ _) _).trans (up_k (by omega))).trans ((congrFun (congrFun es7_ _) _).trans (up_e (by omega)))))
                · exact ((congrFun (congrFun es10_ _) _).trans (up_k (by omega))).trans (((congrFun (congrFun es9_ _) _).trans (up_k (by omega))).trans ((congrFun (congrFun es8_ _) _).trans (up_e (by omega))))
                · exact ((congrFun (congrFun es10_ _) _).trans (up_k (by omega))).trans ((congrFun (congrFun es9_ _) _).trans (up_e (by omega)))
                · exact (congrFun (congrFun es10_ _) _).trans (up_e (by omega))
            · refine wi_a1 hc rfl rfl ?_
              refine wi_gr (w := 311) hc rfl rfl (by decide) (Nat.le_of_ble_eq_true rfl) rfl ?_
              refine wi_i1 hc rfl rfl ?_
              refine wi_ald (w := 553 + 6 * y.toNat) (N := 4) hc rfl (Nat.le_of_ble_eq_true rfl) (Nat.le_of_ble_eq_true rfl) (by decide) rfl (by decide) (by omega) (by omega) (sh_textk (by omega) (by omega)) ?_
              refine wi_a1 hc rfl rfl ?_
              refine wi_gr (w := 23) hc rfl rfl (by decide) (Nat.le_of_ble_eq_true rfl) rfl ?_
              refine wi_i1 hc rfl rfl ?_
              refine wi_ald (w := 265 + 6 * y.toNat) (N := 4) hc rfl (Nat.le_of_ble_eq_true rfl) (Nat.le_of_ble_eq_true rfl) (by decide) rfl (by decide) (by omega) (by omega) (sh_text (by omega) (by omega)) ?_
              obtain ⟨s11_, hE11_, hF11_, hC11_⟩ := sp_79 (d := 0) (L := L) (t := t) (s := s5) (l := l) (xu := 553 + 6 * y.toNat) (xw := 265 + 6 * y.toNat) (kt_kept (by omega) (by omega)) (kt_now (by omega) (by omega)) (by omega)
              refine wp_cv (b := 553 + 6 * y.toNat) (As := [.ref (265 + 6 * y.toNat)]) (r := []) hc rfl (by rw [cm_79]; rfl) rfl (Nat.le_of_ble_eq_true rfl) (show 553 + 6 * y.toNat < 621 by omega) (by rw [cm_79]; exact congrArg Prod.fst (kt_kept (by omega) (by omega)).2.1) (ev_mono hE11_ (by omega)) ?_
              show mm_wp _ _ (108, [some (.ref 289), some (.ref 1), some (.int (iI y))], [], MX L t s11_ l) _
              refine wi_inc (L' := [some (.ref 289), some (.ref 1), some (.int (iI (y + 1)))]) hc rfl rfl rfl ?_
              refine wi_go hc rfl ?_
              refine ih5 (by omega) (by omega) s11_ (fun c q1 => (hF11_ c (by omega)).trans (hF5 c (by omega))) (fun j hj => ?_)
              by_cases e9 : j = y.toNat
              · subst e9
                exact hC11_.src (fun c a b => (hF5 c (by omega)).trans ((hF4 c (by omega)).trans (((congrFun es2_ c).trans (cp_c (by omega))).trans (hF2 c (by omega)))))
              · exact (hD5 j (by omega)).fr (fun c a b => hF11_ c (by omega))
          refine loop88_ 0 (by omega) (by omega) s4 (fun c q1 => rfl) (fun j hj => by omega)
        · refine wi_a1 hc rfl rfl ?_
          refine wi_gr (w := 12) hc rfl rfl (by decide) (Nat.le_of_ble_eq_true rfl) rfl ?_
          refine wi_i1 hc rfl rfl ?_
          refine wi_ald (w := 13 + k.toNat) (N := 10) hc rfl (Nat.le_of_ble_eq_true rfl) (Nat.le_of_ble_eq_true rfl) (by decide) rfl (by decide) (by omega) (by omega) (sh_trait12 (by omega) (by omega)) ?_
          refine wi_ic hc rfl ?_
          refine wi_a1 hc rfl rfl ?_
          refine wi_gr (w := 300) hc rfl rfl (by decide) (Nat.le_of_ble_eq_true rfl) rfl ?_
          refine wi_i1 hc rfl rfl ?_
          refine wi_ald (w := 301 + k.toNat) (N := 10) hc rfl (Nat.le_of_ble_eq_true rfl) (Nat.le_of_ble_eq_true rfl) (by decide) rfl (by decide) (by omega) (by omega) (sh_trait300 (by omega) (by omega)) ?_
          refine wi_ic hc rfl ?_
          refine wi_ic hc rfl ?_
          refine wi_cpy (r := []) (N0 := 5) (N1 := 5) hc rfl (Nat.le_of_ble_eq_true rfl) (by omega) (by rw [sh_traits (by omega) (by omega)]) (by omega) (by rw [sh_traitsk (by omega) (by omega)]) (by omega) (by omega) (by omega) (by omega) (by omega) (by decide) (by decide) ?_
          obtain ⟨s12_, es12_⟩ : ∃ q, q = cpI s4 (13 + k.toNat) (301 + k.toNat) 0 0 5 := ⟨_, rfl⟩
          rw [← es12_]
          show mm_wp _ _ (80, [some (.ref 289), some (.ref 1), some (.int (iI k))], [], MX L t s12_ l) _
          refine wi_inc (L' := [some (.ref 289), some (.ref 1), some (.int (iI (k + 1)))]) hc rfl rfl rfl ?_
          refine wi_go hc rfl ?_
          refine ih4 (by omega) (by omega) s12_ (fun c q1 => ((congrFun es12_ c).trans (cp_c (by omega))).trans (hF4 c (by omega))) (fun j hj v v0 v1 => ?_)
          by_cases e9 : j = k.toNat
          · subst e9
            rw [es12_]
            refine (cp_at (by omega) (by omega)).trans ?_
            rw [hF4 _ (by omega)]
            exact congrFun (((congrFun es2_ (13 + k.toNat)).trans (cp_c (by omega))).trans (hF2 (13 + k.toNat) (by omega))) v
          · rw [es12_, cp_c (by omega)]
            exact hD4 j (by omega) v v0 v1
      refine loop56_ 0 (by omega) (by omega) s2_ (fun c q1 => rfl) (fun j hj => by omega)
    · refine wi_a1 hc rfl rfl ?_
      refine wi_gr (w := 298) hc rfl rfl (by decide) (Nat.le_of_ble_eq_true rfl) rfl ?_
      refine wi_i1 hc rfl rfl ?_
      refine wi_ald (w := 313 + 8 * i.toNat) (N := 30) hc rfl (Nat.le_of_ble_eq_true rfl) (Nat.le_of_ble_eq_true rfl) (by decide) rfl (by decide) (by omega) (by omega) (sh_st298 (by omega) (by omega)) ?_
      refine wi_a1 hc rfl rfl ?_
      refine wi_gr (w := 10) hc rfl rfl (by decide) (Nat.le_of_ble_eq_true rfl) rfl ?_
      refine wi_i1 hc rfl rfl ?_
      refine wi_ald (w := 25 + 8 * i.toNat) (N := 30) hc rfl (Nat.le_of_ble_eq_true rfl) (Nat.le_of_ble_eq_true rfl) (by decide) rfl (by decide) (by omega) (by omega) (sh_st10 (by omega) (by omega)) ?_
      obtain ⟨s13_, hE13_, hF13_, hC13_⟩ := sp_67z (d := 0) (L := L) (t := t) (s := s2) (l := l) (uu := 313 + 8 * i.toNat) (ww := 25 + 8 * i.toNat) (ks_kept (by omega) (by omega)) (ks_now (by omega) (by omega)) (by omega) (by rw [hF2 _ (by omega)]; exact hW _ i.toNat (Or.inr (Or.inr (Or.inl ⟨rfl, by omega⟩))))
      refine wp_cv (b := 313 + 8 * i.toNat) (As := [.ref (25 + 8 * i.toNat)]) (r := []) hc rfl (by rw [cm_67]; rfl) rfl (Nat.le_of_ble_eq_true rfl) (show 313 + 8 * i.toNat < 621 by omega) (by rw [cm_67]; exact congrArg Prod.fst (ks_kept (by omega) (by omega)).2.1) (ev_mono hE13_ (by omega)) ?_
      show mm_wp _ _ (34, [some (.ref 289), some (.ref 1), some (.int (iI i))], [], MX L t s13_ l) _
      refine wi_inc (L' := [some (.ref 289), some (.ref 1), some (.int (iI (i + 1)))]) hc rfl rfl rfl ?_
      refine wi_go hc rfl ?_
      refine ih (by omega) (by omega) s13_ (fun c q1 => (hF13_ c (by omega)).trans (hF2 c (by omega))) (hC2.fr (fun c a b => hF13_ c (by omega))) (fun j hj => ?_)
      by_cases e9 : j = i.toNat
      · subst e9
        exact hC13_.src (fun c a b => hF2 c (by omega))
      · exact (hD2 j (by omega)).fr (fun c a b => hF13_ c (by omega))
  refine loop13_ 0 (by omega) (by omega) s1_ (fun c q1 => hF1_ c (by omega)) hC1_ (fun j hj => by omega)
set_option maxHeartbeats 1000000 in
theorem sp_10b {d L t : Nat} {s l : Nat → Int → Int} (hW : WZ s) : ∃ s1, mm_Ev mm_ct mm_CM (d + 2) 10 [.ref 1, .ref 289] (MX L t s l) (none, MX L t s1 l) ∧ (∀ c, ¬ (1 ≤ c ∧ c ≤ 288) → s1 c = s c) ∧ CPA s1 s 0 288 := by
  have hc : (mm_CM 10).2.2.2.2.2.2.2 = mm_cf cd_10 := by rw [cm_10]; rfl
  refine ev_xs ?_
  refine ev_to (mx := 3) (by rw [cm_10]; decide) (by rw [cm_10]; rfl) (by show 2 ≤ _; decide) ?_
  show mm_wp _ _ (0, [some (.ref 1), some (.ref 289), none], [], MX L t s l) (fun res => ∃ s1, res = (none, MX L t s1 l) ∧ (∀ c, ¬ (1 ≤ c ∧ c ≤ 288) → s1 c = s c) ∧ CPA s1 s 0 288)
  refine wi_a1 hc rfl rfl ?_
  refine wi_gr (w := 2) hc rfl rfl (by decide) (Nat.le_of_ble_eq_true rfl) rfl ?_
  refine wi_a1 hc rfl rfl ?_
  refine wi_gr (w := 290) hc rfl rfl (by decide) (Nat.le_of_ble_eq_true rfl) rfl ?_
  obtain ⟨s1_, hE1_, hF1_, hC1_⟩ := sp_67z (d := 0) (L := L) (t := t) (s := s) (l := l) (uu := 2) (ww := 290) ks_2 ks_290 (by omega) (hW _ 0 (Or.inr (Or.inl rfl)))
  refine wp_cv (b := 2) (As := [.ref 290]) (r := []) hc rfl (by rw [cm_67]; rfl) rfl (Nat.le_of_ble_eq_true rfl) (show 2 < 621 by decide) (by rw [cm_67]; rfl) (ev_mono hE1_ (by omega)) ?_
  show mm_wp _ _ (11, [some (.ref 1), some (.ref 289), none], [], MX L t s1_ l) _
  refine wi_ic hc rfl ?_
  refine wi_is1 (L' := [some (.ref 1), some (.ref 289), some (.int (iI 0))]) hc rfl (Nat.le_of_ble_eq_true rfl) rfl ?_
  have loop13_ : ∀ i : Int, i ≤ 30 → 0 ≤ i → ∀ s2 : Nat → Int → Int, (∀ c, ¬ (2 ≤ c ∧ c ≤ 9) ∧ ¬ (25 ≤ c ∧ c ≤ 264) → s2 c = s c) → CP s2 s 2 290 → (∀ j : Nat, (j : Int) < i → CP s2 s (25 + 8 * j) (313 + 8 * j)) → mm_wp (mm_Ev mm_ct mm_CM (d + 1)) 10 (13, [some (.ref 1), some (.ref 289), some (.int (iI i))], [], MX L t s2 l) (fun res => ∃ s1, res = (none, MX L t s1 l) ∧ (∀ c, ¬ (1 ≤ c ∧ c ≤ 288) → s1 c = s c) ∧ CPA s1 s 0 288) := by
    refine up_ind ?_
    intro i hi ih hi0 s2 hF2 hC2 hD2
    refine wi_i1 hc rfl rfl ?_
    refine wi_bi hc rfl rfl ?_
    refine wi_cge hc rfl ⟨by omega, by omega⟩ ⟨by decide, by decide⟩ (fun h1_ => ?_) (fun h1_ => ?_)
    · refine wi_a1 hc rfl rfl ?_
      refine wi_gr (w := 299) hc rfl rfl (by decide) (Nat.le_of_ble_eq_true rfl) rfl ?_
      refine wi_ic hc rfl ?_
      refine wi_a1 hc rfl rfl ?_
      refine wi_gr (w := 11) hc rfl rfl (by decide) (Nat.le_of_ble_eq_true rfl) rfl ?_
      refine wi_ic hc rfl ?_
      refine wi_ic hc rfl ?_
      refine wi_cpy (r := []) (N0 := 3) (N1 := 3) hc rfl (Nat.le_of_ble_eq_true rfl) (by decide) rfl (by decide) rfl (by omega) (by omega) (by omega) (by omega) (by omega) (by decide) (by decide) ?_
      obtain ⟨s2_, es2_⟩ : ∃ q, q = cpI s2 299 11 0 0 3 := ⟨_, rfl⟩
      rw [← es2_]
      show mm_wp _ _ (54, [some (.ref 1), some (.ref 289), some (.int (iI i))], [], MX L t s2_ l) _
      refine wi_ic hc rfl ?_
      refine wi_is1 (L' := [some (.ref 1), some (.ref 289), some (.int (iI 0))]) hc rfl (Nat.le_of_ble_eq_true rfl) rfl ?_
      have loop56_ : ∀ k : Int, k ≤ 10 → 0 ≤ k → ∀ s4 : Nat → Int → Int, (∀ c, ¬ (13 ≤ c ∧ c ≤ 22) → s4 c = s2_ c) → (∀ j : Nat, (j : Int) < k → ∀ v, 0 ≤ v → v < 5 → s4 (13 + j) v = s (301 + j) v) → mm_wp (mm_Ev mm_ct mm_CM (d + 1)) 10 (56, [some (.ref 1), some (.ref 289), some (.int (iI k))], [], MX L t s4 l) (fun res => ∃ s1, res = (none, MX L t s1 l) ∧ (∀ c, ¬ (1 ≤ c ∧ c ≤ 288) → s1 c = s c) ∧ CPA s1 s 0 288) := by
        refine up_ind ?_
        intro k hk ih4 hk0 s4 hF4 hD4
        refine wi_i1 hc rfl rfl ?_
        refine wi_bi hc rfl rfl ?_
        refine wi_cge hc rfl ⟨by omega, by omega⟩ ⟨by decide, by decide⟩ (fun h2_ => ?_) (fun h2_ => ?_)
        · refine wi_ic hc rfl ?_
          refine wi_is1 (L' := [some (.ref 1), some (.ref 289), some (.int (iI 0))]) hc rfl (Nat.le_of_ble_eq_true rfl) rfl ?_
          have loop88_ : ∀ y : Int, y ≤ 4 → 0 ≤ y → ∀ s5 : Nat → Int → Int, (∀ c, ¬ (265 ≤ c ∧ c ≤ 288) → s5 c = s4 c) → (∀ j : Nat, (j : Int) < y → CPT s5 s (265 + 6 * j) (553 + 6 * j)) → mm_wp (mm_Ev mm_ct mm_CM (d + 1)) 10 (88, [some (.ref 1), some (.ref 289), some (.int (iI y))], [], MX L t s5 l) (fun res => ∃ s1, res = (none, MX L t s1 l) ∧ (∀ c, ¬ (1 ≤ c ∧ c ≤ 288) → s1 c = s c) ∧ CPA s1 s 0 288) := by
            refine up_ind ?_
            intro y hy ih5 hy0 s5 hF5 hD5
            refine wi_i1 hc rfl rfl ?_
            refine wi_ic hc rfl ?_
            refine wi_cge hc rfl ⟨by omega, by omega⟩ ⟨by decide, by decide⟩ (fun h3_ => ?_) (fun h3_ => ?_)
            · refine wi_a1 hc rfl rfl ?_
              refine wi_gr (w := 312) hc rfl rfl (by decide) (Nat.le_of_ble_eq_true rfl) rfl ?_
              refine wi_ic hc rfl ?_
              refine wi_a1 hc rfl rfl ?_
              refine wi_gr (w := 24) hc rfl rfl (by decide) (Nat.le_of_ble_eq_true rfl) rfl ?_
              refine wi_ic hc rfl ?_
              refine wi_bi hc rfl rfl ?_
              refine wi_cpy (r := []) (N0 := 12) (N1 := 12) hc rfl (Nat.le_of_ble_eq_true rfl) (by decide) rfl (by decide) rfl (by omega) (by omega) (by omega) (by omega) (by omega) (by decide) (by decide) ?_
              obtain ⟨s3_, es3_⟩ : ∃ q, q = cpI s5 312 24 0 0 12 := ⟨_, rfl⟩
              rw [← es3_]
              show mm_wp _ _ (129, [some (.ref 1), some (.ref 289), some (.int (iI y))], [], MX L t s3_ l) _
              refine wi_a1 hc rfl rfl ?_
              refine wi_a1 hc rfl rfl ?_
              refine wi_gfv (kz := 6) rfl hc rfl rfl (by decide) (Nat.le_of_ble_eq_true rfl) rfl (v := s 289 6) (((congrFun (congrFun es3_ _) _).trans (congrFun (cp_c (by omega)) _)).trans ((congrFun (hF5 289 (by omega)) _).trans ((congrFun (hF4 289 (by omega)) _).trans (((congrFun (congrFun es2_ _) _).trans (congrFun (cp_c (by omega)) _)).trans (congrFun (hF2 289 (by omega)) _))))) ?_
              refine wi_pf (kz := 6) rfl hc rfl rfl (by decide) (Nat.le_of_ble_eq_true rfl) rfl (Nat.le_of_ble_eq_true rfl) ⟨rfl, rfl⟩ rfl ?_
              obtain ⟨s4_, es4_⟩ : ∃ q, q = up s3_ 1 6 (s 289 6) := ⟨_, rfl⟩
              rw [← es4_]
              refine wi_a1 hc rfl rfl ?_
              refine wi_a1 hc rfl rfl ?_
              refine wi_gfv (kz := 7) rfl hc rfl rfl (by decide) (Nat.le_of_ble_eq_true rfl) rfl (v := s 289 7) (((congrFun (congrFun es4_ _) _).trans (up_c (by decide))).trans (((congrFun (congrFun es3_ _) _).trans (congrFun (cp_c (by omega)) _)).trans ((congrFun (hF5 289 (by omega)) _).trans ((congrFun (hF4 289 (by omega)) _).trans (((congrFun (congrFun es2_ _) _).trans (congrFun (cp_c (by omega)) _)).trans (congrFun (hF2 289 (by omega)) _)))))) ?_
              refine wi_pf (kz := 7) rfl hc rfl rfl (by decide) (Nat.le_of_ble_eq_true rfl) rfl (Nat.le_of_ble_eq_true rfl) ⟨rfl, rfl⟩ rfl ?_
              obtain ⟨s5_, es5_⟩ : ∃ q, q = up s4_ 1 7 (s 289 7) := ⟨_, rfl⟩
              rw [← es5_]
              refine wi_a1 hc rfl rfl ?_
              refine wi_a1 hc rfl rfl ?_
              refine wi_gfv (kz := 8) rfl hc rfl rfl (by decide) (Nat.le_of_ble_eq_true rfl) rfl (v := s 289 8) (((congrFun (congrFun es5_ _) _).trans (up_c (by decide))).trans (((congrFun (congrFun es4_ _) _).trans (up_c (by decide))).trans (((congrFun (congrFun es3_ _) _).trans (congrFun (cp_c (by omega)) _)).trans ((congrFun (hF5 289 (by omega)) _).trans ((congrFun (hF4 289 (by omega)) _).trans (((congrFun (congrFun es2_ _) _).trans (congrFun (cp_c (by omega)) _)).trans (congrFun (hF2 289 (by omega)) _))))))) ?_
              refine wi_pf (kz := 8) rfl hc rfl rfl (by decide) (Nat.le_of_ble_eq_true rfl) rfl (Nat.le_of_ble_eq_true rfl) ⟨rfl, rfl⟩ rfl ?_
              obtain ⟨s6_, es6_⟩ : ∃ q, q = up s5_ 1 8 (s 289 8) := ⟨_, rfl⟩
              rw [← es6_]
              refine wi_a1 hc rfl rfl ?_
              refine wi_a1 hc rfl rfl ?_
              refine wi_gfv (kz := 9) rfl hc rfl rfl (by decide) (Nat.le_of_ble_eq_true rfl) rfl (v := s 289 9) (((congrFun (congrFun es6_ _) _).trans (up_c (by decide))).trans (((congrFun (congrFun es5_ _) _).trans (up_c (by decide))).trans (((congrFun (congrFun es4_ _) _).trans (up_c (by decide))).trans (((congrFun (congrFun es3_ _) _).trans (congrFun (cp_c (by omega)) _)).trans ((congrFun (hF5 289 (by omega)) _).trans ((congrFun (hF4 289 (by omega)) _).trans (((congrFun (congrFun es2_ _) _).trans (congrFun (cp_c (by omega)) _)).trans (congrFun (hF2 289 (by omega)) _)))))))) ?_
              refine wi_pf (kz := 9) rfl hc rfl rfl (by decide) (Nat.le_of_ble_eq_true rfl) rfl (Nat.le_of_ble_eq_true rfl) ⟨rfl, rfl⟩ rfl ?_
              obtain ⟨s7_, es7_⟩ : ∃ q, q = up s6_ 1 9 (s 289 9) := ⟨_, rfl⟩
              rw [← es7_]
              refine wi_a1 hc rfl rfl ?_
              refine wi_a1 hc rfl rfl ?_
              refine wi_gfv (kz := 10) rfl hc rfl rfl (by decide) (Nat.le_of_ble_eq_true rfl) rfl (v := s 289 10) (((congrFun (congrFun es7_ _) _).trans (up_c (by decide))).trans (((congrFun (congrFun es6_ _) _).trans (up_c (by decide))).trans (((congrFun (congrFun es5_ _) _).trans (up_c (by decide))).trans (((congrFun (congrFun es4_ _) _).trans (up_c (by decide))).trans (((congrFun (congrFun es3_ _) _).trans (congrFun (cp_c (by omega)) _)).trans ((congrFun (hF5 289 (by omega)) _).trans ((congrFun (hF4 289 (by omega)) _).trans (((congrFun (congrFun es2_ _) _).trans (congrFun (cp_c (by omega)) _)).trans (congrFun (hF2 289 (by omega)) _))))))))) ?_
              refine wi_pf (kz := 10) rfl hc rfl rfl (by decide) (Nat.le_of_ble_eq_true rfl) rfl (Nat.le_of_ble_eq_true rfl) ⟨rfl, rfl⟩ rfl ?_
              obtain ⟨s8_, es8_⟩ : ∃ q, q = up s7_ 1 10 (s 289 10) := ⟨_, rfl⟩
              rw [← es8_]
              refine wi_a1 hc rfl rfl ?_
              refine wi_a1 hc rfl rfl ?_
              refine wi_gfv (kz := 11) rfl hc rfl rfl (by decide) (Nat.le_of_ble_eq_true rfl) rfl (v := s 289 11) (((congrFun (congrFun es8_ _) _).trans (up_c (by decide))).trans (((congrFun (congrFun es7_ _) _).trans (up_c (by decide))).trans (((congrFun (congrFun es6_ _) _).trans (up_c (by decide))).trans (((congrFun (congrFun es5_ _) _).trans (up_c (by decide))).trans (((congrFun (congrFun es4_ _) _).trans (up_c (by decide))).trans (((congrFun (congrFun es3_ _) _).trans (congrFun (cp_c (by omega)) _)).trans ((congrFun (hF5 289 (by omega)) _).trans ((congrFun (hF4 289 (by omega)) _).trans (((congrFun (congrFun es2_ _) _).trans (congrFun (cp_c (by omega)) _)).trans (congrFun (hF2 289 (by omega)) _)))))))))) ?_
              refine wi_pf (kz := 11) rfl hc rfl rfl (by decide) (Nat.le_of_ble_eq_true rfl) rfl (Nat.le_of_ble_eq_true rfl) ⟨rfl, rfl⟩ rfl ?_
              obtain ⟨s9_, es9_⟩ : ∃ q, q = up s8_ 1 11 (s 289 11) := ⟨_, rfl⟩
              rw [← es9_]
              refine wi_a1 hc rfl rfl ?_
              refine wi_a1 hc rfl rfl ?_
              refine wi_gfv (kz := 12) rfl hc rfl rfl (by decide) (Nat.le_of_ble_eq_true rfl) rfl (v := s 289 12) (((congrFun (congrFun es9_ _) _).trans (up_c (by decide))).trans (((congrFun (congrFun es8_ _) _).trans (up_c (by decide))).trans (((congrFun (congrFun es7_ _) _).trans (up_c (by decide))).trans (((congrFun (congrFun es6_ _) _).trans (up_c (by decide))).trans (((congrFun (congrFun es5_ _) _).trans (up_c (by decide))).trans (((congrFun (congrFun es4_ _) _).trans (up_c (by decide))).trans (((congrFun (congrFun es3_ _) _).trans (congrFun (cp_c (by omega)) _)).trans ((congrFun (hF5 289 (by omega)) _).trans ((congrFun (hF4 289 (by omega)) _).trans (((congrFun (congrFun es2_ _) _).trans (congrFun (cp_c (by omega)) _)).trans (congrFun (hF2 289 (by omega)) _))))))))))) ?_
              refine wi_pf (kz := 12) rfl hc rfl rfl (by decide) (Nat.le_of_ble_eq_true rfl) rfl (Nat.le_of_ble_eq_true rfl) ⟨rfl, rfl⟩ rfl ?_
              obtain ⟨s10_, es10_⟩ : ∃ q, q = up s9_ 1 12 (s 289 12) := ⟨_, rfl⟩
              rw [← es10_]
              refine wi_rv hc rfl (by rw [cm_10]; rfl) ?_
              have hall : ∀ c, ¬ (1 ≤ c ∧ c ≤ 288) → s10_ c = s c := fun c q => ((congrFun es10_ c).trans (up_cc (by omega))).trans (((congrFun es9_ c).trans (up_cc (by omega))).trans (((congrFun es8_ c).trans (up_cc (by omega))).trans (((congrFun es7_ c).trans (up_cc (by omega))).trans (((congrFun es6_ c).trans (up_cc (by omega))).trans (((congrFun es5_ c).trans (up_cc (by omega))).trans (((congrFun es4_ c).trans (up_cc (by omega))).trans (((congrFun es3_ c).trans (cp_c (by omega))).trans ((hF5 c (by omega)).trans ((hF4 c (by omega)).trans (((congrFun es2_ c).trans (cp_c (by omega))).trans (hF2 c (by omega))))))))))))
              refine ⟨s10_, rfl, hall, hC2.fr (fun c a b => ((congrFun es10_ c).trans (up_cc (by omega))).trans (((congrFun es9_ c).trans (up_cc (by omega))).trans (((congrFun es8_ c).trans (up_cc (by omega))).trans (((congrFun es7_ c).trans (up_cc (by omega))).trans (((congrFun es6_ c).trans (up_cc (by omega))).trans (((congrFun es5_ c).trans (up_cc (by omega))).trans (((congrFun es4_ c).trans (up_cc (by omega))).trans (((congrFun es3_ c).trans (cp_c (by omega))).trans ((hF5 c (by omega)).trans ((hF4 c (by omega)).trans ((congrFun es2_ c).trans (cp_c (by omega))))))))))))), fun j hj => ?_, fun x x0 x1 => ?_, fun j hj v v0 v1 => ?_, fun j hj => ?_, fun i i0 i1 => ?_, fun k k0 k1 => ?_⟩
              · have := hD2 j (by omega)
                exact this.fr (fun c a b => ((congrFun es10_ c).trans (up_cc (by omega))).trans (((congrFun es9_ c).trans (up_cc (by omega))).trans (((congrFun es8_ c).trans (up_cc (by omega))).trans (((congrFun es7_ c).trans (up_cc (by omega))).trans (((congrFun es6_ c).trans (up_cc (by omega))).trans (((congrFun es5_ c).trans (up_cc (by omega))).trans (((congrFun es4_ c).trans (up_cc (by omega))).trans (((congrFun es3_ c).trans (cp_c (by omega))).trans ((hF5 c (by omega)).trans ((hF4 c (by omega)).trans ((congrFun es2_ c).trans (cp_c (by omega)))))))))))))
              · exact ((congrFun (congrFun es10_ _) _).trans (up_c (by decide))).trans (((congrFun (congrFun es9_ _) _).trans (up_c (by decide))).trans (((congrFun (congrFun es8_ _) _).trans (up_c (by decide))).trans (((congrFun (congrFun es7_ _) _).trans (up_c (by decide))).trans (((congrFun (congrFun es6_ _) _).trans (up_c (by decide))).trans (((congrFun (congrFun es5_ _) _).trans (up_c (by decide))).trans (((congrFun (congrFun es4_ _) _).trans (up_c (by decide))).trans (((congrFun (congrFun es3_ _) _).trans (congrFun (cp_c (by omega)) _)).trans ((congrFun (hF5 11 (by omega)) _).trans ((congrFun (hF4 11 (by omega)) _).trans (((congrFun (congrFun es2_ _) _).trans (cp_at (by omega) (by omega))).trans (congrFun (hF2 299 (by omega)) _)))))))))))
              · have := hD4 j (by omega) v v0 v1
                exact (congrFun (((congrFun es10_ (13 + j)).trans (up_cc (by omega))).trans (((congrFun es9_ (13 + j)).trans (up_cc (by omega))).trans (((congrFun es8_ (13 + j)).trans (up_cc (by omega))).trans (((congrFun es7_ (13 + j)).trans (up_cc (by omega))).trans (((congrFun es6_ (13 + j)).trans (up_cc (by omega))).trans (((congrFun es5_ (13 + j)).trans (up_cc (by omega))).trans (((congrFun es4_ (13 + j)).trans (up_cc (by omega))).trans (((congrFun es3_ (13 + j)).trans (cp_c (by omega))).trans (hF5 (13 + j) (by omega)))))))))) v).trans this
              · have := hD5 j (by omega)
                exact this.fr (fun c a b => ((congrFun es10_ c).trans (up_cc (by omega))).trans (((congrFun es9_ c).trans (up_cc (by omega))).trans (((congrFun es8_ c).trans (up_cc (by omega))).trans (((congrFun es7_ c).trans (up_cc (by omega))).trans (((congrFun es6_ c).trans (up_cc (by omega))).trans (((congrFun es5_ c).trans (up_cc (by omega))).trans (((congrFun es4_ c).trans (up_cc (by omega))).trans ((congrFun es3_ c).trans (cp_c (by omega))))))))))
              · exact ((congrFun (congrFun es10_ _) _).trans (up_c (by decide))).trans (((congrFun (congrFun es9_ _) _).trans (up_c (by decide))).trans (((congrFun (congrFun es8_ _) _).trans (up_c (by decide))).trans (((congrFun (congrFun es7_ _) _).trans (up_c (by decide))).trans (((congrFun (congrFun es6_ _) _).trans (up_c (by decide))).trans (((congrFun (congrFun es5_ _) _).trans (up_c (by decide))).trans (((congrFun (congrFun es4_ _) _).trans (up_c (by decide))).trans (((congrFun (congrFun es3_ _) _).trans (cp_at (by omega) (by omega))).trans ((congrFun (hF5 312 (by omega)) _).trans ((congrFun (hF4 312 (by omega)) _).trans (((congrFun (congrFun es2_ _) _).trans (congrFun (cp_c (by omega)) _)).trans (congrFun (hF2 312 (by omega)) _)))))))))))
              · rcases (by omega : k = 6 ∨ k = 7 ∨ k = 8 ∨ k = 9 ∨ k = 10 ∨ k = 11 ∨ k = 12) with q | q | q | q | q | q | q <;> subst q
                · exact ((congrFun (congrFun es10_ _) _).trans (up_k (by omega))).trans (((congrFun (congrFun es9_ _) _).trans (up_k (by omega))).trans (((congrFun (congrFun es8_ _) _).trans (up_k (by omega))).trans (((congrFun (congrFun es7_ _) _).trans (up_k (by omega))).trans (((congrFun (congrFun es6_ _) _).trans (up_k (by omega))).trans (((congrFun (congrFun es5_ _) _).trans (up_k (by omega))).trans ((congrFun (congrFun es4_ _) _).trans (up_e (by omega))))))))
                · exact ((congrFun (congrFun es10_ _) _).trans (up_k (by omega))).trans (((congrFun (congrFun es9_ _) _).trans (up_k (by omega))).trans (((congrFun (congrFun es8_ _) _).trans (up_k (by omega))).trans (((congrFun (congrFun es7_ _) _).trans (up_k (by omega))).trans (((congrFun (congrFun es6_ _) _).trans (up_k (by omega))).trans ((congrFun (congrFun es5_ _) _).trans (up_e (by omega)))))))
                · exact ((congrFun (congrFun es10_ _) _).trans (up_k (by omega))).trans (((congrFun (congrFun es9_ _) _).trans (up_k (by omega))).trans (((congrFun (congrFun es8_ _) _).trans (up_k (by omega))).trans (((congrFun (congrFun es7_ _) _).trans (up_k (by omega))).trans ((congrFun (congrFun es6_ _) _).trans (up_e (by omega))))))
                · exact ((congrFun (congrFun es10_ _) _).trans (up_k (by omega))).trans (((congrFun (congrFun es9_ _) _).trans (up_k (by omega))).trans (((congrFun (congrFun es8_ _) _).trans (up_k (by omega))).trans ((congrFun (congrFun es7_ _) _).trans (up_e (by omega)))))
                · exact ((congrFun (congrFun es10_ _) _).trans (up_k (by omega))).trans (((congrFun (congrFun es9_ _) _).trans (up_k (by omega))).trans ((congrFun (congrFun es8_ _) _).trans (up_e (by omega))))
                · exact ((congrFun (congrFun es10_ _) _).trans (up_k (by omega))).trans ((congrFun (congrFun es9_ _) _).trans (up_e (by omega)))
                · exact (congrFun (congrFun es10_ _) _).trans (up_e (by omega))
            · refine wi_a1 hc rfl rfl ?_
              refine wi_gr (w := 23) hc rfl rfl (by decide) (Nat.le_of_ble_eq_true rfl) rfl ?_
              refine wi_i1 hc rfl rfl ?_
              refine wi_ald (w := 265 + 6 * y.toNat) (N := 4) hc rfl (Nat.le_of_ble_eq_true rfl) (Nat.le_of_ble_eq_true rfl) (by decide) rfl (by decide) (by omega) (by omega) (sh_text (by omega) (by omega)) ?_
              refine wi_a1 hc rfl rfl ?_
              refine wi_gr (w := 311) hc rfl rfl (by decide) (Nat.le_of_ble_eq_true rfl) rfl ?_
              refine wi_i1 hc rfl rfl ?_
              refine wi_ald (w := 553 + 6 * y.toNat) (N := 4) hc rfl (Nat.le_of_ble_eq_true rfl) (Nat.le_of_ble_eq_true rfl) (by decide) rfl (by decide) (by omega) (by omega) (sh_textk (by omega) (by omega)) ?_
              obtain ⟨s11_, hE11_, hF11_, hC11_⟩ := sp_79 (d := 0) (L := L) (t := t) (s := s5) (l := l) (xu := 265 + 6 * y.toNat) (xw := 553 + 6 * y.toNat) (kt_now (by omega) (by omega)) (kt_kept (by omega) (by omega)) (by omega)
              refine wp_cv (b := 265 + 6 * y.toNat) (As := [.ref (553 + 6 * y.toNat)]) (r := []) hc rfl (by rw [cm_79]; rfl) rfl (Nat.le_of_ble_eq_true rfl) (show 265 + 6 * y.toNat < 621 by omega) (by rw [cm_79]; exact congrArg Prod.fst (kt_now (by omega) (by omega)).2.1) (ev_mono hE11_ (by omega)) ?_
              show mm_wp _ _ (108, [some (.ref 1), some (.ref 289), some (.int (iI y))], [], MX L t s11_ l) _
              refine wi_inc (L' := [some (.ref 1), some (.ref 289), some (.int (iI (y + 1)))]) hc rfl rfl rfl ?_
              refine wi_go hc rfl ?_
              refine ih5 (by omega) (by omega) s11_ (fun c q1 => (hF11_ c (by omega)).trans (hF5 c (by omega))) (fun j hj => ?_)
              by_cases e9 : j = y.toNat
              · subst e9
                exact hC11_.src (fun c a b => (hF5 c (by omega)).trans ((hF4 c (by omega)).trans (((congrFun es2_ c).trans (cp_c (by omega))).trans (hF2 c (by omega)))))
              · exact (hD5 j (by omega)).fr (fun c a b => hF11_ c (by omega))
          refine loop88_ 0 (by omega) (by omega) s4 (fun c q1 => rfl) (fun j hj => by omega)
        · refine wi_a1 hc rfl rfl ?_
          refine wi_gr (w := 300) hc rfl rfl (by decide) (Nat.le_of_ble_eq_true rfl) rfl ?_
          refine wi_i1 hc rfl rfl ?_
          refine wi_ald (w := 301 + k.toNat) (N := 10) hc rfl (Nat.le_of_ble_eq_true rfl) (Nat.le_of_ble_eq_true rfl) (by decide) rfl (by decide) (by omega) (by omega) (sh_trait300 (by omega) (by omega)) ?_
          refine wi_ic hc rfl ?_
          refine wi_a1 hc rfl rfl ?_
          refine wi_gr (w := 12) hc rfl rfl (by decide) (Nat.le_of_ble_eq_true rfl) rfl ?_
          refine wi_i1 hc rfl rfl ?_
          refine wi_ald (w := 13 + k.toNat) (N := 10) hc rfl (Nat.le_of_ble_eq_true rfl) (Nat.le_of_ble_eq_true rfl) (by decide) rfl (by decide) (by omega) (by omega) (sh_trait12 (by omega) (by omega)) ?_
          refine wi_ic hc rfl ?_
          refine wi_ic hc rfl ?_
          refine wi_cpy (r := []) (N0 := 5) (N1 := 5) hc rfl (Nat.le_of_ble_eq_true rfl) (by omega) (by rw [sh_traitsk (by omega) (by omega)]) (by omega) (by rw [sh_traits (by omega) (by omega)]) (by omega) (by omega) (by omega) (by omega) (by omega) (by decide) (by decide) ?_
          obtain ⟨s12_, es12_⟩ : ∃ q, q = cpI s4 (301 + k.toNat) (13 + k.toNat) 0 0 5 := ⟨_, rfl⟩
          rw [← es12_]
          show mm_wp _ _ (80, [some (.ref 1), some (.ref 289), some (.int (iI k))], [], MX L t s12_ l) _
          refine wi_inc (L' := [some (.ref 1), some (.ref 289), some (.int (iI (k + 1)))]) hc rfl rfl rfl ?_
          refine wi_go hc rfl ?_
          refine ih4 (by omega) (by omega) s12_ (fun c q1 => ((congrFun es12_ c).trans (cp_c (by omega))).trans (hF4 c (by omega))) (fun j hj v v0 v1 => ?_)
          by_cases e9 : j = k.toNat
          · subst e9
            rw [es12_]
            refine (cp_at (by omega) (by omega)).trans ?_
            rw [hF4 _ (by omega)]
            exact congrFun (((congrFun es2_ (301 + k.toNat)).trans (cp_c (by omega))).trans (hF2 (301 + k.toNat) (by omega))) v
          · rw [es12_, cp_c (by omega)]
            exact hD4 j (by omega) v v0 v1
      refine loop56_ 0 (by omega) (by omega) s2_ (fun c q1 => rfl) (fun j hj => by omega)
    · refine wi_a1 hc rfl rfl ?_
      refine wi_gr (w := 10) hc rfl rfl (by decide) (Nat.le_of_ble_eq_true rfl) rfl ?_
      refine wi_i1 hc rfl rfl ?_
      refine wi_ald (w := 25 + 8 * i.toNat) (N := 30) hc rfl (Nat.le_of_ble_eq_true rfl) (Nat.le_of_ble_eq_true rfl) (by decide) rfl (by decide) (by omega) (by omega) (sh_st10 (by omega) (by omega)) ?_
      refine wi_a1 hc rfl rfl ?_
      refine wi_gr (w := 298) hc rfl rfl (by decide) (Nat.le_of_ble_eq_true rfl) rfl ?_
      refine wi_i1 hc rfl rfl ?_
      refine wi_ald (w := 313 + 8 * i.toNat) (N := 30) hc rfl (Nat.le_of_ble_eq_true rfl) (Nat.le_of_ble_eq_true rfl) (by decide) rfl (by decide) (by omega) (by omega) (sh_st298 (by omega) (by omega)) ?_
      obtain ⟨s13_, hE13_, hF13_, hC13_⟩ := sp_67z (d := 0) (L := L) (t := t) (s := s2) (l := l) (uu := 25 + 8 * i.toNat) (ww := 313 + 8 * i.toNat) (ks_now (by omega) (by omega)) (ks_kept (by omega) (by omega)) (by omega) (by rw [hF2 _ (by omega)]; exact hW _ i.toNat (Or.inr (Or.inr (Or.inr ⟨rfl, by omega⟩))))
      refine wp_cv (b := 25 + 8 * i.toNat) (As := [.ref (313 + 8 * i.toNat)]) (r := []) hc rfl (by rw [cm_67]; rfl) rfl (Nat.le_of_ble_eq_true rfl) (show 25 + 8 * i.toNat < 621 by omega) (by rw [cm_67]; exact congrArg Prod.fst (ks_now (by omega) (by omega)).2.1) (ev_mono hE13_ (by omega)) ?_
      show mm_wp _ _ (34, [some (.ref 1), some (.ref 289), some (.int (iI i))], [], MX L t s13_ l) _
      refine wi_inc (L' := [some (.ref 1), some (.ref 289), some (.int (iI (i + 1)))]) hc rfl rfl rfl ?_
      refine wi_go hc rfl ?_
      refine ih (by omega) (by omega) s13_ (fun c q1 => (hF13_ c (by omega)).trans (hF2 c (by omega))) (hC2.fr (fun c a b => hF13_ c (by omega))) (fun j hj => ?_)
      by_cases e9 : j = i.toNat
      · subst e9
        exact hC13_.src (fun c a b => hF2 c (by omega))
      · exact (hD2 j (by omega)).fr (fun c a b => hF13_ c (by omega))
  refine loop13_ 0 (by omega) (by omega) s1_ (fun c q1 => hF1_ c (by omega)) hC1_ (fun j hj => by omega)
