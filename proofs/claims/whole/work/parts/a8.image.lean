/-! The class's IMAGE and BACK. -/
theorem sp_122 {d L t : Nat} {s l : Nat → Int → Int} {A T : Int → Int} (hJ : JC s A T) (hV : VA A T) (hW : WZ s) : ∃ s1, mm_Ev mm_ct mm_CM (d + 3) 122 [.ref 0] (MX L t s l) (some (.int (iI (A 1))), MX L t s1 l) ∧ (∀ c, ¬ (289 ≤ c ∧ c ≤ 576) → s1 c = s c) ∧ LB 288 s1 A T ∧ JC s1 A T := by
  have hc : (mm_CM 122).2.2.2.2.2.2.2 = mm_cf cd_122 := by rw [cm_122]; rfl
  refine ev_xs ?_
  refine ev_to (mx := 1) (by rw [cm_122]; decide) (by rw [cm_122]; rfl) (by show 1 ≤ _; decide) ?_
  show mm_wp _ _ (0, [some (.ref 0)], [], MX L t s l) (fun res => ∃ s1, res = (some (.int (iI (A 1))), MX L t s1 l) ∧ (∀ c, ¬ (289 ≤ c ∧ c ≤ 576) → s1 c = s c) ∧ LB 288 s1 A T ∧ JC s1 A T)
  have hK : KA A T := ⟨hV.1, hV.2.1, hV.2.2.1, hV.2.2.2.1⟩
  refine wi_a1 hc rfl rfl ?_
  refine wi_gr (w := 289) hc rfl rfl (by decide) (Nat.le_of_ble_eq_true rfl) rfl ?_
  refine wi_a1 hc rfl rfl ?_
  refine wi_gr (w := 1) hc rfl rfl (by decide) (Nat.le_of_ble_eq_true rfl) rfl ?_
  obtain ⟨s1_, hE1_, hF1_, hC1_⟩ := sp_10i (d := 0) (L := L) (t := t) (l := l) hW
  refine wp_cv (b := 289) (As := [.ref 1]) (r := []) hc rfl (by rw [cm_10]; rfl) rfl (Nat.le_of_ble_eq_true rfl) (show 289 < 621 by decide) (by rw [cm_10]; rfl) (ev_mono hE1_ (by omega)) ?_
  have hJ1_ : JC s1_ A T := ⟨hJ.1.of hV.1.1 hV.1.2.2.2.1 (fun e a b => hF1_ e (by omega)), by rw [hF1_ 578 (by omega)]; exact hJ.2⟩
  show mm_wp _ _ (11, [some (.ref 0)], [], MX L t s1_ l) _
  refine wi_a1 hc rfl rfl ?_
  refine wi_gr (w := 1) hc rfl rfl (by decide) (Nat.le_of_ble_eq_true rfl) rfl ?_
  refine wi_gr (w := 2) hc rfl rfl (by decide) (Nat.le_of_ble_eq_true rfl) rfl ?_
  refine wi_gfv (kz := 6) rfl hc rfl rfl (by decide) (Nat.le_of_ble_eq_true rfl) rfl (v := A 1) (lb_night hJ1_.1) ?_
  refine wi_ri hc rfl (by rw [cm_122]; rfl) ?_
  exact ⟨s1_, rfl, fun c hc9_ => hF1_ c (by omega), lb_copy hJ.1 hV hC1_, hJ1_⟩
theorem sp_123 {d L t : Nat} {s l : Nat → Int → Int} {A B T : Int → Int} (hJ : JC s A T) (hV : VA A T) (hW : WZ s) (hB2 : LB 288 s B T) (hVB : VA B T) : ∃ s1, mm_Ev mm_ct mm_CM (d + 3) 123 [.ref 0] (MX L t s l) (some (.int (iI (B 1))), MX L t s1 l) ∧ (∀ c, ¬ (1 ≤ c ∧ c ≤ 288) → s1 c = s c) ∧ JC s1 B T := by
  have hc : (mm_CM 123).2.2.2.2.2.2.2 = mm_cf cd_123 := by rw [cm_123]; rfl
  refine ev_xs ?_
  refine ev_to (mx := 1) (by rw [cm_123]; decide) (by rw [cm_123]; rfl) (by show 1 ≤ _; decide) ?_
  show mm_wp _ _ (0, [some (.ref 0)], [], MX L t s l) (fun res => ∃ s1, res = (some (.int (iI (B 1))), MX L t s1 l) ∧ (∀ c, ¬ (1 ≤ c ∧ c ≤ 288) → s1 c = s c) ∧ JC s1 B T)
  have hK : KA A T := ⟨hV.1, hV.2.1, hV.2.2.1, hV.2.2.2.1⟩
  have hKB : KA B T := ⟨hVB.1, hVB.2.1, hVB.2.2.1, hVB.2.2.2.1⟩
  refine wi_a1 hc rfl rfl ?_
  refine wi_gr (w := 1) hc rfl rfl (by decide) (Nat.le_of_ble_eq_true rfl) rfl ?_
  refine wi_a1 hc rfl rfl ?_
  refine wi_gr (w := 289) hc rfl rfl (by decide) (Nat.le_of_ble_eq_true rfl) rfl ?_
  obtain ⟨s1_, hE1_, hF1_, hC1_⟩ := sp_10b (d := 0) (L := L) (t := t) (l := l) hW
  refine wp_cv (b := 1) (As := [.ref 289]) (r := []) hc rfl (by rw [cm_10]; rfl) rfl (Nat.le_of_ble_eq_true rfl) (show 1 < 621 by decide) (by rw [cm_10]; rfl) (ev_mono hE1_ (by omega)) ?_
  have hJ1_ : JC s1_ B T := ⟨lb_copy hB2 hVB hC1_, by rw [hF1_ 578 (by omega)]; exact hJ.2⟩
  show mm_wp _ _ (11, [some (.ref 0)], [], MX L t s1_ l) _
  refine wi_a1 hc rfl rfl ?_
  refine wi_gr (w := 1) hc rfl rfl (by decide) (Nat.le_of_ble_eq_true rfl) rfl ?_
  refine wi_gr (w := 2) hc rfl rfl (by decide) (Nat.le_of_ble_eq_true rfl) rfl ?_
  refine wi_gfv (kz := 6) rfl hc rfl rfl (by decide) (Nat.le_of_ble_eq_true rfl) rfl (v := B 1) (lb_night hJ1_.1) ?_
  refine wi_ri hc rfl (by rw [cm_123]; rfl) ?_
  exact ⟨s1_, rfl, fun c hc9_ => hF1_ c (by omega), hJ1_⟩
