/-! The model's pile. -/
theorem sp_173 {d L t : Nat} {s l : Nat → Int → Int} {n v : Int} (hN : s 598 17 = n) (n0 : 0 ≤ n) (n1 : n < 160) : ∃ s1, mm_Ev mm_ct mm_CM (d + 1) 173 [.ref 598, .int (iI v)] (MX L t s l) (none, MX L t s1 l) ∧ (∀ c, c ≠ 598 ∧ c ≠ 603 → s1 c = s c) ∧ (∀ k, s1 598 k = if k = 17 then n + 1 else s 598 k) ∧ ∀ j, s1 603 j = if j = n then v else s 603 j := by
  have hc : (mm_CM 173).2.2.2.2.2.2.2 = mm_cf cd_173 := by rw [cm_173]; rfl
  refine ev_xs ?_
  refine ev_to (mx := 2) (by rw [cm_173]; decide) (by rw [cm_173]; rfl) (by show 2 ≤ _; decide) ?_
  show mm_wp _ _ (0, [some (.ref 598), some (.int (iI v))], [], MX L t s l) (fun res => ∃ s1, res = (none, MX L t s1 l) ∧ (∀ c, c ≠ 598 ∧ c ≠ 603 → s1 c = s c) ∧ (∀ k, s1 598 k = if k = 17 then n + 1 else s 598 k) ∧ ∀ j, s1 603 j = if j = n then v else s 603 j)
  refine wi_a1 hc rfl rfl ?_
  refine wi_gr (w := 603) hc rfl rfl (by decide) (Nat.le_of_ble_eq_true rfl) rfl ?_
  refine wi_a1 hc rfl rfl ?_
  refine wi_gfv (kz := 17) rfl hc rfl rfl (by decide) (Nat.le_of_ble_eq_true rfl) rfl (v := n) (hN) ?_
  refine wi_i1 hc rfl rfl ?_
  refine wi_ist (N := 160) hc rfl rfl (by decide) (by decide) (by omega) (by omega) ?_
  obtain ⟨s1_, es1_⟩ : ∃ q, q = up s 603 n v := ⟨_, rfl⟩
  rw [← es1_]
  refine wi_a1 hc rfl rfl ?_
  refine wi_dupr hc rfl ?_
  refine wi_gfv (kz := 17) rfl hc rfl rfl (by decide) (Nat.le_of_ble_eq_true rfl) rfl (v := n) (((congrFun (congrFun es1_ _) _).trans (up_c (by decide))).trans (hN)) ?_
  refine wi_ic hc rfl ?_
  refine wi_add hc rfl ?_
  refine wi_pf (kz := 17) rfl hc rfl rfl (by decide) (Nat.le_of_ble_eq_true rfl) rfl (Nat.le_of_ble_eq_true rfl) ⟨rfl, rfl⟩ rfl ?_
  obtain ⟨s2_, es2_⟩ : ∃ q, q = up s1_ 598 17 (n + 1) := ⟨_, rfl⟩
  rw [← es2_]
  refine wi_rv hc rfl (by rw [cm_173]; rfl) ?_
  refine ⟨s2_, rfl, fun c q => by rw [es2_, up_cc q.1, es1_, up_cc q.2], fun k => ?_, fun j => ?_⟩
  · by_cases q : k = 17
    · rw [if_pos q, es2_, up_e q]
    · rw [if_neg q, es2_, up_k q, es1_, up_cc (by decide)]
  · rw [es2_, up_cc (by decide), es1_, up_ite]
