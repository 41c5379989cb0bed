/-! The model's copies. -/
/-- B's slots of a row, else A's -/
def cpR (B A : Int → Int) : Int → Int := fun k => if 0 ≤ k ∧ k < 3642 then B k else A k

theorem sp_147i {d L t : Nat} {s l : Nat → Int → Int}  : ∃ s1, mm_Ev mm_ct mm_CM (d + 1) 147 [.ref 599, .ref 600] (MX L t s l) (none, MX L t s1 l) ∧ s1 600 = cpR (s 599) (s 600) ∧ (∀ c, c ≠ 600 → s1 c = s c) := by
  have hc : (mm_CM 147).2.2.2.2.2.2.2 = mm_cf cd_147 := by rw [cm_147]; rfl
  refine ev_xs ?_
  refine ev_to (mx := 3) (by rw [cm_147]; decide) (by rw [cm_147]; rfl) (by show 2 ≤ _; decide) ?_
  show mm_wp _ _ (0, [some (.ref 599), some (.ref 600), none], [], MX L t s l) (fun res => ∃ s1, res = (none, MX L t s1 l) ∧ s1 600 = cpR (s 599) (s 600) ∧ (∀ c, c ≠ 600 → s1 c = s c))
  refine wi_ic hc rfl ?_
  refine wi_is1 (L' := [some (.ref 599), some (.ref 600), some (.int (iI 0))]) hc rfl (Nat.le_of_ble_eq_true rfl) rfl ?_
  have loop2_ : ∀ i : Int, i ≤ 3642 → 0 ≤ i → ∀ s2 : Nat → Int → Int, (∀ k, s2 600 k = if 0 ≤ k ∧ k < i then s 599 k else s 600 k) → (∀ c, c ≠ 600 → s2 c = s c) → mm_wp (mm_Ev mm_ct mm_CM d) 147 (2, [some (.ref 599), some (.ref 600), some (.int (iI i))], [], MX L t s2 l) (fun res => ∃ s1, res = (none, MX L t s1 l) ∧ s1 600 = cpR (s 599) (s 600) ∧ (∀ c, c ≠ 600 → s1 c = s c)) := by
    refine up_ind ?_
    intro i hi ih hi0 s2 hI hF
    refine wi_i1 hc rfl rfl ?_
    refine wi_si hc rfl rfl ?_
    refine wi_cge hc rfl ⟨by omega, by omega⟩ ⟨by decide, by decide⟩ (fun h1_ => ?_) (fun h1_ => ?_)
    · refine wi_rv hc rfl (by rw [cm_147]; rfl) ?_
      refine ⟨s2, rfl, ?_, hF⟩
      funext k
      rw [hI k]
      unfold cpR
      (repeat' split) <;> first | rfl | omega
    · refine wi_a1 hc rfl rfl ?_
      refine wi_i1 hc rfl rfl ?_
      refine wi_a1 hc rfl rfl ?_
      refine wi_i1 hc rfl rfl ?_
      refine wi_ildv (N := 3642) hc rfl rfl (by decide) (by decide) (by omega) (by omega) (v := s 599 i) (congrFun (hF 599 (by decide)) _) ?_
      refine wi_ist (N := 3642) hc rfl rfl (by decide) (by decide) (by omega) (by omega) ?_
      obtain ⟨s1_, es1_⟩ : ∃ q, q = up s2 600 i (s 599 i) := ⟨_, rfl⟩
      rw [← es1_]
      refine wi_inc (L' := [some (.ref 599), some (.ref 600), some (.int (iI (i + 1)))]) hc rfl rfl rfl ?_
      refine wi_go hc rfl ?_
      refine ih (by omega) (by omega) s1_ (fun k => ?_) (fun c hc9_ => ((congrFun es1_ c).trans (up_cc (by omega))).trans (hF c (by omega)))
      rw [es1_]
      by_cases q : k = i
      · rw [up_e q, if_pos (by omega), q]
      · rw [up_k q, hI k]
        (repeat' split) <;> first | rfl | omega
  refine loop2_ 0 (by omega) (by omega) s (fun k => ?_) (fun c _ => rfl)
  rw [if_neg (by omega)]
theorem sp_147b {d L t : Nat} {s l : Nat → Int → Int}  : ∃ s1, mm_Ev mm_ct mm_CM (d + 1) 147 [.ref 600, .ref 599] (MX L t s l) (none, MX L t s1 l) ∧ s1 599 = cpR (s 600) (s 599) ∧ (∀ c, c ≠ 599 → s1 c = s c) := by
  have hc : (mm_CM 147).2.2.2.2.2.2.2 = mm_cf cd_147 := by rw [cm_147]; rfl
  refine ev_xs ?_
  refine ev_to (mx := 3) (by rw [cm_147]; decide) (by rw [cm_147]; rfl) (by show 2 ≤ _; decide) ?_
  show mm_wp _ _ (0, [some (.ref 600), some (.ref 599), none], [], MX L t s l) (fun res => ∃ s1, res = (none, MX L t s1 l) ∧ s1 599 = cpR (s 600) (s 599) ∧ (∀ c, c ≠ 599 → s1 c = s c))
  refine wi_ic hc rfl ?_
  refine wi_is1 (L' := [some (.ref 600), some (.ref 599), some (.int (iI 0))]) hc rfl (Nat.le_of_ble_eq_true rfl) rfl ?_
  have loop2_ : ∀ i : Int, i ≤ 3642 → 0 ≤ i → ∀ s2 : Nat → Int → Int, (∀ k, s2 599 k = if 0 ≤ k ∧ k < i then s 600 k else s 599 k) → (∀ c, c ≠ 599 → s2 c = s c) → mm_wp (mm_Ev mm_ct mm_CM d) 147 (2, [some (.ref 600), some (.ref 599), some (.int (iI i))], [], MX L t s2 l) (fun res => ∃ s1, res = (none, MX L t s1 l) ∧ s1 599 = cpR (s 600) (s 599) ∧ (∀ c, c ≠ 599 → s1 c = s c)) := by
    refine up_ind ?_
    intro i hi ih hi0 s2 hI hF
    refine wi_i1 hc rfl rfl ?_
    refine wi_si hc rfl rfl ?_
    refine wi_cge hc rfl ⟨by omega, by omega⟩ ⟨by decide, by decide⟩ (fun h1_ => ?_) (fun h1_ => ?_)
    · refine wi_rv hc rfl (by rw [cm_147]; rfl) ?_
      refine ⟨s2, rfl, ?_, hF⟩
      funext k
      rw [hI k]
      unfold cpR
      (repeat' split) <;> first | rfl | omega
    · refine wi_a1 hc rfl rfl ?_
      refine wi_i1 hc rfl rfl ?_
      refine wi_a1 hc rfl rfl ?_
      refine wi_i1 hc rfl rfl ?_
      refine wi_ildv (N := 3642) hc rfl rfl (by decide) (by decide) (by omega) (by omega) (v := s 600 i) (congrFun (hF 600 (by decide)) _) ?_
      refine wi_ist (N := 3642) hc rfl rfl (by decide) (by decide) (by omega) (by omega) ?_
      obtain ⟨s1_, es1_⟩ : ∃ q, q = up s2 599 i (s 600 i) := ⟨_, rfl⟩
      rw [← es1_]
      refine wi_inc (L' := [some (.ref 600), some (.ref 599), some (.int (iI (i + 1)))]) hc rfl rfl rfl ?_
      refine wi_go hc rfl ?_
      refine ih (by omega) (by omega) s1_ (fun k => ?_) (fun c hc9_ => ((congrFun es1_ c).trans (up_cc (by omega))).trans (hF c (by omega)))
      rw [es1_]
      by_cases q : k = i
      · rw [up_e q, if_pos (by omega), q]
      · rw [up_k q, hI k]
        (repeat' split) <;> first | rfl | omega
  refine loop2_ 0 (by omega) (by omega) s (fun k => ?_) (fun c _ => rfl)
  rw [if_neg (by omega)]
theorem sp_285 {d L t : Nat} {s l : Nat → Int → Int}  : ∃ s1, mm_Ev mm_ct mm_CM (d + 2) 285 [.ref 598] (MX L t s l) (some (.int (iI (s 599 1))), MX L t s1 l) ∧ s1 600 = cpR (s 599) (s 600) ∧ (∀ c, c ≠ 600 → s1 c = s c) := by
  have hc : (mm_CM 285).2.2.2.2.2.2.2 = mm_cf cd_285 := by rw [cm_285]; rfl
  refine ev_xs ?_
  refine ev_to (mx := 1) (by rw [cm_285]; decide) (by rw [cm_285]; rfl) (by show 1 ≤ _; decide) ?_
  show mm_wp _ _ (0, [some (.ref 598)], [], MX L t s l) (fun res => ∃ s1, res = (some (.int (iI (s 599 1))), MX L t s1 l) ∧ s1 600 = cpR (s 599) (s 600) ∧ (∀ c, c ≠ 600 → s1 c = s c))
  refine wi_a1 hc rfl rfl ?_
  refine wi_gr (w := 599) hc rfl rfl (by decide) (Nat.le_of_ble_eq_true rfl) rfl ?_
  refine wi_a1 hc rfl rfl ?_
  refine wi_gr (w := 600) hc rfl rfl (by decide) (Nat.le_of_ble_eq_true rfl) rfl ?_
  obtain ⟨s1_, hE1_, hT1_, hF1_⟩ := sp_147i (d := 0) (L := L) (t := t) (s := s) (l := l)
  refine wp_cs (As := [.ref 599, .ref 600]) (r := []) hc rfl (by rw [cm_147]; rfl) rfl (Nat.le_of_ble_eq_true rfl) (ev_mono hE1_ (by omega)) ?_
  have hc1 : s1_ 599 1 = s 599 1 := by rw [hF1_ 599 (by decide)]
  show mm_wp _ _ (11, [some (.ref 598)], [], MX L t s1_ l) _
  refine wi_a1 hc rfl rfl ?_
  refine wi_gr (w := 599) hc rfl rfl (by decide) (Nat.le_of_ble_eq_true rfl) rfl ?_
  refine wi_ic hc rfl ?_
  refine wi_ildv (N := 3642) hc rfl rfl (by decide) (by decide) (by omega) (by omega) (v := s 599 1) (hc1) ?_
  refine wi_ri hc rfl (by rw [cm_285]; rfl) ?_
  exact ⟨s1_, rfl, hT1_, hF1_⟩
theorem sp_286 {d L t : Nat} {s l : Nat → Int → Int}  : ∃ s1, mm_Ev mm_ct mm_CM (d + 2) 286 [.ref 598] (MX L t s l) (some (.int (iI (s 600 1))), MX L t s1 l) ∧ s1 599 = cpR (s 600) (s 599) ∧ (∀ c, c ≠ 599 → s1 c = s c) := by
  have hc : (mm_CM 286).2.2.2.2.2.2.2 = mm_cf cd_286 := by rw [cm_286]; rfl
  refine ev_xs ?_
  refine ev_to (mx := 1) (by rw [cm_286]; decide) (by rw [cm_286]; rfl) (by show 1 ≤ _; decide) ?_
  show mm_wp _ _ (0, [some (.ref 598)], [], MX L t s l) (fun res => ∃ s1, res = (some (.int (iI (s 600 1))), MX L t s1 l) ∧ s1 599 = cpR (s 600) (s 599) ∧ (∀ c, c ≠ 599 → s1 c = s c))
  refine wi_a1 hc rfl rfl ?_
  refine wi_gr (w := 600) hc rfl rfl (by decide) (Nat.le_of_ble_eq_true rfl) rfl ?_
  refine wi_a1 hc rfl rfl ?_
  refine wi_gr (w := 599) hc rfl rfl (by decide) (Nat.le_of_ble_eq_true rfl) rfl ?_
  obtain ⟨s1_, hE1_, hT1_, hF1_⟩ := sp_147b (d := 0) (L := L) (t := t) (s := s) (l := l)
  refine wp_cs (As := [.ref 600, .ref 599]) (r := []) hc rfl (by rw [cm_147]; rfl) rfl (Nat.le_of_ble_eq_true rfl) (ev_mono hE1_ (by omega)) ?_
  have hc1 : s1_ 599 1 = s 600 1 := by rw [hT1_]; exact if_pos (by decide)
  show mm_wp _ _ (11, [some (.ref 598)], [], MX L t s1_ l) _
  refine wi_a1 hc rfl rfl ?_
  refine wi_gr (w := 599) hc rfl rfl (by decide) (Nat.le_of_ble_eq_true rfl) rfl ?_
  refine wi_ic hc rfl ?_
  refine wi_ildv (N := 3642) hc rfl rfl (by decide) (by decide) (by omega) (by omega) (v := s 600 1) (hc1) ?_
  refine wi_ri hc rfl (by rw [cm_286]; rfl) ?_
  exact ⟨s1_, rfl, hT1_, hF1_⟩
