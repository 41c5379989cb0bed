/-! Small methods of both sides. -/
theorem up_ind {n : Int} {P : Int → Prop} (h : ∀ i, i ≤ n → (i + 1 ≤ n → P (i + 1)) → P i) : ∀ i, i ≤ n → P i := by
  have key : ∀ (m : Nat) (i : Int), i ≤ n → n - i ≤ m → P i := by
    intro m
    induction m with
    | zero => exact fun i hi hm => h i hi (fun q => absurd q (by omega))
    | succ m ih => exact fun i hi hm => h i hi (fun q => ih (i + 1) q (by omega))
  exact fun i hi => key (n - i).toNat i hi (by omega)
theorem dn_ind {n : Int} {P : Int → Prop} (h : ∀ i, n ≤ i → (n ≤ i - 1 → P (i - 1)) → P i) : ∀ i, n ≤ i → P i := by
  have key : ∀ (m : Nat) (i : Int), n ≤ i → i - n ≤ m → P i := by
    intro m
    induction m with
    | zero => exact fun i hi hm => h i hi (fun q => absurd q (by omega))
    | succ m ih => exact fun i hi hm => h i hi (fun q => ih (i - 1) q (by omega))
  exact fun i hi => key (i - n).toNat i hi (by omega)
theorem sp_125 {d L t : Nat} {s l : Nat → Int → Int} {x : Int} (hx : rI x) : mm_Ev mm_ct mm_CM (d + 1) 125 [.int (iI x)] (MX L t s l) (some (.int (iI (bI (0 ≤ x ∧ x ≤ 2)))), MX L t s l) := by
  have hc : (mm_CM 125).2.2.2.2.2.2.2 = mm_cf cd_125 := by rw [cm_125]; rfl
  refine ev_of (mx := 1) (by rw [cm_125]; decide) (by rw [cm_125]; rfl) (by show 1 ≤ _; decide) ?_
  show mm_wp _ _ (0, [some (.int (iI x))], [], MX L t s l) _
  refine wi_i1 hc rfl rfl ?_
  refine wi_zlt hc rfl hx (fun h1_ => ?_) (fun h1_ => ?_)
  · refine wi_ic hc rfl ?_
    refine wi_r0 hc rfl (by rw [cm_125]; rfl) ?_
    rw [bI_f (p := 0 ≤ x ∧ x ≤ 2) (by omega)]
  · refine wi_i1 hc rfl rfl ?_
    refine wi_ic hc rfl ?_
    refine wi_cge hc rfl hx ⟨by decide, by decide⟩ (fun h2_ => ?_) (fun h2_ => ?_)
    · refine wi_ic hc rfl ?_
      refine wi_r0 hc rfl (by rw [cm_125]; rfl) ?_
      rw [bI_f (p := 0 ≤ x ∧ x ≤ 2) (by omega)]
    · refine wi_ic hc rfl ?_
      refine wi_go hc rfl ?_
      refine wi_r1 hc rfl (by rw [cm_125]; rfl) ?_
      rw [bI_t (p := 0 ≤ x ∧ x ≤ 2) (by omega)]
theorem sp_148 {d L t : Nat} {s l : Nat → Int → Int} {x lo hi : Int} (hx : rI x) (h1 : rI lo) (h2 : rI hi) : mm_Ev mm_ct mm_CM (d + 1) 148 [.int (iI x), .int (iI lo), .int (iI hi)] (MX L t s l) (some (.int (iI (bI (lo ≤ x ∧ x ≤ hi)))), MX L t s l) := by
  have hc : (mm_CM 148).2.2.2.2.2.2.2 = mm_cf cd_148 := by rw [cm_148]; rfl
  refine ev_of (mx := 3) (by rw [cm_148]; decide) (by rw [cm_148]; rfl) (by show 3 ≤ _; decide) ?_
  show mm_wp _ _ (0, [some (.int (iI x)), some (.int (iI lo)), some (.int (iI hi))], [], MX L t s l) _
  refine wi_i1 hc rfl rfl ?_
  refine wi_i1 hc rfl rfl ?_
  refine wi_clt hc rfl hx h1 (fun h1_ => ?_) (fun h1_ => ?_)
  · refine wi_ic hc rfl ?_
    refine wi_r0 hc rfl (by rw [cm_148]; rfl) ?_
    rw [bI_f (p := lo ≤ x ∧ x ≤ hi) (by omega)]
  · refine wi_i1 hc rfl rfl ?_
    refine wi_i1 hc rfl rfl ?_
    refine wi_cgt hc rfl hx h2 (fun h2_ => ?_) (fun h2_ => ?_)
    · refine wi_ic hc rfl ?_
      refine wi_r0 hc rfl (by rw [cm_148]; rfl) ?_
      rw [bI_f (p := lo ≤ x ∧ x ≤ hi) (by omega)]
    · refine wi_ic hc rfl ?_
      refine wi_go hc rfl ?_
      refine wi_r1 hc rfl (by rw [cm_148]; rfl) ?_
      rw [bI_t (p := lo ≤ x ∧ x ≤ hi) (by omega)]
theorem sp_129 {d L t : Nat} {s l : Nat → Int → Int} {x : Int} (hx : rI x) (hb0 : 0 ≤ s 1 8) (hb1 : s 1 8 ≤ 10) : mm_Ev mm_ct mm_CM (d + 1) 129 [.ref 0, .int (iI x)] (MX L t s l) (some (.int (iI (bI (0 ≤ x ∧ x < s 1 8)))), MX L t s l) := by
  have hc : (mm_CM 129).2.2.2.2.2.2.2 = mm_cf cd_129 := by rw [cm_129]; rfl
  refine ev_of (mx := 2) (by rw [cm_129]; decide) (by rw [cm_129]; rfl) (by show 2 ≤ _; decide) ?_
  show mm_wp _ _ (0, [some (.ref 0), some (.int (iI x))], [], MX L t s l) _
  refine wi_i1 hc rfl rfl ?_
  refine wi_zlt hc rfl hx (fun h1_ => ?_) (fun h1_ => ?_)
  · refine wi_ic hc rfl ?_
    refine wi_r0 hc rfl (by rw [cm_129]; rfl) ?_
    rw [bI_f (p := 0 ≤ x ∧ x < s 1 8) (by omega)]
  · refine wi_i1 hc rfl rfl ?_
    refine wi_a1 hc rfl rfl ?_
    refine wi_gr (w := 1) hc rfl rfl (by decide) (Nat.le_of_ble_eq_true rfl) rfl ?_
    refine wi_gf (kz := 8) rfl hc rfl rfl (by decide) (Nat.le_of_ble_eq_true rfl) rfl ?_
    refine wi_cge hc rfl hx ⟨by omega, by omega⟩ (fun h2_ => ?_) (fun h2_ => ?_)
    · refine wi_ic hc rfl ?_
      refine wi_r0 hc rfl (by rw [cm_129]; rfl) ?_
      rw [bI_f (p := 0 ≤ x ∧ x < s 1 8) (by omega)]
    · refine wi_ic hc rfl ?_
      refine wi_go hc rfl ?_
      refine wi_r1 hc rfl (by rw [cm_129]; rfl) ?_
      rw [bI_t (p := 0 ≤ x ∧ x < s 1 8) (by omega)]
theorem sp_151 {d L t : Nat} {s l : Nat → Int → Int} {x : Int} (hx : rI x) (hb0 : 0 ≤ s 599 0) (hb1 : s 599 0 ≤ 10) : mm_Ev mm_ct mm_CM (d + 2) 151 [.ref 598, .int (iI x)] (MX L t s l) (some (.int (iI (bI (0 ≤ x ∧ x < s 599 0)))), MX L t s l) := by
  have hc : (mm_CM 151).2.2.2.2.2.2.2 = mm_cf cd_151 := by rw [cm_151]; rfl
  refine ev_of (mx := 2) (by rw [cm_151]; decide) (by rw [cm_151]; rfl) (by show 2 ≤ _; decide) ?_
  show mm_wp _ _ (0, [some (.ref 598), some (.int (iI x))], [], MX L t s l) _
  refine wi_i1 hc rfl rfl ?_
  refine wi_ic hc rfl ?_
  refine wi_a1 hc rfl rfl ?_
  refine wi_gr (w := 599) hc rfl rfl (by decide) (Nat.le_of_ble_eq_true rfl) rfl ?_
  refine wi_ic hc rfl ?_
  refine wi_ild (N := 3642) hc rfl rfl (by decide) (by decide) (by omega) (by omega) ?_
  refine wi_ic hc rfl ?_
  refine wi_sub hc rfl ?_
  refine wp_cs (As := [.int (iI x), .int (iI 0), .int (iI ((s 599 0) - 1))]) (r := []) hc rfl (by rw [cm_148]; rfl) rfl (Nat.le_of_ble_eq_true rfl) (ev_mono (sp_148 (d := 0) hx ⟨by decide, by decide⟩ ⟨by omega, by omega⟩) (by omega)) ?_
  show mm_wp _ _ (13, [some (.ref 598), some (.int (iI x))], [.int (iI (bI (0 ≤ x ∧ x ≤ (s 599 0) - 1)))], MX L t s l) _
  refine wi_rb hc rfl (by rw [cm_151]; rfl) ?_
  rw [show bI (0 ≤ x ∧ x ≤ (s 599 0) - 1) = bI (0 ≤ x ∧ x < s 599 0) by unfold bI; congr 1; exact propext ⟨fun h => by omega, fun h => by omega⟩]
theorem sp_152 {d L t : Nat} {s l : Nat → Int → Int} {x : Int} (hx : rI x) : mm_Ev mm_ct mm_CM (d + 2) 152 [.int (iI x)] (MX L t s l) (some (.int (iI (bI (0 ≤ x ∧ x ≤ 2)))), MX L t s l) := by
  have hc : (mm_CM 152).2.2.2.2.2.2.2 = mm_cf cd_152 := by rw [cm_152]; rfl
  refine ev_of (mx := 1) (by rw [cm_152]; decide) (by rw [cm_152]; rfl) (by show 1 ≤ _; decide) ?_
  show mm_wp _ _ (0, [some (.int (iI x))], [], MX L t s l) _
  refine wi_i1 hc rfl rfl ?_
  refine wi_ic hc rfl ?_
  refine wi_ic hc rfl ?_
  refine wp_cs (As := [.int (iI x), .int (iI 0), .int (iI 2)]) (r := []) hc rfl (by rw [cm_148]; rfl) rfl (Nat.le_of_ble_eq_true rfl) (ev_mono (sp_148 (d := 0) hx ⟨by decide, by decide⟩ ⟨by decide, by decide⟩) (by omega)) ?_
  show mm_wp _ _ (6, [some (.int (iI x))], [.int (iI (bI (0 ≤ x ∧ x ≤ 2)))], MX L t s l) _
  refine wi_rb hc rfl (by rw [cm_152]; rfl) ?_
  rfl
theorem sp_153 {d L t : Nat} {s l : Nat → Int → Int} {b w : Int} (h0 : 0 ≤ b) (h1 : b < 10) (h2 : 0 ≤ w) (h3 : w < 6) : mm_Ev mm_ct mm_CM (d + 1) 153 [.ref 598, .int (iI b), .int (iI w)] (MX L t s l) (some (.int (iI (s 599 (46 + 6 * b + w)))), MX L t s l) := by
  have hc : (mm_CM 153).2.2.2.2.2.2.2 = mm_cf cd_153 := by rw [cm_153]; rfl
  refine ev_of (mx := 3) (by rw [cm_153]; decide) (by rw [cm_153]; rfl) (by show 3 ≤ _; decide) ?_
  show mm_wp _ _ (0, [some (.ref 598), some (.int (iI b)), some (.int (iI w))], [], MX L t s l) _
  refine wi_a1 hc rfl rfl ?_
  refine wi_gr (w := 599) hc rfl rfl (by decide) (Nat.le_of_ble_eq_true rfl) rfl ?_
  refine wi_bi hc rfl rfl ?_
  refine wi_bi hc rfl rfl ?_
  refine wi_i1 hc rfl rfl ?_
  refine wi_mul hc rfl ?_
  refine wi_add hc rfl ?_
  refine wi_i1 hc rfl rfl ?_
  refine wi_add hc rfl ?_
  refine wi_ild (N := 3642) hc rfl rfl (by decide) (by decide) (by omega) (by omega) ?_
  refine wi_ri hc rfl (by rw [cm_153]; rfl) ?_
  rfl
theorem sp_155 {d L t : Nat} {s l : Nat → Int → Int} {x p : Int} (h0 : 0 ≤ x) (h1 : x ≤ 2) (h2 : 0 ≤ p) (h3 : p < 10) : mm_Ev mm_ct mm_CM (d + 1) 155 [.ref 598, .int (iI x), .int (iI p)] (MX L t s l) (some (.int (iI (s 599 (16 + 10 * x + p)))), MX L t s l) := by
  have hc : (mm_CM 155).2.2.2.2.2.2.2 = mm_cf cd_155 := by rw [cm_155]; rfl
  refine ev_of (mx := 3) (by rw [cm_155]; decide) (by rw [cm_155]; rfl) (by show 3 ≤ _; decide) ?_
  show mm_wp _ _ (0, [some (.ref 598), some (.int (iI x)), some (.int (iI p))], [], MX L t s l) _
  refine wi_a1 hc rfl rfl ?_
  refine wi_gr (w := 599) hc rfl rfl (by decide) (Nat.le_of_ble_eq_true rfl) rfl ?_
  refine wi_bi hc rfl rfl ?_
  refine wi_bi hc rfl rfl ?_
  refine wi_i1 hc rfl rfl ?_
  refine wi_mul hc rfl ?_
  refine wi_add hc rfl ?_
  refine wi_i1 hc rfl rfl ?_
  refine wi_add hc rfl ?_
  refine wi_ild (N := 3642) hc rfl rfl (by decide) (by decide) (by omega) (by omega) ?_
  refine wi_ri hc rfl (by rw [cm_155]; rfl) ?_
  rfl
theorem sp_159 {d L t : Nat} {s l : Nat → Int → Int} {x : Int} (hx : rI x) : mm_Ev mm_ct mm_CM (d + 2) 159 [.ref 598, .int (iI x)] (MX L t s l) (some (.int (iI (bI (1 ≤ x ∧ x ≤ 2)))), MX L t (if 1 ≤ x ∧ x ≤ 2 then up s 599 3 x else s) l) := by
  have hc : (mm_CM 159).2.2.2.2.2.2.2 = mm_cf cd_159 := by rw [cm_159]; rfl
  refine ev_of (mx := 2) (by rw [cm_159]; decide) (by rw [cm_159]; rfl) (by show 2 ≤ _; decide) ?_
  show mm_wp _ _ (0, [some (.ref 598), some (.int (iI x))], [], MX L t s l) _
  refine wi_i1 hc rfl rfl ?_
  refine wi_ic hc rfl ?_
  refine wi_ic hc rfl ?_
  refine wp_cs (As := [.int (iI x), .int (iI 1), .int (iI 2)]) (r := []) hc rfl (by rw [cm_148]; rfl) rfl (Nat.le_of_ble_eq_true rfl) (ev_mono (sp_148 (d := 0) hx ⟨by decide, by decide⟩ ⟨by decide, by decide⟩) (by omega)) ?_
  show mm_wp _ _ (6, [some (.ref 598), some (.int (iI x))], [.int (iI (bI (1 ≤ x ∧ x ≤ 2)))], MX L t s l) _
  refine wi_bne hc rfl (fun h1_ => ?_) (fun h1_ => ?_)
  · refine wi_a1 hc rfl rfl ?_
    refine wi_gr (w := 599) hc rfl rfl (by decide) (Nat.le_of_ble_eq_true rfl) rfl ?_
    refine wi_ic hc rfl ?_
    refine wi_i1 hc rfl rfl ?_
    refine wi_ist (N := 3642) hc rfl rfl (by decide) (by decide) (by omega) (by omega) ?_
    refine wi_ic hc rfl ?_
    refine wi_r1 hc rfl (by rw [cm_159]; rfl) ?_
    rw [bI_t (p := 1 ≤ x ∧ x ≤ 2) (by omega), if_pos (by omega : (1 ≤ x ∧ x ≤ 2))]
  · refine wi_ic hc rfl ?_
    refine wi_r0 hc rfl (by rw [cm_159]; rfl) ?_
    rw [bI_f (p := 1 ≤ x ∧ x ≤ 2) (by omega), if_neg (by omega : ¬ (1 ≤ x ∧ x ≤ 2))]
theorem sp_87 {d L t : Nat} {s l : Nat → Int → Int} {x : Int} (hx : rI x) : mm_Ev mm_ct mm_CM (d + 1) 87 [.ref 0, .int (iI x)] (MX L t s l) (some (.int (iI (bI (1 ≤ x ∧ x ≤ 2)))), MX L t (if 1 ≤ x ∧ x ≤ 2 then up s 1 9 x else s) l) := by
  have hc : (mm_CM 87).2.2.2.2.2.2.2 = mm_cf cd_87 := by rw [cm_87]; rfl
  refine ev_of (mx := 2) (by rw [cm_87]; decide) (by rw [cm_87]; rfl) (by show 2 ≤ _; decide) ?_
  show mm_wp _ _ (0, [some (.ref 0), some (.int (iI x))], [], MX L t s l) _
  refine wi_i1 hc rfl rfl ?_
  refine wi_ic hc rfl ?_
  refine wi_clt hc rfl hx ⟨by decide, by decide⟩ (fun h1_ => ?_) (fun h1_ => ?_)
  · refine wi_ic hc rfl ?_
    refine wi_r0 hc rfl (by rw [cm_87]; rfl) ?_
    rw [bI_f (p := 1 ≤ x ∧ x ≤ 2) (by omega), if_neg (by omega : ¬ (1 ≤ x ∧ x ≤ 2))]
  · refine wi_i1 hc rfl rfl ?_
    refine wi_ic hc rfl ?_
    refine wi_cle hc rfl hx ⟨by decide, by decide⟩ (fun h2_ => ?_) (fun h2_ => ?_)
    · refine wi_a1 hc rfl rfl ?_
      refine wi_gr (w := 1) hc rfl rfl (by decide) (Nat.le_of_ble_eq_true rfl) rfl ?_
      refine wi_i1 hc rfl rfl ?_
      refine wi_pf (kz := 9) rfl hc rfl rfl (by decide) (Nat.le_of_ble_eq_true rfl) rfl (Nat.le_of_ble_eq_true rfl) ⟨rfl, rfl⟩ rfl ?_
      refine wi_ic hc rfl ?_
      refine wi_r1 hc rfl (by rw [cm_87]; rfl) ?_
      rw [bI_t (p := 1 ≤ x ∧ x ≤ 2) (by omega), if_pos (by omega : (1 ≤ x ∧ x ≤ 2))]
    · refine wi_ic hc rfl ?_
      refine wi_r0 hc rfl (by rw [cm_87]; rfl) ?_
      rw [bI_f (p := 1 ≤ x ∧ x ≤ 2) (by omega), if_neg (by omega : ¬ (1 ≤ x ∧ x ≤ 2))]
theorem sp_157 {d L t : Nat} {s l : Nat → Int → Int} {b p : Int} (h0 : 0 ≤ b) (h1 : b < 10) (hw0 : 0 ≤ s 599 (46 + 6 * b + 5)) (hw1 : s 599 (46 + 6 * b + 5) ≤ 2) (hp0 : 0 ≤ p) (hp1 : p < 10) (hr : ∀ q, 0 ≤ q → q < 10 → rI (s 599 (16 + 10 * s 599 (46 + 6 * b + 5) + q))) (hp : s 599 (16 + 10 * s 599 (46 + 6 * b + 5) + p) = b) (hq : ∀ q, 0 ≤ q → q < p → s 599 (16 + 10 * s 599 (46 + 6 * b + 5) + q) ≠ b) : mm_Ev mm_ct mm_CM (d + 2) 157 [.ref 598, .int (iI b)] (MX L t s l) (some (.int (iI p)), MX L t s l) := by
  have hc : (mm_CM 157).2.2.2.2.2.2.2 = mm_cf cd_157 := by rw [cm_157]; rfl
  refine ev_of (mx := 3) (by rw [cm_157]; decide) (by rw [cm_157]; rfl) (by show 2 ≤ _; decide) ?_
  show mm_wp _ _ (0, [some (.ref 598), some (.int (iI b)), none], [], MX L t s l) _
  refine wi_ic hc rfl ?_
  refine wi_is1 (L' := [some (.ref 598), some (.int (iI b)), some (.int (iI 0))]) hc rfl (Nat.le_of_ble_eq_true rfl) rfl ?_
  have loop2_ : ∀ i : Int, i ≤ p → 0 ≤ i → mm_wp (mm_Ev mm_ct mm_CM (d + 1)) 157 (2, [some (.ref 598), some (.int (iI b)), some (.int (iI i))], [], MX L t s l) (fun r => r = (some (.int (iI p)), MX L t s l)) := by
    refine up_ind ?_
    intro i hi ih hi0
    refine wi_a1 hc rfl rfl ?_
    refine wi_a1 hc rfl rfl ?_
    refine wi_i1 hc rfl rfl ?_
    refine wi_ic hc rfl ?_
    refine wp_cv (b := 598) (As := [.int (iI b), .int (iI 5)]) (r := [.ref 598]) hc rfl (by rw [cm_153]; rfl) rfl (Nat.le_of_ble_eq_true rfl) (show 598 < 621 by decide) (by rw [cm_153]; rfl) (ev_mono (sp_153 (d := 0) (by omega) (by omega) (by omega) (by omega)) (by omega)) ?_
    show mm_wp _ _ (9, [some (.ref 598), some (.int (iI b)), some (.int (iI i))], [.int (iI (s 599 (46 + 6 * b + 5))), .ref 598], MX L t s l) _
    refine wi_i1 hc rfl rfl ?_
    refine wp_cv (b := 598) (As := [.int (iI (s 599 (46 + 6 * b + 5))), .int (iI i)]) (r := []) hc rfl (by rw [cm_155]; rfl) rfl (Nat.le_of_ble_eq_true rfl) (show 598 < 621 by decide) (by rw [cm_155]; rfl) (ev_mono (sp_155 (d := 0) (by omega) (by omega) (by omega) (by omega)) (by omega)) ?_
    show mm_wp _ _ (13, [some (.ref 598), some (.int (iI b)), some (.int (iI i))], [.int (iI (s 599 (16 + 10 * (s 599 (46 + 6 * b + 5)) + i)))], MX L t s l) _
    refine wi_i1 hc rfl rfl ?_
    refine wi_ceq hc rfl (hr i (by omega) (by omega)) ⟨by omega, by omega⟩ (fun h1_ => ?_) (fun h1_ => ?_)
    · refine wi_i1 hc rfl rfl ?_
      refine wi_ri hc rfl (by rw [cm_157]; rfl) ?_
      have h9 : i = p := by
        rcases (by omega : i < p ∨ i = p) with q | q
        · exact absurd (by omega) (hq i hi0 q)
        · exact q
      rw [h9]
    · refine wi_inc (L' := [some (.ref 598), some (.int (iI b)), some (.int (iI (i + 1)))]) hc rfl rfl rfl ?_
      refine wi_go hc rfl ?_
      have h9 : i ≠ p := fun q => by subst q; exact h1_ hp
      exact ih (by omega) (by omega)
  exact loop2_ 0 (by omega) (by omega)
