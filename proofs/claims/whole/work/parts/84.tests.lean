/-! The class's small tests. -/
theorem sp_131 {d L t : Nat} {s l : Nat → Int → Int} {A T : Int → Int} (hJ : JC s A T) (hK : KA A T) {x p : Int} (hx0 : 0 ≤ x) (hx1 : x < 3) (hp : rI p) : mm_Ev mm_ct mm_CM (d + 1) 131 [.ref 0, .int (iI x), .int (iI p)] (MX L t s l) (some (.int (iI (bI (0 ≤ p ∧ p < A (13 + x))))), MX L t s l) := by
  have hc : (mm_CM 131).2.2.2.2.2.2.2 = mm_cf cd_131 := by rw [cm_131]; rfl
  refine ev_of (mx := 3) (by rw [cm_131]; decide) (by rw [cm_131]; rfl) (by show 3 ≤ _; decide) ?_
  show mm_wp _ _ (0, [some (.ref 0), some (.int (iI x)), some (.int (iI p))], [], MX L t s l) (fun r => r = (some (.int (iI (bI (0 ≤ p ∧ p < A (13 + x))))), MX L t s l))
  have hB := hK.2.1
  have g0 := hB.1
  have gm := hB.2.1 x hx0 hx1
  refine wi_i1 hc rfl rfl ?_
  refine wi_zlt hc rfl hp (fun h1_ => ?_) (fun h1_ => ?_)
  · refine wi_ic hc rfl ?_
    refine wi_r0 hc rfl (by rw [cm_131]; rfl) ?_
    rw [bI_f (p := 0 ≤ p ∧ p < A (13 + x)) (by omega)]
  · refine wi_i1 hc rfl rfl ?_
    refine wi_a1 hc rfl rfl ?_
    refine wi_gr (w := 1) hc rfl rfl (by decide) (Nat.le_of_ble_eq_true rfl) rfl ?_
    refine wi_gr (w := 2) hc rfl rfl (by decide) (Nat.le_of_ble_eq_true rfl) rfl ?_
    refine wi_gr (w := 7) hc rfl rfl (by decide) (Nat.le_of_ble_eq_true rfl) rfl ?_
    refine wi_i1 hc rfl rfl ?_
    refine wi_ildv (N := 3) hc rfl rfl (by decide) (by decide) (by omega) (by omega) (v := A (13 + x)) (lb_many hJ.1 (by omega) (by omega)) ?_
    refine wi_cge hc rfl hp ⟨by omega, by omega⟩ (fun h2_ => ?_) (fun h2_ => ?_)
    · refine wi_ic hc rfl ?_
      refine wi_r0 hc rfl (by rw [cm_131]; rfl) ?_
      rw [bI_f (p := 0 ≤ p ∧ p < A (13 + x)) (by omega)]
    · refine wi_ic hc rfl ?_
      refine wi_go hc rfl ?_
      refine wi_r1 hc rfl (by rw [cm_131]; rfl) ?_
      rw [bI_t (p := 0 ≤ p ∧ p < A (13 + x)) (by omega)]
theorem sp_132 {d L t : Nat} {s l : Nat → Int → Int} {A T : Int → Int} (hJ : JC s A T) (hK : KA A T) {x b : Int} (hx0 : 0 ≤ x) (hx1 : x < 5) (hb : rI b) : mm_Ev mm_ct mm_CM (d + 2) 132 [.ref 0, .int (iI x), .int (iI b)] (MX L t s l) (some (.int (iI (bI ((0 ≤ b ∧ b < A 0) ∧ A (46 + 6 * b + 5) = x)))), MX L t s l) := by
  have hc : (mm_CM 132).2.2.2.2.2.2.2 = mm_cf cd_132 := by rw [cm_132]; rfl
  refine ev_of (mx := 3) (by rw [cm_132]; decide) (by rw [cm_132]; rfl) (by show 3 ≤ _; decide) ?_
  show mm_wp _ _ (0, [some (.ref 0), some (.int (iI x)), some (.int (iI b))], [], MX L t s l) (fun r => r = (some (.int (iI (bI ((0 ≤ b ∧ b < A 0) ∧ A (46 + 6 * b + 5) = x)))), MX L t s l))
  have hB := hK.2.1
  have g0 := hB.1
  refine wi_a1 hc rfl rfl ?_
  refine wi_i1 hc rfl rfl ?_
  refine wp_cv (b := 0) (As := [.int (iI b)]) (r := []) hc rfl (by rw [cm_129]; rfl) rfl (Nat.le_of_ble_eq_true rfl) (show 0 < 621 by decide) (by rw [cm_129]; rfl) (ev_mono (sg_129 (d := 0) hJ.1 hb hK.2.1.1) (by omega)) ?_
  show mm_wp _ _ (5, [some (.ref 0), some (.int (iI x)), some (.int (iI b))], [.int (iI (bI (0 ≤ b ∧ b < A 0)))], MX L t s l) _
  refine wi_beq hc rfl (fun h1_ => ?_) (fun h1_ => ?_)
  · refine wi_ic hc rfl ?_
    refine wi_r0 hc rfl (by rw [cm_132]; rfl) ?_
    rw [bI_f (p := (0 ≤ b ∧ b < A 0) ∧ A (46 + 6 * b + 5) = x) (by omega)]
  · have gw := (hB.2.2.2.2 b (by omega) (by omega)).1
    refine wi_a1 hc rfl rfl ?_
    refine wi_gr (w := 1) hc rfl rfl (by decide) (Nat.le_of_ble_eq_true rfl) rfl ?_
    refine wi_gr (w := 2) hc rfl rfl (by decide) (Nat.le_of_ble_eq_true rfl) rfl ?_
    refine wi_gr (w := 8) hc rfl rfl (by decide) (Nat.le_of_ble_eq_true rfl) rfl ?_
    refine wi_i1 hc rfl rfl ?_
    refine wi_ildv (N := 10) hc rfl rfl (by decide) (by decide) (by omega) (by omega) (v := A (46 + 6 * b + 5)) (lb_where hJ.1 (by omega) (by omega) (by omega)) ?_
    refine wi_i1 hc rfl rfl ?_
    refine wi_cne hc rfl ⟨by omega, by omega⟩ ⟨by omega, by omega⟩ (fun h2_ => ?_) (fun h2_ => ?_)
    · refine wi_ic hc rfl ?_
      refine wi_r0 hc rfl (by rw [cm_132]; rfl) ?_
      rw [bI_f (p := (0 ≤ b ∧ b < A 0) ∧ A (46 + 6 * b + 5) = x) (by omega)]
    · refine wi_ic hc rfl ?_
      refine wi_go hc rfl ?_
      refine wi_r1 hc rfl (by rw [cm_132]; rfl) ?_
      rw [bI_t (p := (0 ≤ b ∧ b < A 0) ∧ A (46 + 6 * b + 5) = x) (by omega)]
theorem pw_10 {n : Int} (h0 : 0 ≤ n) (h1 : n ≤ 10) : (1 : Int) ≤ 2 ^ n.toNat ∧ (2 : Int) ^ n.toNat ≤ 1024 := by
  rcases (by omega : n = 0 ∨ n = 1 ∨ n = 2 ∨ n = 3 ∨ n = 4 ∨ n = 5 ∨ n = 6 ∨ n = 7 ∨ n = 8 ∨ n = 9 ∨ n = 10) with q | q | q | q | q | q | q | q | q | q | q <;> (rw [q]; decide)

theorem sp_133 {d L t : Nat} {s l : Nat → Int → Int} {A T : Int → Int} (hJ : JC s A T) (hK : KA A T) {m : Int} (hm : rI m) : mm_Ev mm_ct mm_CM (d + 2) 133 [.ref 0, .int (iI m)] (MX L t s l) (some (.int (iI (bI ((0 < m ∧ m < 2 ^ (A 0).toNat) ∧ popI m ≤ 6)))), MX L t s l) := by
  have hc : (mm_CM 133).2.2.2.2.2.2.2 = mm_cf cd_133 := by rw [cm_133]; rfl
  refine ev_of (mx := 2) (by rw [cm_133]; decide) (by rw [cm_133]; rfl) (by show 2 ≤ _; decide) ?_
  show mm_wp _ _ (0, [some (.ref 0), some (.int (iI m))], [], MX L t s l) (fun r => r = (some (.int (iI (bI ((0 < m ∧ m < 2 ^ (A 0).toNat) ∧ popI m ≤ 6)))), MX L t s l))
  have hB := hK.2.1
  have g0 := hB.1
  have hp2 := pw_10 g0.1 g0.2
  have hpr := popI_r m
  refine wi_i1 hc rfl rfl ?_
  refine wi_zle hc rfl hm (fun h1_ => ?_) (fun h1_ => ?_)
  · refine wi_ic hc rfl ?_
    refine wi_r0 hc rfl (by rw [cm_133]; rfl) ?_
    rw [bI_f (p := (0 < m ∧ m < 2 ^ (A 0).toNat) ∧ popI m ≤ 6) (by omega)]
  · refine wi_i1 hc rfl rfl ?_
    refine wi_ic hc rfl ?_
    refine wi_a1 hc rfl rfl ?_
    refine wi_gr (w := 1) hc rfl rfl (by decide) (Nat.le_of_ble_eq_true rfl) rfl ?_
    refine wi_gfv (kz := 8) rfl hc rfl rfl (by decide) (Nat.le_of_ble_eq_true rfl) rfl (v := A 0) (lb_books hJ.1) ?_
    refine wi_shl (2 ^ (A 0).toNat) rfl hc rfl (by omega) (by omega) ?_
    refine wi_cge hc rfl hm ⟨by omega, by omega⟩ (fun h2_ => ?_) (fun h2_ => ?_)
    · refine wi_ic hc rfl ?_
      refine wi_r0 hc rfl (by rw [cm_133]; rfl) ?_
      rw [bI_f (p := (0 < m ∧ m < 2 ^ (A 0).toNat) ∧ popI m ≤ 6) (by omega)]
    · refine wi_i1 hc rfl rfl ?_
      refine wp_cs (As := [.int (iI m)]) (r := []) hc rfl (by rw [cm_288]; rfl) rfl (Nat.le_of_ble_eq_true rfl) (ev_mono (sp_288 (d := 0) (by omega) (by omega)) (by omega)) ?_
      show mm_wp _ _ (21, [some (.ref 0), some (.int (iI m))], [.int (iI (popI m))], MX L t s l) _
      refine wi_bi hc rfl rfl ?_
      refine wi_cgt hc rfl ⟨by omega, by omega⟩ ⟨by decide, by decide⟩ (fun h3_ => ?_) (fun h3_ => ?_)
      · refine wi_ic hc rfl ?_
        refine wi_r0 hc rfl (by rw [cm_133]; rfl) ?_
        rw [bI_f (p := (0 < m ∧ m < 2 ^ (A 0).toNat) ∧ popI m ≤ 6) (by omega)]
      · refine wi_ic hc rfl ?_
        refine wi_go hc rfl ?_
        refine wi_r1 hc rfl (by rw [cm_133]; rfl) ?_
        rw [bI_t (p := (0 < m ∧ m < 2 ^ (A 0).toNat) ∧ popI m ≤ 6) (by omega)]
theorem sp_150 {d L t : Nat} {s l : Nat → Int → Int} {x : Int} (hx : rI x) : mm_Ev mm_ct mm_CM (d + 1) 150 [.int (iI x)] (MX L t s l) (some (.int (iI (popI x))), MX L t s l) := by
  have hc : (mm_CM 150).2.2.2.2.2.2.2 = mm_cf cd_150 := by rw [cm_150]; rfl
  refine ev_of (mx := 3) (by rw [cm_150]; decide) (by rw [cm_150]; rfl) (by show 1 ≤ _; decide) ?_
  show mm_wp _ _ (0, [some (.int (iI x)), none, none], [], MX L t s l) (fun r => r = (some (.int (iI (popI x))), MX L t s l))
  refine wi_ic hc rfl ?_
  refine wi_is1 (L' := [some (.int (iI x)), some (.int (iI 0)), none]) hc rfl (Nat.le_of_ble_eq_true rfl) rfl ?_
  refine wi_ic hc rfl ?_
  refine wi_is1 (L' := [some (.int (iI x)), some (.int (iI 0)), some (.int (iI 0))]) hc rfl (Nat.le_of_ble_eq_true rfl) rfl ?_
  have loop4_ : ∀ i : Int, i ≤ 10 → 0 ≤ i → ∀ c : Int, c = cntb x i.toNat → mm_wp (mm_Ev mm_ct mm_CM d) 150 (4, [some (.int (iI x)), some (.int (iI c)), some (.int (iI i))], [], MX L t s l) (fun r => r = (some (.int (iI (popI x))), MX L t s l)) := by
    refine up_ind ?_
    intro i hi ih hi0 c hcc
    refine wi_i1 hc rfl rfl ?_
    refine wi_bi hc rfl rfl ?_
    refine wi_cge hc rfl ⟨by omega, by omega⟩ ⟨by decide, by decide⟩ (fun h1_ => ?_) (fun h1_ => ?_)
    · refine wi_i1 hc rfl rfl ?_
      refine wi_ri hc rfl (by rw [cm_150]; rfl) ?_
      have e9 : i = 10 := by omega
      rw [hcc, e9]
      rfl
    · refine wi_i1 hc rfl rfl ?_
      refine wi_i1 hc rfl rfl ?_
      refine wi_i1 hc rfl rfl ?_
      refine wi_shr (2 ^ i.toNat) rfl hc rfl hx (by omega) (by omega) ?_
      refine wi_ic hc rfl ?_
      refine wi_msk 1 2 rfl (by decide) (by decide) hc rfl ?_
      refine wi_add hc rfl ?_
      refine wi_is1 (L' := [some (.int (iI x)), some (.int (iI (c + ((x / (2 ^ i.toNat)) % 2)))), some (.int (iI i))]) hc rfl (Nat.le_of_ble_eq_true rfl) rfl ?_
      refine wi_inc (L' := [some (.int (iI x)), some (.int (iI (c + ((x / (2 ^ i.toNat)) % 2)))), some (.int (iI (i + 1)))]) hc rfl rfl rfl ?_
      refine wi_go hc rfl ?_
      exact ih (by omega) (by omega) _ (by rw [show (i + 1).toNat = i.toNat + 1 by omega, cntb, ← hcc])
  exact loop4_ 0 (by omega) (by omega) 0 rfl
theorem sp_256 {d L t : Nat} {s l : Nat → Int → Int} {A T : Int → Int} (hJ : JM s A T) (hK : KA A T) {m : Int} (hm : rI m) : mm_Ev mm_ct mm_CM (d + 2) 256 [.ref 598, .int (iI m)] (MX L t s l) (some (.int (iI (bI ((0 < m ∧ m < 2 ^ (A 0).toNat) ∧ popI m ≤ 6)))), MX L t s l) := by
  have hc : (mm_CM 256).2.2.2.2.2.2.2 = mm_cf cd_256 := by rw [cm_256]; rfl
  refine ev_of (mx := 2) (by rw [cm_256]; decide) (by rw [cm_256]; rfl) (by show 2 ≤ _; decide) ?_
  show mm_wp _ _ (0, [some (.ref 598), some (.int (iI m))], [], MX L t s l) (fun r => r = (some (.int (iI (bI ((0 < m ∧ m < 2 ^ (A 0).toNat) ∧ popI m ≤ 6)))), MX L t s l))
  have hB := hK.2.1
  have g0 := hB.1
  have hp2 := pw_10 g0.1 g0.2
  have hpr := popI_r m
  refine wi_i1 hc rfl rfl ?_
  refine wi_ic hc rfl ?_
  refine wi_ic hc rfl ?_
  refine wi_a1 hc rfl rfl ?_
  refine wi_gr (w := 599) hc rfl rfl (by decide) (Nat.le_of_ble_eq_true rfl) rfl ?_
  refine wi_ic hc rfl ?_
  refine wi_ildv (N := 3642) hc rfl rfl (by decide) (by decide) (by omega) (by omega) (v := A 0) (congrFun (hJ.1) _) ?_
  refine wi_shl (2 ^ (A 0).toNat) rfl hc rfl (by omega) (by omega) ?_
  refine wi_ic hc rfl ?_
  refine wi_sub hc rfl ?_
  refine wp_cs (As := [.int (iI m), .int (iI 1), .int (iI ((1 * (2 ^ (A 0).toNat)) - 1))]) (r := []) hc rfl (by rw [cm_148]; rfl) rfl (Nat.le_of_ble_eq_true rfl) (ev_mono (sp_148 (d := 0) hm ⟨by decide, by decide⟩ ⟨by omega, by omega⟩) (by omega)) ?_
  show mm_wp _ _ (15, [some (.ref 598), some (.int (iI m))], [.int (iI (bI (1 ≤ m ∧ m ≤ (1 * (2 ^ (A 0).toNat)) - 1)))], MX L t s l) _
  refine wi_beq hc rfl (fun h1_ => ?_) (fun h1_ => ?_)
  · refine wi_ic hc rfl ?_
    refine wi_r0 hc rfl (by rw [cm_256]; rfl) ?_
    rw [bI_f (p := (0 < m ∧ m < 2 ^ (A 0).toNat) ∧ popI m ≤ 6) (by omega)]
  · refine wi_i1 hc rfl rfl ?_
    refine wp_cs (As := [.int (iI m)]) (r := []) hc rfl (by rw [cm_150]; rfl) rfl (Nat.le_of_ble_eq_true rfl) (ev_mono (sp_150 (d := 0) hm) (by omega)) ?_
    show mm_wp _ _ (22, [some (.ref 598), some (.int (iI m))], [.int (iI (popI m))], MX L t s l) _
    refine wi_bi hc rfl rfl ?_
    refine wi_cgt hc rfl ⟨by omega, by omega⟩ ⟨by decide, by decide⟩ (fun h2_ => ?_) (fun h2_ => ?_)
    · refine wi_ic hc rfl ?_
      refine wi_r0 hc rfl (by rw [cm_256]; rfl) ?_
      rw [bI_f (p := (0 < m ∧ m < 2 ^ (A 0).toNat) ∧ popI m ≤ 6) (by omega)]
    · refine wi_ic hc rfl ?_
      refine wi_go hc rfl ?_
      refine wi_r1 hc rfl (by rw [cm_256]; rfl) ?_
      rw [bI_t (p := (0 < m ∧ m < 2 ^ (A 0).toNat) ∧ popI m ≤ 6) (by omega)]
