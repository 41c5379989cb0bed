/-! By hand, on both sides. -/
theorem sg_129 {d L t : Nat} {s l : Nat → Int → Int} {A T : Int → Int} (h : LB 0 s A T) {x : Int} (hx : rI x) (h0 : 0 ≤ A 0 ∧ A 0 ≤ 10) : mm_Ev mm_ct mm_CM (d + 1) 129 [.ref 0, .int (iI x)] (MX L t s l) (some (.int (iI (bI (0 ≤ x ∧ x < A 0)))), MX L t s l) := by
  have e := lb_books h
  have := sp_129 (d := d) (L := L) (t := t) (s := s) (l := l) hx (by rw [e]; exact h0.1) (by rw [e]; exact h0.2)
  rw [e] at this
  exact this
theorem sh_157q {d L t : Nat} {s l : Nat → Int → Int} {b p : Int} (h0 : 0 ≤ b) (h1 : b < 10) (hw0 : 0 ≤ s 599 (46 + 6 * b + 5)) (hw1 : s 599 (46 + 6 * b + 5) ≤ 2) (hp0 : 0 ≤ p) (hp1 : p < 10) (hr : ∀ q, 0 ≤ q → q ≤ p → rI (s 599 (16 + 10 * s 599 (46 + 6 * b + 5) + q))) (hp : s 599 (16 + 10 * s 599 (46 + 6 * b + 5) + p) = b) (hq : ∀ q, 0 ≤ q → q < p → s 599 (16 + 10 * s 599 (46 + 6 * b + 5) + q) ≠ b) : mm_Ev mm_ct mm_CM (d + 2) 157 [.ref 598, .int (iI b)] (MX L t s l) (some (.int (iI p)), MX L t s l) := by
  have hc : (mm_CM 157).2.2.2.2.2.2.2 = mm_cf cd_157 := by rw [cm_157]; rfl
  refine ev_of (mx := 3) (by rw [cm_157]; decide) (by rw [cm_157]; rfl) (by show 2 ≤ _; decide) ?_
  show mm_wp _ _ (0, [some (.ref 598), some (.int (iI b)), none], [], MX L t s l) _
  refine wi_ic hc rfl ?_
  refine wi_is1 (L' := [some (.ref 598), some (.int (iI b)), some (.int (iI 0))]) hc rfl (Nat.le_of_ble_eq_true rfl) rfl ?_
  have loop2_ : ∀ i : Int, i ≤ p → 0 ≤ i → mm_wp (mm_Ev mm_ct mm_CM (d + 1)) 157 (2, [some (.ref 598), some (.int (iI b)), some (.int (iI i))], [], MX L t s l) (fun r => r = (some (.int (iI p)), MX L t s l)) := by
    refine up_ind ?_
    intro i hi ih hi0
    refine wi_a1 hc rfl rfl ?_
    refine wi_a1 hc rfl rfl ?_
    refine wi_i1 hc rfl rfl ?_
    refine wi_ic hc rfl ?_
    refine wp_cv (b := 598) (As := [.int (iI b), .int (iI 5)]) (r := [.ref 598]) hc rfl (by rw [cm_153]; rfl) rfl (Nat.le_of_ble_eq_true rfl) (show 598 < 621 by decide) (by rw [cm_153]; rfl) (ev_mono (sp_153 (d := 0) (by omega) (by omega) (by omega) (by omega)) (by omega)) ?_
    show mm_wp _ _ (9, [some (.ref 598), some (.int (iI b)), some (.int (iI i))], [.int (iI (s 599 (46 + 6 * b + 5))), .ref 598], MX L t s l) _
    refine wi_i1 hc rfl rfl ?_
    refine wp_cv (b := 598) (As := [.int (iI (s 599 (46 + 6 * b + 5))), .int (iI i)]) (r := []) hc rfl (by rw [cm_155]; rfl) rfl (Nat.le_of_ble_eq_true rfl) (show 598 < 621 by decide) (by rw [cm_155]; rfl) (ev_mono (sp_155 (d := 0) (by omega) (by omega) (by omega) (by omega)) (by omega)) ?_
    show mm_wp _ _ (13, [some (.ref 598), some (.int (iI b)), some (.int (iI i))], [.int (iI (s 599 (16 + 10 * (s 599 (46 + 6 * b + 5)) + i)))], MX L t s l) _
    refine wi_i1 hc rfl rfl ?_
    refine wi_ceq hc rfl (hr i (by omega) (by omega)) ⟨by omega, by omega⟩ (fun h1_ => ?_) (fun h1_ => ?_)
    · refine wi_i1 hc rfl rfl ?_
      refine wi_ri hc rfl (by rw [cm_157]; rfl) ?_
      have h9 : i = p := by
        rcases (by omega : i < p ∨ i = p) with q | q
        · exact absurd (by omega) (hq i hi0 q)
        · exact q
      rw [h9]
    · refine wi_inc (L' := [some (.ref 598), some (.int (iI b)), some (.int (iI (i + 1)))]) hc rfl rfl rfl ?_
      refine wi_go hc rfl ?_
      have h9 : i ≠ p := fun q => by subst q; exact h1_ hp
      exact ih (by omega) (by omega)
  exact loop2_ 0 (by omega) (by omega)
theorem sh_157 {d L t : Nat} {s l : Nat → Int → Int} {A T : Int → Int} (hA : s 599 = A) (hK : KA A T) {b : Int} (h0 : 0 ≤ b) (h1 : b < A 0) (hw : A (46 + 6 * b + 5) ≤ 2) : mm_Ev mm_ct mm_CM (d + 2) 157 [.ref 598, .int (iI b)] (MX L t s l) (some (.int (iI (placeP A b))), MX L t s l) := by
  subst hA
  obtain ⟨p0, p1, p2⟩ := placeP_ok hK.2.1 h0 h1 hw
  have g := (hK.2.1.2.2.2.2 b h0 h1).1
  have g0 := hK.2.1.1
  have gm := hK.2.1.2.1 _ g.1 (by omega)
  refine sh_157q h0 (by omega) g.1 hw p0 (by omega) (fun q q0 q1 => ?_) p2 (fun q q0 q1 h => ?_)
  · have := hK.2.1.2.2.1 _ q g.1 (by omega) q0 (by omega)
    exact ⟨by omega, by omega⟩
  · exact hK.2.1.2.2.2.1 _ q _ g.1 (by omega) q0 q1 p1 (by rw [h, p2])
def twR (A T : Int → Int) (v : Int) : (Int → Int) × Int := if v = 1 then fallAll (set1 A 2 1) T 3 else (set1 A 2 0, 0)
theorem sp_94 {d L t : Nat} {s l : Nat → Int → Int} {A T : Int → Int} (hJ : JC s A T) (hVA : VA A T) {x p : Int} (hx : rI x) (hp : rI p) : ∃ s1, mm_Ev mm_ct mm_CM (d + 3) 94 [.ref 0, .int (iI x), .int (iI p)] (MX L t s l) (some (.int (iI (nudgeR A x p).2)), MX L t s1 l) ∧ (∀ c, ¬ (1 ≤ c ∧ c ≤ 288) ∧ c ≠ 578 ∧ c ≠ 579 → s1 c = s c) ∧ JC s1 (nudgeR A x p).1 T := by
  have hc : (mm_CM 94).2.2.2.2.2.2.2 = mm_cf cd_94 := by rw [cm_94]; rfl
  refine ev_xs ?_
  refine ev_to (mx := 4) (by rw [cm_94]; decide) (by rw [cm_94]; rfl) (by show 3 ≤ _; decide) ?_
  show mm_wp _ _ (0, [some (.ref 0), some (.int (iI x)), some (.int (iI p)), none], [], MX L t s l) (fun res => ∃ s1, res = (some (.int (iI (nudgeR A x p).2)), MX L t s1 l) ∧ (∀ c, ¬ (1 ≤ c ∧ c ≤ 288) ∧ c ≠ 578 ∧ c ≠ 579 → s1 c = s c) ∧ JC s1 (nudgeR A x p).1 T)
  have hK := hVA.K
  have h2v := hK.1.2.1
  have hB := hK.2.1
  have hR9 := hK.2.2.1
  have g0 := hB.1
  have h7 := hR9.2.2.1
  have hbk : ∀ k, k < 154 → k ≠ 7 → keepF A k = A k := fun k a b => keep_bk hVA a b
  have kv := keep_VA hVA
  refine wi_a1 hc rfl rfl ?_
  refine wi_gr (w := 1) hc rfl rfl (by decide) (Nat.le_of_ble_eq_true rfl) rfl ?_
  refine wi_gr (w := 2) hc rfl rfl (by decide) (Nat.le_of_ble_eq_true rfl) rfl ?_
  refine wi_as1 (L' := [some (.ref 0), some (.int (iI x)), some (.int (iI p)), some (.ref 2)]) hc rfl (Nat.le_of_ble_eq_true rfl) rfl ?_
  refine wi_i1 hc rfl rfl ?_
  refine wp_cs (As := [.int (iI x)]) (r := []) hc rfl (by rw [cm_125]; rfl) rfl (Nat.le_of_ble_eq_true rfl) (ev_mono (sp_125 (d := 0) hx) (by omega)) ?_
  show mm_wp _ _ (12, [some (.ref 0), some (.int (iI x)), some (.int (iI p)), some (.ref 2)], [.int (iI (bI (0 ≤ x ∧ x ≤ 2)))], MX L t s l) _
  refine wi_beq hc rfl (fun h1_ => ?_) (fun h1_ => ?_)
  · refine wi_ic hc rfl ?_
    refine wi_ri hc rfl (by rw [cm_94]; rfl) ?_
    have hR : nudgeR A x p = (A, (-1)) := by
      unfold nudgeR
      rw [if_neg (by omega)]
    rw [hR]
    exact ⟨s, rfl, fun c _ => rfl, hJ⟩
  · have gm := hB.2.1 x (by omega) (by omega)
    have hkm := hbk (13 + x) (by omega) (by omega)
    refine wi_a1 hc rfl rfl ?_
    refine wi_i1 hc rfl rfl ?_
    refine wi_i1 hc rfl rfl ?_
    refine wp_cv (b := 2) (As := [.int (iI x), .int (iI p)]) (r := []) hc rfl (by rw [cm_69]; rfl) rfl (Nat.le_of_ble_eq_true rfl) (show 2 < 621 by decide) (by rw [cm_69]; rfl) (ev_mono (sp_69 (d := 0) hJ.1 hK (x := x) (p := p) (by omega) (by omega) hp) (by omega)) ?_
    show mm_wp _ _ (21, [some (.ref 0), some (.int (iI x)), some (.int (iI p)), some (.ref 2)], [.int (iI (bI (0 ≤ p ∧ p < A (13 + x) - 1)))], MX L t s l) _
    refine wi_bne hc rfl (fun h2_ => ?_) (fun h2_ => ?_)
    · refine wi_a1 hc rfl rfl ?_
      refine wi_gr (w := 1) hc rfl rfl (by decide) (Nat.le_of_ble_eq_true rfl) rfl ?_
      obtain ⟨s1_, hE1_, hF1_, hL1_⟩ := sp_11 (d := 0) (L := L) (t := t) (l := l) hJ.1 hVA
      refine wp_cv (b := 1) (As := []) (r := []) hc rfl (by rw [cm_11]; rfl) rfl (Nat.le_of_ble_eq_true rfl) (show 1 < 621 by decide) (by rw [cm_11]; rfl) (ev_mono hE1_ (by omega)) ?_
      have hJ1_ : JC s1_ (keepF A) T := ⟨hL1_, by rw [hF1_ 578 (by omega)]; exact hJ.2⟩
      have hK1_ : KA (keepF A) T := (keep_ok hVA).1
      show mm_wp _ _ (33, [some (.ref 0), some (.int (iI x)), some (.int (iI p)), some (.ref 2)], [], MX L t s1_ l) _
      refine wi_a1 hc rfl rfl ?_
      refine wi_i1 hc rfl rfl ?_
      refine wi_i1 hc rfl rfl ?_
      obtain ⟨s2_, hE2_, hF2_, hL2_⟩ := sp_71 (d := 0) (L := L) (t := t) (l := l) hJ1_.1 hK1_ (x := x) (p := p) (by omega) (by omega) (by omega) (by omega)
      refine wp_cv (b := 2) (As := [.int (iI x), .int (iI p)]) (r := []) hc rfl (by rw [cm_71]; rfl) rfl (Nat.le_of_ble_eq_true rfl) (show 2 < 621 by decide) (by rw [cm_71]; rfl) (ev_mono hE2_ (by omega)) ?_
      have hJ2_ : JC s2_ (exF (keepF A) x p) T := ⟨hL2_, by rw [hF2_ 578 (by omega)]; exact hJ1_.2⟩
      have hK2_ : KA (exF (keepF A) x p) T := (mv_ex (by omega) (by omega) (by omega) (by omega)).KA hK1_ (ex_ok hK1_.2.1 (by omega) (by omega) (by omega) (by omega))
      show mm_wp _ _ (39, [some (.ref 0), some (.int (iI x)), some (.int (iI p)), some (.ref 2)], [], MX L t s2_ l) _
      refine wi_a1 hc rfl rfl ?_
      refine wi_i1 hc rfl rfl ?_
      refine wi_i1 hc rfl rfl ?_
      refine wp_cv (b := 2) (As := [.int (iI x), .int (iI p)]) (r := []) hc rfl (by rw [cm_68]; rfl) rfl (Nat.le_of_ble_eq_true rfl) (show 2 < 621 by decide) (by rw [cm_68]; rfl) (ev_mono (sp_68 (d := 0) hJ2_.1 hK2_ (x := x) (p := p) (by omega) (by omega) hp) (by omega)) ?_
      show mm_wp _ _ (45, [some (.ref 0), some (.int (iI x)), some (.int (iI p)), some (.ref 2)], [.int (iI (if 0 ≤ p ∧ p < (exF (keepF A) x p) (13 + x) then (exF (keepF A) x p) (16 + 10 * x + p) else -1))], MX L t s2_ l) _
      refine wi_ri hc rfl (by rw [cm_94]; rfl) ?_
      have hR : nudgeR A x p = (exF (keepF A) x p, if 0 ≤ p ∧ p < (exF (keepF A) x p) (13 + x) then (exF (keepF A) x p) (16 + 10 * x + p) else -1) := by
        unfold nudgeR
        rw [if_pos (by omega), if_pos ⟨by omega, by rw [ex_else (by omega) (by omega) (by omega) (by omega) (by omega), hbk _ (by omega) (by omega)]; omega⟩]
      rw [hR]
      exact ⟨s2_, rfl, fun c hc9_ => (hF2_ c (by omega)).trans (hF1_ c (by omega)), hJ2_⟩
    · refine wi_ic hc rfl ?_
      refine wi_ri hc rfl (by rw [cm_94]; rfl) ?_
      have hR : nudgeR A x p = (A, (-1)) := by
        unfold nudgeR
        rw [if_neg (by omega)]
      rw [hR]
      exact ⟨s, rfl, fun c _ => rfl, hJ⟩
theorem sp_227 {d L t : Nat} {s l : Nat → Int → Int} {A T : Int → Int} (hJ : JM s A T) (hVA : VA A T) {x p : Int} (hx : rI x) (hp : rI p) : ∃ s1 l1, mm_Ev mm_ct mm_CM (d + 3) 227 [.ref 598, .int (iI x), .int (iI p)] (MX L t s l) (some (.int (iI (nudgeR A x p).2)), MX L t s1 l1) ∧ (∀ c, c ≠ 598 ∧ c ≠ 599 ∧ c ≠ 604 ∧ c ≠ 606 → s1 c = s c) ∧ (∀ c, c ≠ 605 → l1 c = l c) ∧ (∀ k, k ≠ 25 → s1 598 k = s 598 k) ∧ JM s1 (nudgeR A x p).1 T := by
  have hc : (mm_CM 227).2.2.2.2.2.2.2 = mm_cf cd_227 := by rw [cm_227]; rfl
  refine ev_xsl ?_
  refine ev_to (mx := 3) (by rw [cm_227]; decide) (by rw [cm_227]; rfl) (by show 3 ≤ _; decide) ?_
  show mm_wp _ _ (0, [some (.ref 598), some (.int (iI x)), some (.int (iI p))], [], MX L t s l) (fun res => ∃ s1 l1, res = (some (.int (iI (nudgeR A x p).2)), MX L t s1 l1) ∧ (∀ c, c ≠ 598 ∧ c ≠ 599 ∧ c ≠ 604 ∧ c ≠ 606 → s1 c = s c) ∧ (∀ c, c ≠ 605 → l1 c = l c) ∧ (∀ k, k ≠ 25 → s1 598 k = s 598 k) ∧ JM s1 (nudgeR A x p).1 T)
  have hK := hVA.K
  have h2v := hK.1.2.1
  have hB := hK.2.1
  have hR9 := hK.2.2.1
  have g0 := hB.1
  have h7 := hR9.2.2.1
  have hbk : ∀ k, k < 154 → k ≠ 7 → keepF A k = A k := fun k a b => keep_bk hVA a b
  have kv := keep_VA hVA
  refine wi_i1 hc rfl rfl ?_
  refine wp_cs (As := [.int (iI x)]) (r := []) hc rfl (by rw [cm_152]; rfl) rfl (Nat.le_of_ble_eq_true rfl) (ev_mono (sp_152 (d := 0) hx) (by omega)) ?_
  show mm_wp _ _ (4, [some (.ref 598), some (.int (iI x)), some (.int (iI p))], [.int (iI (bI (0 ≤ x ∧ x ≤ 2)))], MX L t s l) _
  refine wi_beq hc rfl (fun h1_ => ?_) (fun h1_ => ?_)
  · refine wi_ic hc rfl ?_
    refine wi_ri hc rfl (by rw [cm_227]; rfl) ?_
    have hR : nudgeR A x p = (A, (-1)) := by
      unfold nudgeR
      rw [if_neg (by omega)]
    rw [hR]
    exact ⟨s, l, rfl, fun c _ => rfl, fun c _ => rfl, fun k _ => rfl, hJ⟩
  · have gm := hB.2.1 x (by omega) (by omega)
    have hkm := hbk (13 + x) (by omega) (by omega)
    refine wi_i1 hc rfl rfl ?_
    refine wi_ic hc rfl ?_
    refine wi_a1 hc rfl rfl ?_
    refine wi_gr (w := 599) hc rfl rfl (by decide) (Nat.le_of_ble_eq_true rfl) rfl ?_
    refine wi_bi hc rfl rfl ?_
    refine wi_i1 hc rfl rfl ?_
    refine wi_add hc rfl ?_
    refine wi_ildv (N := 3642) hc rfl rfl (by decide) (by decide) (by omega) (by omega) (v := A (13 + x)) (congrFun (hJ.1) _) ?_
    refine wi_ic hc rfl ?_
    refine wi_sub hc rfl ?_
    refine wp_cs (As := [.int (iI p), .int (iI 0), .int (iI ((A (13 + x)) - 2))]) (r := []) hc rfl (by rw [cm_148]; rfl) rfl (Nat.le_of_ble_eq_true rfl) (ev_mono (sp_148 (d := 0) hp ⟨by decide, by decide⟩ ⟨by omega, by omega⟩) (by omega)) ?_
    show mm_wp _ _ (23, [some (.ref 598), some (.int (iI x)), some (.int (iI p))], [.int (iI (bI (0 ≤ p ∧ p ≤ (A (13 + x)) - 2)))], MX L t s l) _
    refine wi_bne hc rfl (fun h2_ => ?_) (fun h2_ => ?_)
    · refine wi_a1 hc rfl rfl ?_
      obtain ⟨s1_, hE1_, hF1_, hA1_⟩ := sp_214 (d := 0) (L := L) (t := t) (l := l) hJ.1 (by omega) (by omega)
      refine wp_cv (b := 598) (As := []) (r := []) hc rfl (by rw [cm_214]; rfl) rfl (Nat.le_of_ble_eq_true rfl) (show 598 < 621 by decide) (by rw [cm_214]; rfl) (ev_mono hE1_ (by omega)) ?_
      have hJ1_ : JM s1_ (keepF A) T := ⟨hA1_, (hF1_ 601 (by decide)).trans hJ.2.1, by rw [hF1_ 604 (by decide)]; exact hJ.2.2⟩
      have hK1_ : KA (keepF A) T := (keep_ok hVA).1
      show mm_wp _ _ (32, [some (.ref 598), some (.int (iI x)), some (.int (iI p))], [], MX L t s1_ l) _
      refine wi_a1 hc rfl rfl ?_
      refine wi_i1 hc rfl rfl ?_
      refine wi_i1 hc rfl rfl ?_
      obtain ⟨s2_, hE2_, hF2_, hA2_⟩ := sp_219 (d := 0) (L := L) (t := t) (l := l) hJ1_.1 (x := x) (p := p) (by omega) (by omega) (by omega) (by omega)
      refine wp_cv (b := 598) (As := [.int (iI x), .int (iI p)]) (r := []) hc rfl (by rw [cm_219]; rfl) rfl (Nat.le_of_ble_eq_true rfl) (show 598 < 621 by decide) (by rw [cm_219]; rfl) (ev_mono hE2_ (by omega)) ?_
      have hJ2_ : JM s2_ (exF (keepF A) x p) T := ⟨hA2_, (hF2_ 601 (by decide)).trans hJ1_.2.1, by rw [hF2_ 604 (by decide)]; exact hJ1_.2.2⟩
      have hK2_ : KA (exF (keepF A) x p) T := (mv_ex (by omega) (by omega) (by omega) (by omega)).KA hK1_ (ex_ok hK1_.2.1 (by omega) (by omega) (by omega) (by omega))
      show mm_wp _ _ (38, [some (.ref 598), some (.int (iI x)), some (.int (iI p))], [], MX L t s2_ l) _
      refine wi_a1 hc rfl rfl ?_
      refine wi_i1 hc rfl rfl ?_
      refine wi_i1 hc rfl rfl ?_
      refine wp_cv (b := 598) (As := [.int (iI x), .int (iI p)]) (r := []) hc rfl (by rw [cm_155]; rfl) rfl (Nat.le_of_ble_eq_true rfl) (show 598 < 621 by decide) (by rw [cm_155]; rfl) (ev_mono (sg_155 (d := 0) (hJ2_.1) (by omega) (by omega) (by omega) (by omega)) (by omega)) ?_
      show mm_wp _ _ (44, [some (.ref 598), some (.int (iI x)), some (.int (iI p))], [.int (iI ((exF (keepF A) x p) (16 + 10 * x + p)))], MX L t s2_ l) _
      refine wi_ri hc rfl (by rw [cm_227]; rfl) ?_
      have hR : nudgeR A x p = (exF (keepF A) x p, (exF (keepF A) x p) (16 + 10 * x + p)) := by
        unfold nudgeR
        rw [if_pos (by omega)]
      rw [hR]
      exact ⟨s2_, l, rfl, fun c hc9_ => (hF2_ c (by omega)).trans (hF1_ c (by omega)), fun c _ => rfl, fun k _ => congrFun ((hF2_ 598 (by decide)).trans (hF1_ 598 (by decide))) k, hJ2_⟩
    · refine wi_ic hc rfl ?_
      refine wi_ri hc rfl (by rw [cm_227]; rfl) ?_
      have hR : nudgeR A x p = (A, (-1)) := by
        unfold nudgeR
        rw [if_neg (by omega)]
      rw [hR]
      exact ⟨s, l, rfl, fun c _ => rfl, fun c _ => rfl, fun k _ => rfl, hJ⟩
theorem sp_95 {d L t : Nat} {s l : Nat → Int → Int} {A T : Int → Int} (hJ : JC s A T) (hVA : VA A T) {b : Int} (hb : rI b) : ∃ s1, mm_Ev mm_ct mm_CM (d + 3) 95 [.ref 0, .int (iI b)] (MX L t s l) (some (.int (iI (takeR A b).2)), MX L t s1 l) ∧ (∀ c, ¬ (1 ≤ c ∧ c ≤ 288) ∧ c ≠ 578 ∧ c ≠ 579 → s1 c = s c) ∧ JC s1 (takeR A b).1 T := by
  have hc : (mm_CM 95).2.2.2.2.2.2.2 = mm_cf cd_95 := by rw [cm_95]; rfl
  refine ev_xs ?_
  refine ev_to (mx := 3) (by rw [cm_95]; decide) (by rw [cm_95]; rfl) (by show 2 ≤ _; decide) ?_
  show mm_wp _ _ (0, [some (.ref 0), some (.int (iI b)), none], [], MX L t s l) (fun res => ∃ s1, res = (some (.int (iI (takeR A b).2)), MX L t s1 l) ∧ (∀ c, ¬ (1 ≤ c ∧ c ≤ 288) ∧ c ≠ 578 ∧ c ≠ 579 → s1 c = s c) ∧ JC s1 (takeR A b).1 T)
  have hK := hVA.K
  have h2v := hK.1.2.1
  have hB := hK.2.1
  have hR9 := hK.2.2.1
  have g0 := hB.1
  have h7 := hR9.2.2.1
  have hbk : ∀ k, k < 154 → k ≠ 7 → keepF A k = A k := fun k a b => keep_bk hVA a b
  have kv := keep_VA hVA
  refine wi_a1 hc rfl rfl ?_
  refine wi_i1 hc rfl rfl ?_
  refine wp_cv (b := 0) (As := [.int (iI b)]) (r := []) hc rfl (by rw [cm_129]; rfl) rfl (Nat.le_of_ble_eq_true rfl) (show 0 < 621 by decide) (by rw [cm_129]; rfl) (ev_mono (sg_129 (d := 0) hJ.1 hb hK.2.1.1) (by omega)) ?_
  show mm_wp _ _ (5, [some (.ref 0), some (.int (iI b)), none], [.int (iI (bI (0 ≤ b ∧ b < A 0)))], MX L t s l) _
  refine wi_beq hc rfl (fun h1_ => ?_) (fun h1_ => ?_)
  · refine wi_ic hc rfl ?_
    refine wi_ri hc rfl (by rw [cm_95]; rfl) ?_
    have hR : takeR A b = (A, (-1)) := by
      unfold takeR
      rw [if_neg (by omega)]
    rw [hR]
    exact ⟨s, rfl, fun c _ => rfl, hJ⟩
  · have gw := (hB.2.2.2.2 b (by omega) (by omega)).1
    have hkw := hbk (46 + 6 * b + 5) (by omega) (by omega)
    have hk0 := hbk 0 (by omega) (by omega)
    obtain ⟨w, hw⟩ : ∃ q, q = A (46 + 6 * b + 5) := ⟨_, rfl⟩
    rw [← hw] at gw hkw
    refine wi_a1 hc rfl rfl ?_
    refine wi_gr (w := 1) hc rfl rfl (by decide) (Nat.le_of_ble_eq_true rfl) rfl ?_
    refine wi_gr (w := 2) hc rfl rfl (by decide) (Nat.le_of_ble_eq_true rfl) rfl ?_
    refine wi_gr (w := 8) hc rfl rfl (by decide) (Nat.le_of_ble_eq_true rfl) rfl ?_
    refine wi_i1 hc rfl rfl ?_
    refine wi_ildv (N := 10) hc rfl rfl (by decide) (by decide) (by omega) (by omega) (v := w) ((lb_where hJ.1 (by omega) (by omega) (by omega)).trans hw.symm) ?_
    refine wi_ic hc rfl ?_
    refine wi_cne hc rfl ⟨by omega, by omega⟩ ⟨by decide, by decide⟩ (fun h2_ => ?_) (fun h2_ => ?_)
    · refine wi_a1 hc rfl rfl ?_
      refine wi_gr (w := 1) hc rfl rfl (by decide) (Nat.le_of_ble_eq_true rfl) rfl ?_
      refine wi_gr (w := 2) hc rfl rfl (by decide) (Nat.le_of_ble_eq_true rfl) rfl ?_
      refine wi_gr (w := 8) hc rfl rfl (by decide) (Nat.le_of_ble_eq_true rfl) rfl ?_
      refine wi_i1 hc rfl rfl ?_
      refine wi_ildv (N := 10) hc rfl rfl (by decide) (by decide) (by omega) (by omega) (v := w) ((lb_where hJ.1 (by omega) (by omega) (by omega)).trans hw.symm) ?_
      refine wi_is1 (L' := [some (.ref 0), some (.int (iI b)), some (.int (iI w))]) hc rfl (Nat.le_of_ble_eq_true rfl) rfl ?_
      refine wi_a1 hc rfl rfl ?_
      refine wi_gr (w := 1) hc rfl rfl (by decide) (Nat.le_of_ble_eq_true rfl) rfl ?_
      obtain ⟨s1_, hE1_, hF1_, hL1_⟩ := sp_11 (d := 0) (L := L) (t := t) (l := l) hJ.1 hVA
      refine wp_cv (b := 1) (As := []) (r := []) hc rfl (by rw [cm_11]; rfl) rfl (Nat.le_of_ble_eq_true rfl) (show 1 < 621 by decide) (by rw [cm_11]; rfl) (ev_mono hE1_ (by omega)) ?_
      have hJ1_ : JC s1_ (keepF A) T := ⟨hL1_, by rw [hF1_ 578 (by omega)]; exact hJ.2⟩
      have hK1_ : KA (keepF A) T := (keep_ok hVA).1
      show mm_wp _ _ (46, [some (.ref 0), some (.int (iI b)), some (.int (iI w))], [], MX L t s1_ l) _
      refine wi_a1 hc rfl rfl ?_
      refine wi_gr (w := 1) hc rfl rfl (by decide) (Nat.le_of_ble_eq_true rfl) rfl ?_
      refine wi_gr (w := 2) hc rfl rfl (by decide) (Nat.le_of_ble_eq_true rfl) rfl ?_
      refine wi_i1 hc rfl rfl ?_
      refine wi_ic hc rfl ?_
      by_cases hws : w ≤ 2
      · obtain ⟨p0, p1, p2⟩ := placeP_ok hB (b := b) (by omega) (by omega) (by omega)
        have gm := hB.2.1 w (by omega) (by omega)
        have hkm := hbk (13 + w) (by omega) (by omega)
        rw [← hw] at p1 p2
        have hkp := hbk (16 + 10 * w + placeP A b) (by omega) (by omega)
        obtain ⟨s2_, hE2_, hF2_, hL2_⟩ := sp_72 (d := 0) (L := L) (t := t) (l := l) hJ1_.1 hK1_ (b := b) (x := w) (p := placeP A b) (by omega) (by omega) (by omega) (by omega) (by omega) (by omega) (by omega) (by omega) (to := 3) (by omega)
        refine wp_cv (b := 2) (As := [.int (iI b), .int (iI 3)]) (r := []) hc rfl (by rw [cm_72]; rfl) rfl (Nat.le_of_ble_eq_true rfl) (show 2 < 621 by decide) (by rw [cm_72]; rfl) (ev_mono hE2_ (by omega)) ?_
        have hJ2_ : JC s2_ (pullF (keepF A) w (placeP A b) 3) T := ⟨hL2_, by rw [hF2_ 578 (by omega)]; exact hJ1_.2⟩
        have hK2_ : KA (pullF (keepF A) w (placeP A b) 3) T := (mv_pull hK1_.2.1 (by omega) (by omega) (by omega) (by omega)).KA hK1_ (pull_ok hK1_.2.1 (by omega) (by omega) (by omega) (by omega) (by omega))
        show mm_wp _ _ (58, [some (.ref 0), some (.int (iI b)), some (.int (iI w))], [], MX L t s2_ l) _
        refine wi_i1 hc rfl rfl ?_
        refine wi_ri hc rfl (by rw [cm_95]; rfl) ?_
        have hR : takeR A b = (pullF (keepF A) w (placeP A b) 3, w) := by
          unfold takeR
          rw [if_pos (by omega), if_pos (by omega), ← hw]
        rw [hR]
        exact ⟨s2_, rfl, fun c hc9_ => (hF2_ c (by omega)).trans (hF1_ c (by omega)), hJ2_⟩
      · skip
        obtain ⟨s3_, hE3_, hF3_, hL3_⟩ := sp_72o (d := 0) (L := L) (t := t) (l := l) hJ1_.1 hK1_ (b := b) (to := 3) (by omega) (by omega) (by omega) (by omega)
        refine wp_cv (b := 2) (As := [.int (iI b), .int (iI 3)]) (r := []) hc rfl (by rw [cm_72]; rfl) rfl (Nat.le_of_ble_eq_true rfl) (show 2 < 621 by decide) (by rw [cm_72]; rfl) (ev_mono hE3_ (by omega)) ?_
        have hJ3_ : JC s3_ (whF (keepF A) b 3) T := ⟨hL3_, by rw [hF3_ 578 (by omega)]; exact hJ1_.2⟩
        have hK3_ : KA (whF (keepF A) b 3) T := (mv_wh (by omega) (by omega)).KA hK1_ (wh_ok hK1_.2.1 (by omega) (by omega) (by omega) (by omega))
        show mm_wp _ _ (58, [some (.ref 0), some (.int (iI b)), some (.int (iI w))], [], MX L t s3_ l) _
        refine wi_i1 hc rfl rfl ?_
        refine wi_ri hc rfl (by rw [cm_95]; rfl) ?_
        have hR : takeR A b = (whF (keepF A) b 3, w) := by
          unfold takeR
          rw [if_pos (by omega), if_neg (by omega), ← hw]
        rw [hR]
        exact ⟨s3_, rfl, fun c hc9_ => (hF3_ c (by omega)).trans (hF1_ c (by omega)), hJ3_⟩
    · refine wi_ic hc rfl ?_
      refine wi_ri hc rfl (by rw [cm_95]; rfl) ?_
      have hR : takeR A b = (A, (-1)) := by
        unfold takeR
        rw [if_neg (by omega)]
      rw [hR]
      exact ⟨s, rfl, fun c _ => rfl, hJ⟩
theorem sp_228 {d L t : Nat} {s l : Nat → Int → Int} {A T : Int → Int} (hJ : JM s A T) (hVA : VA A T) {b : Int} (hb : rI b) : ∃ s1 l1, mm_Ev mm_ct mm_CM (d + 3) 228 [.ref 598, .int (iI b)] (MX L t s l) (some (.int (iI (takeR A b).2)), MX L t s1 l1) ∧ (∀ c, c ≠ 598 ∧ c ≠ 599 ∧ c ≠ 604 ∧ c ≠ 606 → s1 c = s c) ∧ (∀ c, c ≠ 605 → l1 c = l c) ∧ (∀ k, k ≠ 25 → s1 598 k = s 598 k) ∧ JM s1 (takeR A b).1 T := by
  have hc : (mm_CM 228).2.2.2.2.2.2.2 = mm_cf cd_228 := by rw [cm_228]; rfl
  refine ev_xsl ?_
  refine ev_to (mx := 3) (by rw [cm_228]; decide) (by rw [cm_228]; rfl) (by show 2 ≤ _; decide) ?_
  show mm_wp _ _ (0, [some (.ref 598), some (.int (iI b)), none], [], MX L t s l) (fun res => ∃ s1 l1, res = (some (.int (iI (takeR A b).2)), MX L t s1 l1) ∧ (∀ c, c ≠ 598 ∧ c ≠ 599 ∧ c ≠ 604 ∧ c ≠ 606 → s1 c = s c) ∧ (∀ c, c ≠ 605 → l1 c = l c) ∧ (∀ k, k ≠ 25 → s1 598 k = s 598 k) ∧ JM s1 (takeR A b).1 T)
  have hK := hVA.K
  have h2v := hK.1.2.1
  have hB := hK.2.1
  have hR9 := hK.2.2.1
  have g0 := hB.1
  have h7 := hR9.2.2.1
  have hbk : ∀ k, k < 154 → k ≠ 7 → keepF A k = A k := fun k a b => keep_bk hVA a b
  have kv := keep_VA hVA
  refine wi_a1 hc rfl rfl ?_
  refine wi_i1 hc rfl rfl ?_
  refine wp_cv (b := 598) (As := [.int (iI b)]) (r := []) hc rfl (by rw [cm_151]; rfl) rfl (Nat.le_of_ble_eq_true rfl) (show 598 < 621 by decide) (by rw [cm_151]; rfl) (ev_mono (sg_151 (d := 0) (hJ.1) hb (by omega) (by omega)) (by omega)) ?_
  show mm_wp _ _ (5, [some (.ref 598), some (.int (iI b)), none], [.int (iI (bI (0 ≤ b ∧ b < A 0)))], MX L t s l) _
  refine wi_beq hc rfl (fun h1_ => ?_) (fun h1_ => ?_)
  · refine wi_ic hc rfl ?_
    refine wi_ri hc rfl (by rw [cm_228]; rfl) ?_
    have hR : takeR A b = (A, (-1)) := by
      unfold takeR
      rw [if_neg (by omega)]
    rw [hR]
    exact ⟨s, l, rfl, fun c _ => rfl, fun c _ => rfl, fun k _ => rfl, hJ⟩
  · have gw := (hB.2.2.2.2 b (by omega) (by omega)).1
    have hkw := hbk (46 + 6 * b + 5) (by omega) (by omega)
    have hk0 := hbk 0 (by omega) (by omega)
    obtain ⟨w, hw⟩ : ∃ q, q = A (46 + 6 * b + 5) := ⟨_, rfl⟩
    rw [← hw] at gw hkw
    refine wi_a1 hc rfl rfl ?_
    refine wi_i1 hc rfl rfl ?_
    refine wi_ic hc rfl ?_
    refine wp_cv (b := 598) (As := [.int (iI b), .int (iI 5)]) (r := []) hc rfl (by rw [cm_153]; rfl) rfl (Nat.le_of_ble_eq_true rfl) (show 598 < 621 by decide) (by rw [cm_153]; rfl) (ev_mono (sg_153 (d := 0) hJ.1 (b := b) (w := 5) (by omega) (by omega) (by omega) (by omega)) (by omega)) ?_
    rw [show A (46 + 6 * b + 5) = w from hw.symm]
    show mm_wp _ _ (14, [some (.ref 598), some (.int (iI b)), none], [.int (iI w)], MX L t s l) _
    refine wi_ic hc rfl ?_
    refine wi_cne hc rfl ⟨by omega, by omega⟩ ⟨by decide, by decide⟩ (fun h2_ => ?_) (fun h2_ => ?_)
    · refine wi_a1 hc rfl rfl ?_
      obtain ⟨s1_, hE1_, hF1_, hA1_⟩ := sp_214 (d := 0) (L := L) (t := t) (l := l) hJ.1 (by omega) (by omega)
      refine wp_cv (b := 598) (As := []) (r := []) hc rfl (by rw [cm_214]; rfl) rfl (Nat.le_of_ble_eq_true rfl) (show 598 < 621 by decide) (by rw [cm_214]; rfl) (ev_mono hE1_ (by omega)) ?_
      have hJ1_ : JM s1_ (keepF A) T := ⟨hA1_, (hF1_ 601 (by decide)).trans hJ.2.1, by rw [hF1_ 604 (by decide)]; exact hJ.2.2⟩
      have hK1_ : KA (keepF A) T := (keep_ok hVA).1
      show mm_wp _ _ (24, [some (.ref 598), some (.int (iI b)), none], [], MX L t s1_ l) _
      refine wi_a1 hc rfl rfl ?_
      refine wi_i1 hc rfl rfl ?_
      refine wi_ic hc rfl ?_
      refine wp_cv (b := 598) (As := [.int (iI b), .int (iI 5)]) (r := []) hc rfl (by rw [cm_153]; rfl) rfl (Nat.le_of_ble_eq_true rfl) (show 598 < 621 by decide) (by rw [cm_153]; rfl) (ev_mono (sg_153 (d := 0) hJ1_.1 (b := b) (w := 5) (by omega) (by omega) (by omega) (by omega)) (by omega)) ?_
      rw [show (keepF A) (46 + 6 * b + 5) = w from hkw]
      show mm_wp _ _ (30, [some (.ref 598), some (.int (iI b)), none], [.int (iI w)], MX L t s1_ l) _
      refine wi_is1 (L' := [some (.ref 598), some (.int (iI b)), some (.int (iI w))]) hc rfl (Nat.le_of_ble_eq_true rfl) rfl ?_
      refine wi_i1 hc rfl rfl ?_
      refine wi_ic hc rfl ?_
      refine wi_cge hc rfl ⟨by omega, by omega⟩ ⟨by decide, by decide⟩ (fun h3_ => ?_) (fun h3_ => ?_)
      · refine wi_a1 hc rfl rfl ?_
        refine wi_i1 hc rfl rfl ?_
        refine wi_ic hc rfl ?_
        refine wi_ic hc rfl ?_
        refine wp_cv (b := 598) (As := [.int (iI b), .int (iI 5), .int (iI 3)]) (r := []) hc rfl (by rw [cm_154]; rfl) rfl (Nat.le_of_ble_eq_true rfl) (show 598 < 621 by decide) (by rw [cm_154]; rfl) (ev_mono (sp_154 (d := 0) (L := L) (t := t) (s := s1_) (l := l) (by omega) (by omega) (by omega) (by omega)) (by omega)) ?_
        obtain ⟨s2_, es2_⟩ : ∃ q, q = up s1_ 599 (46 + 6 * b + 5) 3 := ⟨_, rfl⟩
        rw [← es2_]
        have hJw : JM s2_ (whF (keepF A) b 3) T := ⟨by rw [es2_]; funext k; unfold whF; by_cases q : k = 46 + 6 * b + 5; rw [up_e q, if_pos q]; rw [up_k q, if_neg q, hJ1_.1], by rw [es2_, up_cc (by decide)]; exact hJ1_.2.1, by rw [es2_, up_cc (by decide)]; exact hJ1_.2.2⟩
        show mm_wp _ _ (57, [some (.ref 598), some (.int (iI b)), some (.int (iI w))], [], MX L t s2_ l) _
        refine wi_i1 hc rfl rfl ?_
        refine wi_ri hc rfl (by rw [cm_228]; rfl) ?_
        have hR : takeR A b = (whF (keepF A) b 3, w) := by
          unfold takeR
          rw [if_pos (by omega), if_neg (by omega), ← hw]
        rw [hR]
        exact ⟨s2_, l, rfl, fun c hc9_ => ((congrFun es2_ c).trans (up_cc (by omega))).trans (hF1_ c (by omega)), fun c _ => rfl, fun k _ => congrFun (((congrFun es2_ 598).trans (up_cc (by decide))).trans (hF1_ 598 (by decide))) k, hJw⟩
      · refine wi_a1 hc rfl rfl ?_
        refine wi_i1 hc rfl rfl ?_
        refine wi_a1 hc rfl rfl ?_
        refine wi_i1 hc rfl rfl ?_
        obtain ⟨p0, p1, p2⟩ := placeP_ok hB (b := b) (by omega) (by omega) (by omega)
        have gm := hB.2.1 w (by omega) (by omega)
        have hkm := hbk (13 + w) (by omega) (by omega)
        rw [← hw] at p1 p2
        have hkp := hbk (16 + 10 * w + placeP A b) (by omega) (by omega)
        have hpp := keep_place hVA (b := b) (by omega) (by omega) (by omega)
        refine wp_cv (b := 598) (As := [.int (iI b)]) (r := [.int (iI w), .ref 598]) hc rfl (by rw [cm_157]; rfl) rfl (Nat.le_of_ble_eq_true rfl) (show 598 < 621 by decide) (by rw [cm_157]; rfl) (ev_mono (sh_157 (d := 0) hJ1_.1 hK1_ (b := b) (by omega) (by omega) (by omega)) (by omega)) ?_
        rw [hpp]
        show mm_wp _ _ (43, [some (.ref 598), some (.int (iI b)), some (.int (iI w))], [.int (iI (placeP A b)), .int (iI w), .ref 598], MX L t s1_ l) _
        refine wi_ic hc rfl ?_
        obtain ⟨s3_, hE3_, hF3_, hA3_⟩ := sp_217 (d := 0) (L := L) (t := t) (l := l) hJ1_.1 (x := w) (p := placeP A b) (to := 3) (by omega) (by omega) (by omega) (by omega) (hK1_.2.1.2.1 w (by omega) (by omega)).2 (hK1_.2.1.2.2.1 w (placeP A b) (by omega) (by omega) (by omega) (by omega)).1 (by have q1 := (hK1_.2.1.2.2.1 w (placeP A b) (by omega) (by omega) (by omega) (by omega)).2.1; have q2 := hK1_.2.1.1; omega)
        refine wp_cv (b := 598) (As := [.int (iI w), .int (iI (placeP A b)), .int (iI 3)]) (r := []) hc rfl (by rw [cm_217]; rfl) rfl (Nat.le_of_ble_eq_true rfl) (show 598 < 621 by decide) (by rw [cm_217]; rfl) (ev_mono hE3_ (by omega)) ?_
        have hJ3_ : JM s3_ (pullF (keepF A) w (placeP A b) 3) T := ⟨hA3_, (hF3_ 601 (by decide)).trans hJ1_.2.1, by rw [hF3_ 604 (by decide)]; exact hJ1_.2.2⟩
        have hK3_ : KA (pullF (keepF A) w (placeP A b) 3) T := (mv_pull hK1_.2.1 (by omega) (by omega) (by omega) (by omega)).KA hK1_ (pull_ok hK1_.2.1 (by omega) (by omega) (by omega) (by omega) (by omega))
        show mm_wp _ _ (47, [some (.ref 598), some (.int (iI b)), some (.int (iI w))], [], MX L t s3_ l) _
        refine wi_go hc rfl ?_
        refine wi_i1 hc rfl rfl ?_
        refine wi_ri hc rfl (by rw [cm_228]; rfl) ?_
        have hR : takeR A b = (pullF (keepF A) w (placeP A b) 3, w) := by
          unfold takeR
          rw [if_pos (by omega), if_pos (by omega), ← hw]
        rw [hR]
        exact ⟨s3_, l, rfl, fun c hc9_ => (hF3_ c (by omega)).trans (hF1_ c (by omega)), fun c _ => rfl, fun k _ => congrFun ((hF3_ 598 (by decide)).trans (hF1_ 598 (by decide))) k, hJ3_⟩
    · refine wi_ic hc rfl ?_
      refine wi_ri hc rfl (by rw [cm_228]; rfl) ?_
      have hR : takeR A b = (A, (-1)) := by
        unfold takeR
        rw [if_neg (by omega)]
      rw [hR]
      exact ⟨s, l, rfl, fun c _ => rfl, fun c _ => rfl, fun k _ => rfl, hJ⟩
theorem sp_96 {d L t : Nat} {s l : Nat → Int → Int} {A T : Int → Int} (hJ : JC s A T) (hVA : VA A T) {b x p : Int} (hb : rI b) (hx : rI x) (hp : rI p) : ∃ s1, mm_Ev mm_ct mm_CM (d + 5) 96 [.ref 0, .int (iI b), .int (iI x), .int (iI p)] (MX L t s l) (some (.int (iI (putR A T b x p).2)), MX L t s1 l) ∧ (∀ c, ¬ (1 ≤ c ∧ c ≤ 288) ∧ c ≠ 578 ∧ c ≠ 579 → s1 c = s c) ∧ JC s1 (putR A T b x p).1 T := by
  have hc : (mm_CM 96).2.2.2.2.2.2.2 = mm_cf cd_96 := by rw [cm_96]; rfl
  refine ev_xs ?_
  refine ev_to (mx := 5) (by rw [cm_96]; decide) (by rw [cm_96]; rfl) (by show 4 ≤ _; decide) ?_
  show mm_wp _ _ (0, [some (.ref 0), some (.int (iI b)), some (.int (iI x)), some (.int (iI p)), none], [], MX L t s l) (fun res => ∃ s1, res = (some (.int (iI (putR A T b x p).2)), MX L t s1 l) ∧ (∀ c, ¬ (1 ≤ c ∧ c ≤ 288) ∧ c ≠ 578 ∧ c ≠ 579 → s1 c = s c) ∧ JC s1 (putR A T b x p).1 T)
  have hK := hVA.K
  have h2v := hK.1.2.1
  have hB := hK.2.1
  have hR9 := hK.2.2.1
  have g0 := hB.1
  have h7 := hR9.2.2.1
  have hbk : ∀ k, k < 154 → k ≠ 7 → keepF A k = A k := fun k a b => keep_bk hVA a b
  have kv := keep_VA hVA
  refine wi_a1 hc rfl rfl ?_
  refine wi_gr (w := 1) hc rfl rfl (by decide) (Nat.le_of_ble_eq_true rfl) rfl ?_
  refine wi_gr (w := 2) hc rfl rfl (by decide) (Nat.le_of_ble_eq_true rfl) rfl ?_
  refine wi_as2 (L' := [some (.ref 0), some (.int (iI b)), some (.int (iI x)), some (.int (iI p)), some (.ref 2)]) hc rfl (Nat.le_of_ble_eq_true rfl) rfl ?_
  refine wi_a1 hc rfl rfl ?_
  refine wi_i1 hc rfl rfl ?_
  refine wp_cv (b := 0) (As := [.int (iI b)]) (r := []) hc rfl (by rw [cm_129]; rfl) rfl (Nat.le_of_ble_eq_true rfl) (show 0 < 621 by decide) (by rw [cm_129]; rfl) (ev_mono (sg_129 (d := 0) hJ.1 hb hK.2.1.1) (by omega)) ?_
  show mm_wp _ _ (14, [some (.ref 0), some (.int (iI b)), some (.int (iI x)), some (.int (iI p)), some (.ref 2)], [.int (iI (bI (0 ≤ b ∧ b < A 0)))], MX L t s l) _
  refine wi_beq hc rfl (fun h1_ => ?_) (fun h1_ => ?_)
  · refine wi_ic hc rfl ?_
    refine wi_ri hc rfl (by rw [cm_96]; rfl) ?_
    have hR : putR A T b x p = (A, (-1)) := by
      unfold putR
      rw [if_neg (by omega)]
    rw [hR]
    exact ⟨s, rfl, fun c _ => rfl, hJ⟩
  · refine wi_i1 hc rfl rfl ?_
    refine wp_cs (As := [.int (iI x)]) (r := []) hc rfl (by rw [cm_125]; rfl) rfl (Nat.le_of_ble_eq_true rfl) (ev_mono (sp_125 (d := 0) hx) (by omega)) ?_
    show mm_wp _ _ (21, [some (.ref 0), some (.int (iI b)), some (.int (iI x)), some (.int (iI p)), some (.ref 2)], [.int (iI (bI (0 ≤ x ∧ x ≤ 2)))], MX L t s l) _
    refine wi_beq hc rfl (fun h2_ => ?_) (fun h2_ => ?_)
    · refine wi_ic hc rfl ?_
      refine wi_ri hc rfl (by rw [cm_96]; rfl) ?_
      have hR : putR A T b x p = (A, (-1)) := by
        unfold putR
        rw [if_neg (by omega)]
      rw [hR]
      exact ⟨s, rfl, fun c _ => rfl, hJ⟩
    · have gm := hB.2.1 x (by omega) (by omega)
      have hkm := hbk (13 + x) (by omega) (by omega)
      have gw := (hB.2.2.2.2 b (by omega) (by omega)).1
      have hkw := hbk (46 + 6 * b + 5) (by omega) (by omega)
      have hk0 := hbk 0 (by omega) (by omega)
      have hwid := hR9.2.2.2.2.1 x (by omega) (by omega)
      have hfr := fullN_r hK.1 hB (x := x) (by omega) (by omega) (A (13 + x)).toNat (by omega)
      have hfd : fullP A T x = fullN A T x (A (13 + x)).toNat := rfl
      have htk := thickP_r hK.1 (b := b) (by omega) (by omega)
      refine wi_a2 hc rfl rfl ?_
      refine wi_gr (w := 8) hc rfl rfl (by decide) (Nat.le_of_ble_eq_true rfl) rfl ?_
      refine wi_i1 hc rfl rfl ?_
      refine wi_ildv (N := 10) hc rfl rfl (by decide) (by decide) (by omega) (by omega) (v := A (46 + 6 * b + 5)) (lb_where hJ.1 (by omega) (by omega) (by omega)) ?_
      refine wi_ic hc rfl ?_
      refine wi_cge hc rfl ⟨by omega, by omega⟩ ⟨by decide, by decide⟩ (fun h3_ => ?_) (fun h3_ => ?_)
      · refine wi_i1 hc rfl rfl ?_
        refine wi_zlt hc rfl hp (fun h4_ => ?_) (fun h4_ => ?_)
        · refine wi_ic hc rfl ?_
          refine wi_ri hc rfl (by rw [cm_96]; rfl) ?_
          have hR : putR A T b x p = (A, (-1)) := by
            unfold putR
            rw [if_neg (by omega)]
          rw [hR]
          exact ⟨s, rfl, fun c _ => rfl, hJ⟩
        · refine wi_i1 hc rfl rfl ?_
          refine wi_a2 hc rfl rfl ?_
          refine wi_gr (w := 7) hc rfl rfl (by decide) (Nat.le_of_ble_eq_true rfl) rfl ?_
          refine wi_i1 hc rfl rfl ?_
          refine wi_ildv (N := 3) hc rfl rfl (by decide) (by decide) (by omega) (by omega) (v := A (13 + x)) (lb_many hJ.1 (by omega) (by omega)) ?_
          refine wi_cle hc rfl hp ⟨by omega, by omega⟩ (fun h5_ => ?_) (fun h5_ => ?_)
          · refine wi_a1 hc rfl rfl ?_
            refine wi_gr (w := 577) hc rfl rfl (by decide) (Nat.le_of_ble_eq_true rfl) rfl ?_
            refine wi_a1 hc rfl rfl ?_
            refine wi_gr (w := 1) hc rfl rfl (by decide) (Nat.le_of_ble_eq_true rfl) rfl ?_
            refine wi_i1 hc rfl rfl ?_
            obtain ⟨s1_, hE1_, hF1_, hJ1_⟩ := sp_4 (d := 0) (L := L) (t := t) (l := l) hJ hK.1 (x := x) (by omega) (by omega) (hK.2.1.2.1 _ (by omega) (by omega)).1 (hK.2.1.2.1 _ (by omega) (by omega)).2 (fun p p0 p1 => ⟨(hK.2.1.2.2.1 _ p (by omega) (by omega) p0 p1).1, (hK.2.1.2.2.1 _ p (by omega) (by omega) p0 p1).2.1⟩)
            refine wp_cv (b := 577) (As := [.ref 1, .int (iI x)]) (r := []) hc rfl (by rw [cm_4]; rfl) rfl (Nat.le_of_ble_eq_true rfl) (show 577 < 621 by decide) (by rw [cm_4]; rfl) (ev_mono hE1_ (by omega)) ?_
            show mm_wp _ _ (66, [some (.ref 0), some (.int (iI b)), some (.int (iI x)), some (.int (iI p)), some (.ref 2)], [.int (iI (fullP A T x))], MX L t s1_ l) _
            refine wi_a1 hc rfl rfl ?_
            refine wi_gr (w := 577) hc rfl rfl (by decide) (Nat.le_of_ble_eq_true rfl) rfl ?_
            refine wi_a1 hc rfl rfl ?_
            refine wi_gr (w := 1) hc rfl rfl (by decide) (Nat.le_of_ble_eq_true rfl) rfl ?_
            refine wi_i1 hc rfl rfl ?_
            obtain ⟨s2_, hE2_, hF2_, hJ2_⟩ := sp_3 (d := 0) (L := L) (t := t) (l := l) hJ1_ hK.1 (b := b) (by omega) (by omega)
            refine wp_cv (b := 577) (As := [.ref 1, .int (iI b)]) (r := [.int (iI (fullP A T x))]) hc rfl (by rw [cm_3]; rfl) rfl (Nat.le_of_ble_eq_true rfl) (show 577 < 621 by decide) (by rw [cm_3]; rfl) (ev_mono hE2_ (by omega)) ?_
            show mm_wp _ _ (78, [some (.ref 0), some (.int (iI b)), some (.int (iI x)), some (.int (iI p)), some (.ref 2)], [.int (iI (thickP A T b)), .int (iI (fullP A T x))], MX L t s2_ l) _
            refine wi_add hc rfl ?_
            refine wi_a1 hc rfl rfl ?_
            refine wi_gr (w := 1) hc rfl rfl (by decide) (Nat.le_of_ble_eq_true rfl) rfl ?_
            refine wi_gr (w := 11) hc rfl rfl (by decide) (Nat.le_of_ble_eq_true rfl) rfl ?_
            refine wi_i1 hc rfl rfl ?_
            refine wi_ildv (N := 3) hc rfl rfl (by decide) (by decide) (by omega) (by omega) (v := A (10 + x)) (lb_wid hJ2_.1 (by omega) (by omega)) ?_
            refine wi_cle hc rfl ⟨by omega, by omega⟩ ⟨by omega, by omega⟩ (fun h6_ => ?_) (fun h6_ => ?_)
            · have grm := okB_room hB (b := b) (x := x) (by omega) (by omega) (by omega) (by omega) (by omega)
              refine wi_a1 hc rfl rfl ?_
              refine wi_gr (w := 1) hc rfl rfl (by decide) (Nat.le_of_ble_eq_true rfl) rfl ?_
              obtain ⟨s3_, hE3_, hF3_, hL3_⟩ := sp_11 (d := 0) (L := L) (t := t) (l := l) hJ2_.1 hVA
              refine wp_cv (b := 1) (As := []) (r := []) hc rfl (by rw [cm_11]; rfl) rfl (Nat.le_of_ble_eq_true rfl) (show 1 < 621 by decide) (by rw [cm_11]; rfl) (ev_mono hE3_ (by omega)) ?_
              have hJ3_ : JC s3_ (keepF A) T := ⟨hL3_, by rw [hF3_ 578 (by omega)]; exact hJ2_.2⟩
              have hK3_ : KA (keepF A) T := (keep_ok hVA).1
              show mm_wp _ _ (100, [some (.ref 0), some (.int (iI b)), some (.int (iI x)), some (.int (iI p)), some (.ref 2)], [], MX L t s3_ l) _
              refine wi_a2 hc rfl rfl ?_
              refine wi_i1 hc rfl rfl ?_
              refine wi_i1 hc rfl rfl ?_
              refine wi_i1 hc rfl rfl ?_
              obtain ⟨s4_, hE4_, hF4_, hL4_⟩ := sp_73 (d := 0) (L := L) (t := t) (l := l) hJ3_.1 hK3_ (b := b) (x := x) (p := p) (by omega) (by omega) (by omega) (by omega) (by omega) (by omega) (by omega)
              refine wp_cv (b := 2) (As := [.int (iI b), .int (iI x), .int (iI p)]) (r := []) hc rfl (by rw [cm_73]; rfl) rfl (Nat.le_of_ble_eq_true rfl) (show 2 < 621 by decide) (by rw [cm_73]; rfl) (ev_mono hE4_ (by omega)) ?_
              have hJ4_ : JC s4_ (setF (keepF A) b x p) T := ⟨hL4_, by rw [hF4_ 578 (by omega)]; exact hJ3_.2⟩
              have hK4_ : KA (setF (keepF A) b x p) T := (mv_set (by omega) (by omega) (by omega) (by omega) (by omega) (by omega) (by omega)).KA hK3_ (set_ok hK3_.2.1 (by omega) (by omega) (by omega) (by omega) (by omega) (by omega) (by omega) (by omega))
              show mm_wp _ _ (108, [some (.ref 0), some (.int (iI b)), some (.int (iI x)), some (.int (iI p)), some (.ref 2)], [], MX L t s4_ l) _
              refine wi_a2 hc rfl rfl ?_
              refine wi_gr (w := 7) hc rfl rfl (by decide) (Nat.le_of_ble_eq_true rfl) rfl ?_
              refine wi_i1 hc rfl rfl ?_
              refine wi_ildv (N := 3) hc rfl rfl (by decide) (by decide) (by omega) (by omega) (v := (setF (keepF A) b x p) (13 + x)) (lb_many hJ4_.1 (by omega) (by omega)) ?_
              refine wi_ri hc rfl (by rw [cm_96]; rfl) ?_
              have hR : putR A T b x p = (setF (keepF A) b x p, (setF (keepF A) b x p) (13 + x)) := by
                unfold putR
                rw [if_pos (by omega), set_many (by omega) (by omega) (by omega) (by omega) (by omega) (by omega), if_pos rfl, hbk _ (by omega) (by omega)]
              rw [hR]
              exact ⟨s4_, rfl, fun c hc9_ => (hF4_ c (by omega)).trans ((hF3_ c (by omega)).trans ((hF2_ c (by omega)).trans (hF1_ c (by omega)))), hJ4_⟩
            · refine wi_ic hc rfl ?_
              refine wi_ri hc rfl (by rw [cm_96]; rfl) ?_
              have hR : putR A T b x p = (A, (-1)) := by
                unfold putR
                rw [if_neg (by omega)]
              rw [hR]
              exact ⟨s2_, rfl, fun c hc9_ => (hF2_ c (by omega)).trans (hF1_ c (by omega)), hJ2_⟩
          · refine wi_ic hc rfl ?_
            refine wi_ri hc rfl (by rw [cm_96]; rfl) ?_
            have hR : putR A T b x p = (A, (-1)) := by
              unfold putR
              rw [if_neg (by omega)]
            rw [hR]
            exact ⟨s, rfl, fun c _ => rfl, hJ⟩
      · refine wi_ic hc rfl ?_
        refine wi_ri hc rfl (by rw [cm_96]; rfl) ?_
        have hR : putR A T b x p = (A, (-1)) := by
          unfold putR
          rw [if_neg (by omega)]
        rw [hR]
        exact ⟨s, rfl, fun c _ => rfl, hJ⟩
theorem sp_229 {d L t : Nat} {s l : Nat → Int → Int} {A T : Int → Int} (hJ : JM s A T) (hVA : VA A T) {b x p : Int} (hb : rI b) (hx : rI x) (hp : rI p) : ∃ s1 l1, mm_Ev mm_ct mm_CM (d + 6) 229 [.ref 598, .int (iI b), .int (iI x), .int (iI p)] (MX L t s l) (some (.int (iI (putR A T b x p).2)), MX L t s1 l1) ∧ (∀ c, c ≠ 598 ∧ c ≠ 599 ∧ c ≠ 604 ∧ c ≠ 606 → s1 c = s c) ∧ (∀ c, c ≠ 605 → l1 c = l c) ∧ (∀ k, k ≠ 25 → s1 598 k = s 598 k) ∧ JM s1 (putR A T b x p).1 T := by
  have hc : (mm_CM 229).2.2.2.2.2.2.2 = mm_cf cd_229 := by rw [cm_229]; rfl
  refine ev_xsl ?_
  refine ev_to (mx := 4) (by rw [cm_229]; decide) (by rw [cm_229]; rfl) (by show 4 ≤ _; decide) ?_
  show mm_wp _ _ (0, [some (.ref 598), some (.int (iI b)), some (.int (iI x)), some (.int (iI p))], [], MX L t s l) (fun res => ∃ s1 l1, res = (some (.int (iI (putR A T b x p).2)), MX L t s1 l1) ∧ (∀ c, c ≠ 598 ∧ c ≠ 599 ∧ c ≠ 604 ∧ c ≠ 606 → s1 c = s c) ∧ (∀ c, c ≠ 605 → l1 c = l c) ∧ (∀ k, k ≠ 25 → s1 598 k = s 598 k) ∧ JM s1 (putR A T b x p).1 T)
  have hK := hVA.K
  have h2v := hK.1.2.1
  have hB := hK.2.1
  have hR9 := hK.2.2.1
  have g0 := hB.1
  have h7 := hR9.2.2.1
  have hbk : ∀ k, k < 154 → k ≠ 7 → keepF A k = A k := fun k a b => keep_bk hVA a b
  have kv := keep_VA hVA
  refine wi_a1 hc rfl rfl ?_
  refine wi_i1 hc rfl rfl ?_
  refine wp_cv (b := 598) (As := [.int (iI b)]) (r := []) hc rfl (by rw [cm_151]; rfl) rfl (Nat.le_of_ble_eq_true rfl) (show 598 < 621 by decide) (by rw [cm_151]; rfl) (ev_mono (sg_151 (d := 0) (hJ.1) hb (by omega) (by omega)) (by omega)) ?_
  show mm_wp _ _ (5, [some (.ref 598), some (.int (iI b)), some (.int (iI x)), some (.int (iI p))], [.int (iI (bI (0 ≤ b ∧ b < A 0)))], MX L t s l) _
  refine wi_beq hc rfl (fun h1_ => ?_) (fun h1_ => ?_)
  · refine wi_ic hc rfl ?_
    refine wi_ri hc rfl (by rw [cm_229]; rfl) ?_
    have hR : putR A T b x p = (A, (-1)) := by
      unfold putR
      rw [if_neg (by omega)]
    rw [hR]
    exact ⟨s, l, rfl, fun c _ => rfl, fun c _ => rfl, fun k _ => rfl, hJ⟩
  · have gw0 := (hB.2.2.2.2 b (by omega) (by omega)).1
    refine wi_a1 hc rfl rfl ?_
    refine wi_i1 hc rfl rfl ?_
    refine wi_ic hc rfl ?_
    refine wp_cv (b := 598) (As := [.int (iI b), .int (iI 5)]) (r := []) hc rfl (by rw [cm_153]; rfl) rfl (Nat.le_of_ble_eq_true rfl) (show 598 < 621 by decide) (by rw [cm_153]; rfl) (ev_mono (sg_153 (d := 0) (hJ.1) (by omega) (by omega) (by omega) (by omega)) (by omega)) ?_
    show mm_wp _ _ (14, [some (.ref 598), some (.int (iI b)), some (.int (iI x)), some (.int (iI p))], [.int (iI (A (46 + 6 * b + 5)))], MX L t s l) _
    refine wi_ic hc rfl ?_
    refine wi_clt hc rfl ⟨by omega, by omega⟩ ⟨by decide, by decide⟩ (fun h2_ => ?_) (fun h2_ => ?_)
    · refine wi_ic hc rfl ?_
      refine wi_ri hc rfl (by rw [cm_229]; rfl) ?_
      have hR : putR A T b x p = (A, (-1)) := by
        unfold putR
        rw [if_neg (by omega)]
      rw [hR]
      exact ⟨s, l, rfl, fun c _ => rfl, fun c _ => rfl, fun k _ => rfl, hJ⟩
    · refine wi_i1 hc rfl rfl ?_
      refine wp_cs (As := [.int (iI x)]) (r := []) hc rfl (by rw [cm_152]; rfl) rfl (Nat.le_of_ble_eq_true rfl) (ev_mono (sp_152 (d := 0) hx) (by omega)) ?_
      show mm_wp _ _ (22, [some (.ref 598), some (.int (iI b)), some (.int (iI x)), some (.int (iI p))], [.int (iI (bI (0 ≤ x ∧ x ≤ 2)))], MX L t s l) _
      refine wi_beq hc rfl (fun h3_ => ?_) (fun h3_ => ?_)
      · refine wi_ic hc rfl ?_
        refine wi_ri hc rfl (by rw [cm_229]; rfl) ?_
        have hR : putR A T b x p = (A, (-1)) := by
          unfold putR
          rw [if_neg (by omega)]
        rw [hR]
        exact ⟨s, l, rfl, fun c _ => rfl, fun c _ => rfl, fun k _ => rfl, hJ⟩
      · have gm := hB.2.1 x (by omega) (by omega)
        have hkm := hbk (13 + x) (by omega) (by omega)
        have gw := (hB.2.2.2.2 b (by omega) (by omega)).1
        have hkw := hbk (46 + 6 * b + 5) (by omega) (by omega)
        have hk0 := hbk 0 (by omega) (by omega)
        have hwid := hR9.2.2.2.2.1 x (by omega) (by omega)
        have hfr := fullN_r hK.1 hB (x := x) (by omega) (by omega) (A (13 + x)).toNat (by omega)
        have hfd : fullP A T x = fullN A T x (A (13 + x)).toNat := rfl
        have htk := thickP_r hK.1 (b := b) (by omega) (by omega)
        refine wi_i1 hc rfl rfl ?_
        refine wi_ic hc rfl ?_
        refine wi_a1 hc rfl rfl ?_
        refine wi_gr (w := 599) hc rfl rfl (by decide) (Nat.le_of_ble_eq_true rfl) rfl ?_
        refine wi_bi hc rfl rfl ?_
        refine wi_i1 hc rfl rfl ?_
        refine wi_add hc rfl ?_
        refine wi_ildv (N := 3642) hc rfl rfl (by decide) (by decide) (by omega) (by omega) (v := A (13 + x)) (congrFun (hJ.1) _) ?_
        refine wp_cs (As := [.int (iI p), .int (iI 0), .int (iI (A (13 + x)))]) (r := []) hc rfl (by rw [cm_148]; rfl) rfl (Nat.le_of_ble_eq_true rfl) (ev_mono (sp_148 (d := 0) hp ⟨by decide, by decide⟩ ⟨by omega, by omega⟩) (by omega)) ?_
        show mm_wp _ _ (39, [some (.ref 598), some (.int (iI b)), some (.int (iI x)), some (.int (iI p))], [.int (iI (bI (0 ≤ p ∧ p ≤ A (13 + x))))], MX L t s l) _
        refine wi_bne hc rfl (fun h4_ => ?_) (fun h4_ => ?_)
        · refine wi_a1 hc rfl rfl ?_
          refine wi_i1 hc rfl rfl ?_
          obtain ⟨s1_, l1_, hE1_, hF1_, hG1_, hJ1_⟩ := sp_208 (d := 0) (L := L) (t := t) (l := l) hJ hK.1 (x := x) (by omega) (by omega) (hK.2.1.2.1 _ (by omega) (by omega)).1 (hK.2.1.2.1 _ (by omega) (by omega)).2 (fun p p0 p1 => ⟨(hK.2.1.2.2.1 _ p (by omega) (by omega) p0 p1).1, (hK.2.1.2.2.1 _ p (by omega) (by omega) p0 p1).2.1⟩)
          refine wp_cv (b := 598) (As := [.int (iI x)]) (r := []) hc rfl (by rw [cm_208]; rfl) rfl (Nat.le_of_ble_eq_true rfl) (show 598 < 621 by decide) (by rw [cm_208]; rfl) (ev_mono hE1_ (by omega)) ?_
          show mm_wp _ _ (49, [some (.ref 598), some (.int (iI b)), some (.int (iI x)), some (.int (iI p))], [.int (iI (fullP A T x))], MX L t s1_ l1_) _
          refine wi_a1 hc rfl rfl ?_
          refine wi_i1 hc rfl rfl ?_
          obtain ⟨s2_, l2_, hE2_, hF2_, hG2_, hJ2_⟩ := sp_207 (d := 0) (L := L) (t := t) (l := l1_) hJ1_ hK.1 (b := b) (by omega) (by omega)
          refine wp_cv (b := 598) (As := [.int (iI b)]) (r := [.int (iI (fullP A T x))]) hc rfl (by rw [cm_207]; rfl) rfl (Nat.le_of_ble_eq_true rfl) (show 598 < 621 by decide) (by rw [cm_207]; rfl) (ev_mono hE2_ (by omega)) ?_
          show mm_wp _ _ (54, [some (.ref 598), some (.int (iI b)), some (.int (iI x)), some (.int (iI p))], [.int (iI (thickP A T b)), .int (iI (fullP A T x))], MX L t s2_ l2_) _
          refine wi_add hc rfl ?_
          refine wi_a1 hc rfl rfl ?_
          refine wi_gr (w := 599) hc rfl rfl (by decide) (Nat.le_of_ble_eq_true rfl) rfl ?_
          refine wi_bi hc rfl rfl ?_
          refine wi_i1 hc rfl rfl ?_
          refine wi_add hc rfl ?_
          refine wi_ildv (N := 3642) hc rfl rfl (by decide) (by decide) (by omega) (by omega) (v := A (10 + x)) (congrFun (hJ2_.1) _) ?_
          refine wi_cle hc rfl ⟨by omega, by omega⟩ ⟨by omega, by omega⟩ (fun h5_ => ?_) (fun h5_ => ?_)
          · have grm := okB_room hB (b := b) (x := x) (by omega) (by omega) (by omega) (by omega) (by omega)
            refine wi_a1 hc rfl rfl ?_
            obtain ⟨s3_, hE3_, hF3_, hA3_⟩ := sp_214 (d := 0) (L := L) (t := t) (l := l2_) hJ2_.1 (by omega) (by omega)
            refine wp_cv (b := 598) (As := []) (r := []) hc rfl (by rw [cm_214]; rfl) rfl (Nat.le_of_ble_eq_true rfl) (show 598 < 621 by decide) (by rw [cm_214]; rfl) (ev_mono hE3_ (by omega)) ?_
            have hJ3_ : JM s3_ (keepF A) T := ⟨hA3_, (hF3_ 601 (by decide)).trans hJ2_.2.1, by rw [hF3_ 604 (by decide)]; exact hJ2_.2.2⟩
            have hK3_ : KA (keepF A) T := (keep_ok hVA).1
            show mm_wp _ _ (73, [some (.ref 598), some (.int (iI b)), some (.int (iI x)), some (.int (iI p))], [], MX L t s3_ l2_) _
            refine wi_a1 hc rfl rfl ?_
            refine wi_i1 hc rfl rfl ?_
            refine wi_i1 hc rfl rfl ?_
            refine wi_i1 hc rfl rfl ?_
            obtain ⟨s4_, hE4_, hF4_, hA4_⟩ := sp_218 (d := 0) (L := L) (t := t) (l := l2_) hJ3_.1 (b := b) (x := x) (p := p) (by omega) (by omega) (by omega) (by omega) (by omega) (by omega) (by omega)
            refine wp_cv (b := 598) (As := [.int (iI b), .int (iI x), .int (iI p)]) (r := []) hc rfl (by rw [cm_218]; rfl) rfl (Nat.le_of_ble_eq_true rfl) (show 598 < 621 by decide) (by rw [cm_218]; rfl) (ev_mono hE4_ (by omega)) ?_
            have hJ4_ : JM s4_ (setF (keepF A) b x p) T := ⟨hA4_, (hF4_ 601 (by decide)).trans hJ3_.2.1, by rw [hF4_ 604 (by decide)]; exact hJ3_.2.2⟩
            have hK4_ : KA (setF (keepF A) b x p) T := (mv_set (by omega) (by omega) (by omega) (by omega) (by omega) (by omega) (by omega)).KA hK3_ (set_ok hK3_.2.1 (by omega) (by omega) (by omega) (by omega) (by omega) (by omega) (by omega) (by omega))
            show mm_wp _ _ (80, [some (.ref 598), some (.int (iI b)), some (.int (iI x)), some (.int (iI p))], [], MX L t s4_ l2_) _
            refine wi_a1 hc rfl rfl ?_
            refine wi_gr (w := 599) hc rfl rfl (by decide) (Nat.le_of_ble_eq_true rfl) rfl ?_
            refine wi_bi hc rfl rfl ?_
            refine wi_i1 hc rfl rfl ?_
            refine wi_add hc rfl ?_
            refine wi_ildv (N := 3642) hc rfl rfl (by decide) (by decide) (by omega) (by omega) (v := (setF (keepF A) b x p) (13 + x)) (congrFun (hJ4_.1) _) ?_
            refine wi_ri hc rfl (by rw [cm_229]; rfl) ?_
            have hR : putR A T b x p = (setF (keepF A) b x p, (setF (keepF A) b x p) (13 + x)) := by
              unfold putR
              rw [if_pos (by omega), set_many (by omega) (by omega) (by omega) (by omega) (by omega) (by omega), if_pos rfl, hbk _ (by omega) (by omega)]
            rw [hR]
            exact ⟨s4_, l2_, rfl, fun c hc9_ => (hF4_ c (by omega)).trans ((hF3_ c (by omega)).trans ((hF2_ c (by omega)).trans (hF1_ c (by omega)))), fun c hc9_ => (hG2_ c (by omega)).trans (hG1_ c (by omega)), fun k _ => congrFun ((hF4_ 598 (by decide)).trans ((hF3_ 598 (by decide)).trans ((hF2_ 598 (by decide)).trans (hF1_ 598 (by decide))))) k, hJ4_⟩
          · refine wi_ic hc rfl ?_
            refine wi_ri hc rfl (by rw [cm_229]; rfl) ?_
            have hR : putR A T b x p = (A, (-1)) := by
              unfold putR
              rw [if_neg (by omega)]
            rw [hR]
            exact ⟨s2_, l2_, rfl, fun c hc9_ => (hF2_ c (by omega)).trans (hF1_ c (by omega)), fun c hc9_ => (hG2_ c (by omega)).trans (hG1_ c (by omega)), fun k _ => congrFun ((hF2_ 598 (by decide)).trans (hF1_ 598 (by decide))) k, hJ2_⟩
        · refine wi_ic hc rfl ?_
          refine wi_ri hc rfl (by rw [cm_229]; rfl) ?_
          have hR : putR A T b x p = (A, (-1)) := by
            unfold putR
            rw [if_neg (by omega)]
          rw [hR]
          exact ⟨s, l, rfl, fun c _ => rfl, fun c _ => rfl, fun k _ => rfl, hJ⟩
theorem sp_138 {d L t : Nat} {s l : Nat → Int → Int} {A T : Int → Int} (hJ : JC s A T) (hVA : VA A T) {v : Int} (hv : v = 0 ∨ v = 1) : ∃ s1, mm_Ev mm_ct mm_CM (d + 6) 138 [.ref 0, .int (iI v)] (MX L t s l) (some (.int (iI (twR A T v).2)), MX L t s1 l) ∧ (∀ c, c ≠ 2 ∧ ¬ (4 ≤ c ∧ c ≤ 8) ∧ c ≠ 578 ∧ c ≠ 579 → s1 c = s c) ∧ JC s1 (twR A T v).1 T := by
  have hc : (mm_CM 138).2.2.2.2.2.2.2 = mm_cf cd_138 := by rw [cm_138]; rfl
  refine ev_xs ?_
  refine ev_to (mx := 2) (by rw [cm_138]; decide) (by rw [cm_138]; rfl) (by show 2 ≤ _; decide) ?_
  show mm_wp _ _ (0, [some (.ref 0), some (.int (iI v))], [], MX L t s l) (fun res => ∃ s1, res = (some (.int (iI (twR A T v).2)), MX L t s1 l) ∧ (∀ c, c ≠ 2 ∧ ¬ (4 ≤ c ∧ c ≤ 8) ∧ c ≠ 578 ∧ c ≠ 579 → s1 c = s c) ∧ JC s1 (twR A T v).1 T)
  have hK := hVA.K
  have h2v := hK.1.2.1
  have hB := hK.2.1
  have hR9 := hK.2.2.1
  have g0 := hB.1
  have h7 := hR9.2.2.1
  have hbk : ∀ k, k < 154 → k ≠ 7 → keepF A k = A k := fun k a b => keep_bk hVA a b
  have kv := keep_VA hVA
  refine wi_a1 hc rfl rfl ?_
  refine wi_gr (w := 1) hc rfl rfl (by decide) (Nat.le_of_ble_eq_true rfl) rfl ?_
  refine wi_gr (w := 2) hc rfl rfl (by decide) (Nat.le_of_ble_eq_true rfl) rfl ?_
  refine wi_i1 hc rfl rfl ?_
  refine wi_pf (kz := 5) rfl hc rfl rfl (by decide) (Nat.le_of_ble_eq_true rfl) rfl (Nat.le_of_ble_eq_true rfl) (pf_z (by omega)) rfl ?_
  obtain ⟨s1_, es1_⟩ : ∃ q, q = up s 2 5 v := ⟨_, rfl⟩
  rw [← es1_]
  have hJs : JC s1_ (set1 A 2 v) T := ⟨hJ.1.set1 hK (Or.inr (Or.inl rfl)) (fun c _ _ q3 => (congrFun es1_ c).trans (up_cc q3)) (by rw [es1_, up_k (by decide)]) (by rw [es1_, up_e rfl, if_pos rfl]) (by rw [es1_, up_k (by decide), if_neg (by decide)]) (by rw [es1_, up_k (by decide), if_neg (by decide)]), by rw [es1_, up_cc (by decide)]; exact hJ.2⟩
  have hKs : KA (set1 A 2 v) T := set1_KA hK (Or.inr (Or.inl ⟨rfl, hv⟩))
  refine wi_i1 hc rfl rfl ?_
  refine wi_zeq hc rfl ⟨by omega, by omega⟩ (fun h1_ => ?_) (fun h1_ => ?_)
  · refine wi_ic hc rfl ?_
    refine wi_ri hc rfl (by rw [cm_138]; rfl) ?_
    have hR : twR A T v = (set1 A 2 v, 0) := by
      unfold twR
      rw [if_neg (by omega), show v = 0 by omega]
    rw [hR]
    exact ⟨s1_, rfl, fun c hc9_ => (congrFun es1_ c).trans (up_cc (by omega)), hJs⟩
  · refine wi_a1 hc rfl rfl ?_
    obtain ⟨s2_, hE2_, hF2_, hJ2_⟩ := sp_139 (d := 0) (L := L) (t := t) (l := l) hJs hKs
    refine wp_cv (b := 0) (As := []) (r := []) hc rfl (by rw [cm_139]; rfl) rfl (Nat.le_of_ble_eq_true rfl) (show 0 < 621 by decide) (by rw [cm_139]; rfl) (ev_mono hE2_ (by omega)) ?_
    have hfo2_ := fallAll_ok hKs.1 hKs.2.1 (fun x x0 x1 => by have := hKs.2.2.1.2.2.2.2.1 x x0 x1; omega) 3 (by decide)
    have hK2_ : KA (fallAll (set1 A 2 v) T 3).1 T := hfo2_.1.KA hKs hfo2_.2.1
    show mm_wp _ _ (19, [some (.ref 0), some (.int (iI v))], [.int (iI ((fallAll (set1 A 2 v) T 3).2))], MX L t s2_ l) _
    refine wi_go hc rfl ?_
    refine wi_ri hc rfl (by rw [cm_138]; rfl) ?_
    have hR : twR A T v = ((fallAll (set1 A 2 v) T 3).1, (fallAll (set1 A 2 v) T 3).2) := by
      unfold twR
      rw [if_pos (by omega), show v = 1 by omega]
    rw [hR]
    exact ⟨s2_, rfl, fun c hc9_ => (hF2_ c (by omega)).trans ((congrFun es1_ c).trans (up_cc (by omega))), hJ2_⟩
theorem sp_97 {d L t : Nat} {s l : Nat → Int → Int} {A T : Int → Int} (hJ : JC s A T) (hVA : VA A T) {v : Int} (hv : v = 0 ∨ v = 1) : ∃ s1, mm_Ev mm_ct mm_CM (d + 7) 97 [.ref 0, .int (iI v)] (MX L t s l) (some (.int (iI (wetR A T v).2)), MX L t s1 l) ∧ (∀ c, ¬ (1 ≤ c ∧ c ≤ 288) ∧ c ≠ 578 ∧ c ≠ 579 → s1 c = s c) ∧ JC s1 (wetR A T v).1 T := by
  have hc : (mm_CM 97).2.2.2.2.2.2.2 = mm_cf cd_97 := by rw [cm_97]; rfl
  refine ev_xs ?_
  refine ev_to (mx := 2) (by rw [cm_97]; decide) (by rw [cm_97]; rfl) (by show 2 ≤ _; decide) ?_
  show mm_wp _ _ (0, [some (.ref 0), some (.int (iI v))], [], MX L t s l) (fun res => ∃ s1, res = (some (.int (iI (wetR A T v).2)), MX L t s1 l) ∧ (∀ c, ¬ (1 ≤ c ∧ c ≤ 288) ∧ c ≠ 578 ∧ c ≠ 579 → s1 c = s c) ∧ JC s1 (wetR A T v).1 T)
  have hK := hVA.K
  have h2v := hK.1.2.1
  have hB := hK.2.1
  have hR9 := hK.2.2.1
  have g0 := hB.1
  have h7 := hR9.2.2.1
  have hbk : ∀ k, k < 154 → k ≠ 7 → keepF A k = A k := fun k a b => keep_bk hVA a b
  have kv := keep_VA hVA
  refine wi_a1 hc rfl rfl ?_
  refine wi_gr (w := 1) hc rfl rfl (by decide) (Nat.le_of_ble_eq_true rfl) rfl ?_
  refine wi_gr (w := 2) hc rfl rfl (by decide) (Nat.le_of_ble_eq_true rfl) rfl ?_
  refine wi_gfv (kz := 5) rfl hc rfl rfl (by decide) (Nat.le_of_ble_eq_true rfl) rfl (v := A 2) (lb_wet hJ.1) ?_
  refine wi_i1 hc rfl rfl ?_
  refine wi_cne hc rfl ⟨by omega, by omega⟩ ⟨by omega, by omega⟩ (fun h1_ => ?_) (fun h1_ => ?_)
  · refine wi_a1 hc rfl rfl ?_
    refine wi_gr (w := 1) hc rfl rfl (by decide) (Nat.le_of_ble_eq_true rfl) rfl ?_
    obtain ⟨s1_, hE1_, hF1_, hL1_⟩ := sp_11 (d := 0) (L := L) (t := t) (l := l) hJ.1 hVA
    refine wp_cv (b := 1) (As := []) (r := []) hc rfl (by rw [cm_11]; rfl) rfl (Nat.le_of_ble_eq_true rfl) (show 1 < 621 by decide) (by rw [cm_11]; rfl) (ev_mono hE1_ (by omega)) ?_
    have hJ1_ : JC s1_ (keepF A) T := ⟨hL1_, by rw [hF1_ 578 (by omega)]; exact hJ.2⟩
    have hK1_ : KA (keepF A) T := (keep_ok hVA).1
    show mm_wp _ _ (23, [some (.ref 0), some (.int (iI v))], [], MX L t s1_ l) _
    refine wi_a1 hc rfl rfl ?_
    refine wi_i1 hc rfl rfl ?_
    obtain ⟨s2_, hE2_, hF2_, hJ2_⟩ := sp_138 (d := 0) (L := L) (t := t) (l := l) hJ1_ kv (v := v) (by omega)
    refine wp_cv (b := 0) (As := [.int (iI v)]) (r := []) hc rfl (by rw [cm_138]; rfl) rfl (Nat.le_of_ble_eq_true rfl) (show 0 < 621 by decide) (by rw [cm_138]; rfl) (ev_mono hE2_ (by omega)) ?_
    show mm_wp _ _ (28, [some (.ref 0), some (.int (iI v))], [.int (iI ((twR (keepF A) T v).2))], MX L t s2_ l) _
    refine wi_ri hc rfl (by rw [cm_97]; rfl) ?_
    have hR : wetR A T v = ((twR (keepF A) T v).1, (twR (keepF A) T v).2) := by
      unfold wetR twR
      rw [if_neg (by omega)]
    rw [hR]
    exact ⟨s2_, rfl, fun c hc9_ => (hF2_ c (by omega)).trans (hF1_ c (by omega)), hJ2_⟩
  · refine wi_ic hc rfl ?_
    refine wi_ri hc rfl (by rw [cm_97]; rfl) ?_
    have hR : wetR A T v = (A, (-1)) := by
      unfold wetR
      rw [if_pos (by omega)]
    rw [hR]
    exact ⟨s, rfl, fun c _ => rfl, hJ⟩
theorem sp_230 {d L t : Nat} {s l : Nat → Int → Int} {A T : Int → Int} (hJ : JM s A T) (hVA : VA A T) {v : Int} (hv : v = 0 ∨ v = 1) : ∃ s1 l1, mm_Ev mm_ct mm_CM (d + 8) 230 [.ref 598, .int (iI v)] (MX L t s l) (some (.int (iI (wetR A T v).2)), MX L t s1 l1) ∧ (∀ c, c ≠ 598 ∧ c ≠ 599 ∧ c ≠ 604 ∧ c ≠ 606 → s1 c = s c) ∧ (∀ c, c ≠ 605 → l1 c = l c) ∧ (∀ k, k ≠ 25 → s1 598 k = s 598 k) ∧ JM s1 (wetR A T v).1 T := by
  have hc : (mm_CM 230).2.2.2.2.2.2.2 = mm_cf cd_230 := by rw [cm_230]; rfl
  refine ev_xsl ?_
  refine ev_to (mx := 2) (by rw [cm_230]; decide) (by rw [cm_230]; rfl) (by show 2 ≤ _; decide) ?_
  show mm_wp _ _ (0, [some (.ref 598), some (.int (iI v))], [], MX L t s l) (fun res => ∃ s1 l1, res = (some (.int (iI (wetR A T v).2)), MX L t s1 l1) ∧ (∀ c, c ≠ 598 ∧ c ≠ 599 ∧ c ≠ 604 ∧ c ≠ 606 → s1 c = s c) ∧ (∀ c, c ≠ 605 → l1 c = l c) ∧ (∀ k, k ≠ 25 → s1 598 k = s 598 k) ∧ JM s1 (wetR A T v).1 T)
  have hK := hVA.K
  have h2v := hK.1.2.1
  have hB := hK.2.1
  have hR9 := hK.2.2.1
  have g0 := hB.1
  have h7 := hR9.2.2.1
  have hbk : ∀ k, k < 154 → k ≠ 7 → keepF A k = A k := fun k a b => keep_bk hVA a b
  have kv := keep_VA hVA
  refine wi_a1 hc rfl rfl ?_
  refine wi_gr (w := 599) hc rfl rfl (by decide) (Nat.le_of_ble_eq_true rfl) rfl ?_
  refine wi_ic hc rfl ?_
  refine wi_ildv (N := 3642) hc rfl rfl (by decide) (by decide) (by omega) (by omega) (v := A 2) (congrFun (hJ.1) _) ?_
  refine wi_i1 hc rfl rfl ?_
  refine wi_b01 hc rfl rfl rfl rfl (by omega) ?_
  refine wi_cne hc rfl ⟨by omega, by omega⟩ ⟨by omega, by omega⟩ (fun h1_ => ?_) (fun h1_ => ?_)
  · refine wi_a1 hc rfl rfl ?_
    obtain ⟨s1_, hE1_, hF1_, hA1_⟩ := sp_214 (d := 0) (L := L) (t := t) (l := l) hJ.1 (by omega) (by omega)
    refine wp_cv (b := 598) (As := []) (r := []) hc rfl (by rw [cm_214]; rfl) rfl (Nat.le_of_ble_eq_true rfl) (show 598 < 621 by decide) (by rw [cm_214]; rfl) (ev_mono hE1_ (by omega)) ?_
    have hJ1_ : JM s1_ (keepF A) T := ⟨hA1_, (hF1_ 601 (by decide)).trans hJ.2.1, by rw [hF1_ 604 (by decide)]; exact hJ.2.2⟩
    have hK1_ : KA (keepF A) T := (keep_ok hVA).1
    show mm_wp _ _ (24, [some (.ref 598), some (.int (iI v))], [], MX L t s1_ l) _
    refine wi_a1 hc rfl rfl ?_
    refine wi_gr (w := 599) hc rfl rfl (by decide) (Nat.le_of_ble_eq_true rfl) rfl ?_
    refine wi_ic hc rfl ?_
    refine wi_i1 hc rfl rfl ?_
    refine wi_b01 hc rfl rfl rfl rfl (by omega) ?_
    refine wi_ist (N := 3642) hc rfl rfl (by decide) (by decide) (by omega) (by omega) ?_
    obtain ⟨s2_, es2_⟩ : ∃ q, q = up s1_ 599 2 v := ⟨_, rfl⟩
    rw [← es2_]
    have hJs : JM s2_ (set1 (keepF A) 2 v) T := ⟨by rw [es2_]; exact up_set1 hJ1_.1, by rw [es2_, up_cc (by decide)]; exact hJ1_.2.1, by rw [es2_, up_cc (by decide)]; exact hJ1_.2.2⟩
    have hKs : KA (set1 (keepF A) 2 v) T := set1_KA kv.K (Or.inr (Or.inl ⟨rfl, hv⟩))
    refine wi_i1 hc rfl rfl ?_
    refine wi_zeq hc rfl ⟨by omega, by omega⟩ (fun h2_ => ?_) (fun h2_ => ?_)
    · refine wi_ic hc rfl ?_
      refine wi_ri hc rfl (by rw [cm_230]; rfl) ?_
      have hR : wetR A T v = (set1 (keepF A) 2 v, 0) := by
        unfold wetR
        rw [if_neg (by omega), if_neg (by omega), show v = 0 by omega]
      rw [hR]
      exact ⟨s2_, l, rfl, fun c hc9_ => ((congrFun es2_ c).trans (up_cc (by omega))).trans (hF1_ c (by omega)), fun c _ => rfl, fun k _ => congrFun (((congrFun es2_ 598).trans (up_cc (by decide))).trans (hF1_ 598 (by decide))) k, hJs⟩
    · refine wi_a1 hc rfl rfl ?_
      obtain ⟨s3_, l3_, hE3_, hF3_, hG3_, hJ3_⟩ := sp_224 (d := 0) (L := L) (t := t) (l := l) hJs hKs
      refine wp_cv (b := 598) (As := []) (r := []) hc rfl (by rw [cm_224]; rfl) rfl (Nat.le_of_ble_eq_true rfl) (show 598 < 621 by decide) (by rw [cm_224]; rfl) (ev_mono hE3_ (by omega)) ?_
      have hfo3_ := fallAll_ok hKs.1 hKs.2.1 (fun x x0 x1 => by have := hKs.2.2.1.2.2.2.2.1 x x0 x1; omega) 3 (by decide)
      have hK3_ : KA (fallAll (set1 (keepF A) 2 v) T 3).1 T := hfo3_.1.KA hKs hfo3_.2.1
      show mm_wp _ _ (47, [some (.ref 598), some (.int (iI v))], [.int (iI ((fallAll (set1 (keepF A) 2 v) T 3).2))], MX L t s3_ l3_) _
      refine wi_go hc rfl ?_
      refine wi_ri hc rfl (by rw [cm_230]; rfl) ?_
      have hR : wetR A T v = ((fallAll (set1 (keepF A) 2 v) T 3).1, (fallAll (set1 (keepF A) 2 v) T 3).2) := by
        unfold wetR
        rw [if_neg (by omega), if_pos (by omega), show v = 1 by omega]
      rw [hR]
      exact ⟨s3_, l3_, rfl, fun c hc9_ => (hF3_ c (by omega)).trans (((congrFun es2_ c).trans (up_cc (by omega))).trans (hF1_ c (by omega))), fun c hc9_ => hG3_ c (by omega), fun k _ => congrFun ((hF3_ 598 (by decide)).trans (((congrFun es2_ 598).trans (up_cc (by decide))).trans (hF1_ 598 (by decide)))) k, hJ3_⟩
  · refine wi_ic hc rfl ?_
    refine wi_ri hc rfl (by rw [cm_230]; rfl) ?_
    have hR : wetR A T v = (A, (-1)) := by
      unfold wetR
      rw [if_pos (by omega)]
    rw [hR]
    exact ⟨s, l, rfl, fun c _ => rfl, fun c _ => rfl, fun k _ => rfl, hJ⟩
theorem sp_12n {d L t : Nat} {s l : Nat → Int → Int} {A T : Int → Int} (hL : LB 0 s A T) (h71 : A 7 = 0) : mm_Ev mm_ct mm_CM (d + 2) 12 [.ref 1] (MX L t s l) (some (.int (iI (-1))), MX L t s l) := by
  have hc : (mm_CM 12).2.2.2.2.2.2.2 = mm_cf cd_12 := by rw [cm_12]; rfl
  refine ev_of (mx := 1) (by rw [cm_12]; decide) (by rw [cm_12]; rfl) (by show 1 ≤ _; decide) ?_
  show mm_wp _ _ (0, [some (.ref 1)], [], MX L t s l) (fun r => r = (some (.int (iI (-1))), MX L t s l))
  refine wi_a1 hc rfl rfl ?_
  refine wi_gfv (kz := 7) rfl hc rfl rfl (by decide) (Nat.le_of_ble_eq_true rfl) rfl (v := A 7) (lb_sc hL) ?_
  refine wi_ic hc rfl ?_
  refine wi_cge hc rfl ⟨by omega, by omega⟩ ⟨by decide, by decide⟩ (fun h1_ => (by exfalso; omega)) (fun h1_ => ?_)
  refine wi_ic hc rfl ?_
  refine wi_ri hc rfl (by rw [cm_12]; rfl) ?_
  rfl
theorem sp_100 {d L t : Nat} {s l : Nat → Int → Int} {A T : Int → Int} (hJ : JC s A T) (hVA : VA A T)  : ∃ s1, mm_Ev mm_ct mm_CM (d + 3) 100 [.ref 0] (MX L t s l) (some (.int (iI (undoR A).2)), MX L t s1 l) ∧ (∀ c, ¬ (1 ≤ c ∧ c ≤ 288) ∧ c ≠ 578 ∧ c ≠ 579 → s1 c = s c) ∧ JC s1 (undoR A).1 T := by
  have hc : (mm_CM 100).2.2.2.2.2.2.2 = mm_cf cd_100 := by rw [cm_100]; rfl
  refine ev_xs ?_
  refine ev_to (mx := 1) (by rw [cm_100]; decide) (by rw [cm_100]; rfl) (by show 1 ≤ _; decide) ?_
  show mm_wp _ _ (0, [some (.ref 0)], [], MX L t s l) (fun res => ∃ s1, res = (some (.int (iI (undoR A).2)), MX L t s1 l) ∧ (∀ c, ¬ (1 ≤ c ∧ c ≤ 288) ∧ c ≠ 578 ∧ c ≠ 579 → s1 c = s c) ∧ JC s1 (undoR A).1 T)
  have hK := hVA.K
  have h2v := hK.1.2.1
  have hB := hK.2.1
  have hR9 := hK.2.2.1
  have g0 := hB.1
  have h7 := hR9.2.2.1
  have hbk : ∀ k, k < 154 → k ≠ 7 → keepF A k = A k := fun k a b => keep_bk hVA a b
  have kv := keep_VA hVA
  refine wi_a1 hc rfl rfl ?_
  refine wi_gr (w := 1) hc rfl rfl (by decide) (Nat.le_of_ble_eq_true rfl) rfl ?_
  by_cases h71 : A 7 = 0
  · refine wp_cv (b := 1) (As := []) (r := []) hc rfl (by rw [cm_12]; rfl) rfl (Nat.le_of_ble_eq_true rfl) (show 1 < 621 by decide) (by rw [cm_12]; rfl) (ev_mono (sp_12n (d := 0) hJ.1 h71) (by omega)) ?_
    show mm_wp _ _ (7, [some (.ref 0)], [.int (iI (-1))], MX L t s l) _
    refine wi_ri hc rfl (by rw [cm_100]; rfl) ?_
    have hR : undoR A = (A, (-1)) := by
      unfold undoR
      rw [if_pos (by omega)]
    rw [hR]
    exact ⟨s, rfl, fun c _ => rfl, hJ⟩
  · obtain ⟨s1_, hE1_, hF1_, hL1_⟩ := sp_12 (d := 0) (L := L) (t := t) (l := l) hJ.1 hVA (by omega)
    refine wp_cv (b := 1) (As := []) (r := []) hc rfl (by rw [cm_12]; rfl) rfl (Nat.le_of_ble_eq_true rfl) (show 1 < 621 by decide) (by rw [cm_12]; rfl) (ev_mono hE1_ (by omega)) ?_
    have hJ1_ : JC s1_ (undoF A) T := ⟨hL1_, by rw [hF1_ 578 (by omega)]; exact hJ.2⟩
    show mm_wp _ _ (7, [some (.ref 0)], [.int (iI (A 7 - 1))], MX L t s1_ l) _
    refine wi_ri hc rfl (by rw [cm_100]; rfl) ?_
    have hR : undoR A = (undoF A, A 7 - 1) := by
      unfold undoR
      rw [if_neg (by omega)]
    rw [hR]
    exact ⟨s1_, rfl, fun c hc9_ => hF1_ c (by omega), hJ1_⟩
theorem sp_215n {d L t : Nat} {s l : Nat → Int → Int} {A T : Int → Int} (hJ : JM s A T) (hVA : VA A T) (h70 : A 7 = 0) : mm_Ev mm_ct mm_CM (d + 2) 215 [.ref 598] (MX L t s l) (some (.int (iI (-1))), MX L t s l) := by
  have hc : (mm_CM 215).2.2.2.2.2.2.2 = mm_cf cd_215 := by rw [cm_215]; rfl
  refine ev_of (mx := 3) (by rw [cm_215]; decide) (by rw [cm_215]; rfl) (by show 1 ≤ _; decide) ?_
  show mm_wp _ _ (0, [some (.ref 598), none, none], [], MX L t s l) (fun r => r = (some (.int (iI (-1))), MX L t s l))
  have hK := hVA.K
  have h2v := hK.1.2.1
  have hB := hK.2.1
  have hR9 := hK.2.2.1
  have g0 := hB.1
  have h7 := hR9.2.2.1
  have hbk : ∀ k, k < 154 → k ≠ 7 → keepF A k = A k := fun k a b => keep_bk hVA a b
  have kv := keep_VA hVA
  refine wi_a1 hc rfl rfl ?_
  refine wi_gr (w := 599) hc rfl rfl (by decide) (Nat.le_of_ble_eq_true rfl) rfl ?_
  refine wi_bi hc rfl rfl ?_
  refine wi_ildv (N := 3642) hc rfl rfl (by decide) (by decide) (by omega) (by omega) (v := A 7) (congrFun (hJ.1) _) ?_
  refine wi_zne hc rfl ⟨by omega, by omega⟩ (fun h1_ => (by exfalso; omega)) (fun h1_ => ?_)
  refine wi_ic hc rfl ?_
  refine wi_ri hc rfl (by rw [cm_215]; rfl) ?_
  rfl
theorem sm_215 {d L t : Nat} {s l : Nat → Int → Int} {A T : Int → Int} (hJ : JM s A T) (hVA : VA A T) : ∃ s1 l1, mm_Ev mm_ct mm_CM (d + 2) 215 [.ref 598] (MX L t s l) (some (.int (iI (undoR A).2)), MX L t s1 l1) ∧ (∀ c, c ≠ 598 ∧ c ≠ 599 ∧ c ≠ 604 ∧ c ≠ 606 → s1 c = s c) ∧ (∀ c, c ≠ 605 → l1 c = l c) ∧ (∀ k, k ≠ 25 → s1 598 k = s 598 k) ∧ JM s1 (undoR A).1 T := by
  have h7 := hVA.2.2.1.2.2.1
  by_cases h : A 7 = 0
  · have hR : undoR A = (A, -1) := by unfold undoR; rw [if_pos h]
    rw [hR]
    exact ⟨s, l, ev_mono (sp_215n (d := 0) hJ hVA h) (by omega), fun c _ => rfl, fun c _ => rfl, fun k _ => rfl, hJ⟩
  · have hR : undoR A = (undoF A, A 7 - 1) := by unfold undoR; rw [if_neg h]
    rw [hR]
    have g := hVA.2.2.2.1 (A 7 - 1) (by omega) (by omega)
    have e : stp A (A 7 - 1) 0 = A (154 + 48 * (A 7 - 1)) := by unfold stp; congr 1; omega
    obtain ⟨s1, a, b, c⟩ := sp_215 (d := 0) (L := L) (t := t) (l := l) hJ.1 (by omega) (by omega) hVA.2.1.1 (by rw [← e]; exact ⟨g.1.1.1, g.1.1.2⟩)
    exact ⟨s1, l, ev_mono a (by omega), fun k hk => b k (by omega), fun k _ => rfl, fun k _ => congrFun (b 598 (by decide)) k, c, (b 601 (by decide)).trans hJ.2.1, by rw [b 604 (by decide)]; exact hJ.2.2⟩
