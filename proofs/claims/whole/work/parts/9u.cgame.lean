/-! The class's GAME. -/
theorem inS.mv {set n p : Int} {f : Int → Int} (h : inS set f n) (hp : p = -1 ∨ (0 ≤ p ∧ p + 1 < n)) : inS set (mvF f p) n := fun q a b => mvF_all (P := fun v => (0 ≤ v ∧ v < 10) ∧ set / 2 ^ v.toNat % 2 = 1) h hp q a b
theorem RW.mv {e n p : Int} {f : Int → Int} (h : RW e f n) (p0 : 0 ≤ p) (p1 : p + 1 < n) (n1 : n ≤ 10) : RW (swpI e p) (mvF f p) n := by
  refine ⟨swpI_r h.1.1 h.1.2 p0 (by omega), fun q q0 q1 => ?_⟩
  have e1 := h.2 (p + 1) (by omega) (by omega)
  rw [if_pos p1] at e1
  have e2 := h.2 p p0 (by omega)
  rw [if_pos (by omega)] at e2
  have e3 := h.2 q q0 q1
  rw [swpI_nb h.1.1 p0 q0, e1, e2, e3]
  unfold mvF
  rw [if_neg (show ¬ p = -1 by omega)]
  by_cases a : q = p
  · rw [if_pos a, if_pos a, if_pos (show q < n by omega)]
  · rw [if_neg a, if_neg a]
    by_cases b : q = p + 1
    · rw [if_pos b, if_pos b, if_pos (show q < n by omega)]
    · rw [if_neg b, if_neg b]
theorem sp_29 {d L t : Nat} {s l : Nat → Int → Int} {c : Int → Int → Int} {f : Int → Int} {n set : Int} (hC : CHc s c set) (h01 : ∀ x y, c x y = 0 ∨ c x y = 1) (hi : inS set f n) (n0 : 0 ≤ n) (n1 : n ≤ 10) {p k : Int} (hp : p = -1 ∨ (0 ≤ p ∧ p + 1 < n)) : mm_Ev mm_ct mm_CM (d + 5) 29 [.ref 590, .long (lI (rwE f n)), .int (iI n), .int (iI p), .int (iI k)] (MX L t s l) (some (.long (lI (rwE (nF c n (k % 2) (mvF f p)) n))), MX L t s l) := by
  have hc : (mm_CM 29).2.2.2.2.2.2.2 = mm_cf cd_29 := by rw [cm_29]; rfl
  refine ev_of (mx := 6) (by rw [cm_29]; decide) (by rw [cm_29]; rfl) (by show 6 ≤ _; decide) ?_
  show mm_wp _ _ (0, [some (.ref 590), some (.long (lI (rwE f n))), none, some (.int (iI n)), some (.int (iI p)), some (.int (iI k))], [], MX L t s l) (fun r => r = (some (.long (lI (rwE (nF c n (k % 2) (mvF f p)) n))), MX L t s l))
  have hre := (rwE_ok n0 n1 hi.r16).1
  refine wi_a1 hc rfl rfl ?_
  refine wi_i2 hc rfl rfl ?_
  refine wi_ic hc rfl ?_
  refine wi_cne hc rfl ⟨by omega, by omega⟩ ⟨by decide, by decide⟩ (fun h1_ => ?_) (fun h1_ => ?_)
  · refine wi_l1 hc rfl rfl ?_
    refine wi_i2 hc rfl rfl ?_
    refine wp_cs (As := [.long (lI (rwE f n)), .int (iI p)]) (r := [.ref 590]) hc rfl (by rw [cm_19]; rfl) rfl (Nat.le_of_ble_eq_true rfl) (ev_mono (sp_19 (d := 0) (by omega) (by omega) (by omega) (by omega)) (by omega)) ?_
    show mm_wp _ _ (17, [some (.ref 590), some (.long (lI (rwE f n))), none, some (.int (iI n)), some (.int (iI p)), some (.int (iI k))], [.long (lI (swpI (rwE f n) p)), .ref 590], MX L t s l) _
    have e9 : swpI (rwE f n) p = rwE (mvF f p) n := by
      exact ((rwE_ok n0 n1 hi.r16).mv (by omega) (by omega) n1).eq n0 n1 (hi.mv (by omega)).r16 (fun _ _ _ => rfl)
    rw [e9]
    show mm_wp _ _ (17, [some (.ref 590), some (.long (lI (rwE f n))), none, some (.int (iI n)), some (.int (iI p)), some (.int (iI k))], [.long (lI (rwE (mvF f p) n)), .ref 590], MX L t s l) _
    refine wi_i1 hc rfl rfl ?_
    refine wi_i2 hc rfl rfl ?_
    refine wp_cv (b := 590) (As := [.long (lI (rwE (mvF f p) n)), .int (iI n), .int (iI k)]) (r := []) hc rfl (by rw [cm_21]; rfl) rfl (Nat.le_of_ble_eq_true rfl) (show 590 < 621 by decide) (by rw [cm_21]; rfl) (ev_mono (sp_21 (d := 0) hC h01 (hi.mv hp) n0 n1 (k := k)) (by omega)) ?_
    show mm_wp _ _ (23, [some (.ref 590), some (.long (lI (rwE f n))), none, some (.int (iI n)), some (.int (iI p)), some (.int (iI k))], [.long (lI (rwE (nF c n (k % 2) (mvF f p)) n))], MX L t s l) _
    refine wi_rl hc rfl (by rw [cm_29]; rfl) ?_
    rfl
  · refine wi_l1 hc rfl rfl ?_
    refine wi_go hc rfl ?_
    have e9 : rwE f n = rwE (mvF f p) n := by
      rw [show p = -1 by omega, mvF_none]
    have g9 : ∀ w9, w9 = rwE f n → w9 = rwE (mvF f p) n := fun w9 q9 => q9.trans e9
    suffices hh9 : mm_wp (mm_Ev mm_ct mm_CM (d + 4)) 29 (17, [some (.ref 590), some (.long (lI (rwE f n))), none, some (.int (iI n)), some (.int (iI p)), some (.int (iI k))], [.long (lI (rwE (mvF f p) n)), .ref 590], MX L t s l) (fun r => r = (some (.long (lI (rwE (nF c n (k % 2) (mvF f p)) n))), MX L t s l)) by rw [← e9] at hh9; exact hh9
    refine wi_i1 hc rfl rfl ?_
    refine wi_i2 hc rfl rfl ?_
    refine wp_cv (b := 590) (As := [.long (lI (rwE (mvF f p) n)), .int (iI n), .int (iI k)]) (r := []) hc rfl (by rw [cm_21]; rfl) rfl (Nat.le_of_ble_eq_true rfl) (show 590 < 621 by decide) (by rw [cm_21]; rfl) (ev_mono (sp_21 (d := 0) hC h01 (hi.mv hp) n0 n1 (k := k)) (by omega)) ?_
    show mm_wp _ _ (23, [some (.ref 590), some (.long (lI (rwE f n))), none, some (.int (iI n)), some (.int (iI p)), some (.int (iI k))], [.long (lI (rwE (nF c n (k % 2) (mvF f p)) n))], MX L t s l) _
    refine wi_rl hc rfl (by rw [cm_29]; rfl) ?_
    rfl
theorem sp_30s {d L t : Nat} {s l : Nat → Int → Int} {c : Int → Int → Int} {f : Int → Int} {n set : Int} (hC : CHc s c set) (h01 : ∀ x y, c x y = 0 ∨ c x y = 1) (hi : inS set f n) (n0 : 0 ≤ n) (n1 : n ≤ 10) {b k lf : Int} (hj : injF f n) (hm : ∃ p, 0 ≤ p ∧ p < n ∧ f p = b) (hb : rI b) (hlf : lf = 0 ∨ lf = 1) {D : Nat} {ro : Int} (hD : 10 ≤ D) (r0 : 0 < ro) (r1 : ro ≤ 5) (ih : ∀ (f : Int → Int) (k lf : Int), inS set f n → injF f n → (∃ p, 0 ≤ p ∧ p < n ∧ f p = b) → (lf = 0 ∨ lf = 1) → mm_Ev mm_ct mm_CM D 30 [.ref 590, .long (lI (rwE f n)), .int (iI n), .int (iI b), .int (iI k), .int (iI (ro - 1)), .int (iI lf)] (MX L t s l) (some (.int (iI (gmV c n b (ro - 1).toNat f k lf))), MX L t s l)) : mm_Ev mm_ct mm_CM (D + 1) 30 [.ref 590, .long (lI (rwE f n)), .int (iI n), .int (iI b), .int (iI k), .int (iI ro), .int (iI lf)] (MX L t s l) (some (.int (iI (gmV c n b ro.toNat f k lf))), MX L t s l) := by
  have hne : 1 ≤ n := by obtain ⟨p, a, b9, _⟩ := hm; omega
  have hc : (mm_CM 30).2.2.2.2.2.2.2 = mm_cf cd_30 := by rw [cm_30]; rfl
  refine ev_of (mx := 13) (by rw [cm_30]; decide) (by rw [cm_30]; rfl) (by show 8 ≤ _; decide) ?_
  show mm_wp _ _ (0, [some (.ref 590), some (.long (lI (rwE f n))), none, some (.int (iI n)), some (.int (iI b)), some (.int (iI k)), some (.int (iI ro)), some (.int (iI lf)), none, none, none, none, none], [], MX L t s l) (fun r => r = (some (.int (iI (gmV c n b ro.toNat f k lf))), MX L t s l))
  refine wi_i2 hc rfl rfl ?_
  refine wi_zgt hc rfl ⟨by omega, by omega⟩ (fun h1_ => ?_) (fun h1_ => (by exfalso; omega))
  refine wi_i2 hc rfl rfl ?_
  have join23_ :  mm_wp (mm_Ev mm_ct mm_CM D) 30 (23, [some (.ref 590), some (.long (lI (rwE f n))), none, some (.int (iI n)), some (.int (iI b)), some (.int (iI k)), some (.int (iI ro)), some (.int (iI lf)), none, none, none, none, none], [.int (iI (if lf = 1 then n else -1))], MX L t s l) (fun r => r = (some (.int (iI (gmV c n b ro.toNat f k lf))), MX L t s l)) := by
    skip
    refine wi_is2 (L' := [some (.ref 590), some (.long (lI (rwE f n))), none, some (.int (iI n)), some (.int (iI b)), some (.int (iI k)), some (.int (iI ro)), some (.int (iI lf)), some (.int (iI (if lf = 1 then n else -1))), none, none, none, none]) hc rfl (Nat.le_of_ble_eq_true rfl) rfl ?_
    refine wi_ic hc rfl ?_
    refine wi_is2 (L' := [some (.ref 590), some (.long (lI (rwE f n))), none, some (.int (iI n)), some (.int (iI b)), some (.int (iI k)), some (.int (iI ro)), some (.int (iI lf)), some (.int (iI (if lf = 1 then n else -1))), some (.int (iI (-1))), none, none, none]) hc rfl (Nat.le_of_ble_eq_true rfl) rfl ?_
    have loop28_ : ∀ p : Int, p ≤ n → -1 ≤ p → p + 1 ≤ n → ∀ (o10 o12 : Option Value), mm_wp (mm_Ev mm_ct mm_CM D) 30 (28, [some (.ref 590), some (.long (lI (rwE f n))), none, some (.int (iI n)), some (.int (iI b)), some (.int (iI k)), some (.int (iI ro)), some (.int (iI lf)), some (.int (iI (gmS (fun p => gmV c n b (ro - 1).toNat (nF c n (k % 2) (mvF f p)) (k + 1) (1 - lf)) lf (if lf = 1 then n else -1) (p + 1).toNat))), some (.int (iI p)), o10, none, o12], [], MX L t s l) (fun r => r = (some (.int (iI (gmV c n b ro.toNat f k lf))), MX L t s l)) := by
      refine up_ind ?_
      intro p hp9 ihp p0 p1 o10 o12
      have hgs := gmS_r (g := (fun p => gmV c n b (ro - 1).toNat (nF c n (k % 2) (mvF f p)) (k + 1) (1 - lf))) (lf := lf) hne (fun q a b9 => gmV_r hne (ro - 1).toNat _ (k + 1) (1 - lf) ((hj.mv (by omega)).nF (Int.emod_nonneg _ (by decide))) (nF_mem (Int.emod_nonneg _ (by decide)) (mvF_mem (by omega) hm))) (p + 1).toNat (by omega)
      refine wi_i2 hc rfl rfl ?_
      refine wi_ic hc rfl ?_
      refine wi_add hc rfl ?_
      refine wi_i1 hc rfl rfl ?_
      refine wi_cge hc rfl ⟨by omega, by omega⟩ ⟨by omega, by omega⟩ (fun h2_ => ?_) (fun h2_ => ?_)
      · refine wi_i2 hc rfl rfl ?_
        refine wi_ri hc rfl (by rw [cm_30]; rfl) ?_
        have er : ro.toNat = (ro - 1).toNat + 1 := by omega
        rw [er, gmV, show n.toNat = (p + 1).toNat by omega]
      · refine wi_a1 hc rfl rfl ?_
        refine wi_l1 hc rfl rfl ?_
        refine wi_i1 hc rfl rfl ?_
        refine wi_i2 hc rfl rfl ?_
        refine wi_i2 hc rfl rfl ?_
        refine wp_cv (b := 590) (As := [.long (lI (rwE f n)), .int (iI n), .int (iI p), .int (iI k)]) (r := []) hc rfl (by rw [cm_29]; rfl) rfl (Nat.le_of_ble_eq_true rfl) (show 590 < 621 by decide) (by rw [cm_29]; rfl) (ev_mono (sp_29 (d := 0) hC h01 hi n0 n1 (p := p) (k := k) (by omega)) (by omega)) ?_
        show mm_wp _ _ (46, [some (.ref 590), some (.long (lI (rwE f n))), none, some (.int (iI n)), some (.int (iI b)), some (.int (iI k)), some (.int (iI ro)), some (.int (iI lf)), some (.int (iI (gmS (fun p => gmV c n b (ro - 1).toNat (nF c n (k % 2) (mvF f p)) (k + 1) (1 - lf)) lf (if lf = 1 then n else -1) (p + 1).toNat))), some (.int (iI p)), o10, none, o12], [.long (lI (rwE (nF c n (k % 2) (mvF f p)) n))], MX L t s l) _
        refine wi_ls2 (L' := [some (.ref 590), some (.long (lI (rwE f n))), none, some (.int (iI n)), some (.int (iI b)), some (.int (iI k)), some (.int (iI ro)), some (.int (iI lf)), some (.int (iI (gmS (fun p => gmV c n b (ro - 1).toNat (nF c n (k % 2) (mvF f p)) (k + 1) (1 - lf)) lf (if lf = 1 then n else -1) (p + 1).toNat))), some (.int (iI p)), some (.long (lI (rwE (nF c n (k % 2) (mvF f p)) n))), none, o12]) hc rfl (Nat.le_of_ble_eq_true rfl) rfl ?_
        refine wi_a1 hc rfl rfl ?_
        refine wi_l2 hc rfl rfl ?_
        refine wi_i1 hc rfl rfl ?_
        refine wi_i2 hc rfl rfl ?_
        refine wi_i2 hc rfl rfl ?_
        refine wi_ic hc rfl ?_
        refine wi_add hc rfl ?_
        refine wi_i2 hc rfl rfl ?_
        refine wi_ic hc rfl ?_
        refine wi_sub hc rfl ?_
        refine wi_i2 hc rfl rfl ?_
        have join72_ : ∀ v9 : Int, v9 = 1 - lf → mm_wp (mm_Ev mm_ct mm_CM D) 30 (72, [some (.ref 590), some (.long (lI (rwE f n))), none, some (.int (iI n)), some (.int (iI b)), some (.int (iI k)), some (.int (iI ro)), some (.int (iI lf)), some (.int (iI (gmS (fun p => gmV c n b (ro - 1).toNat (nF c n (k % 2) (mvF f p)) (k + 1) (1 - lf)) lf (if lf = 1 then n else -1) (p + 1).toNat))), some (.int (iI p)), some (.long (lI (rwE (nF c n (k % 2) (mvF f p)) n))), none, o12], [.int (iI v9), .int (iI (ro - 1)), .int (iI (k + 1)), .int (iI b), .int (iI n), .long (lI (rwE (nF c n (k % 2) (mvF f p)) n)), .ref 590], MX L t s l) (fun r => r = (some (.int (iI (gmV c n b ro.toNat f k lf))), MX L t s l)) := by
          intro v9 hv9
          have hij := (hj.mv (p := p) (by omega)).nF (c := c) (k := k % 2) (Int.emod_nonneg _ (by decide))
          have hmm := nF_mem (c := c) (k := k % 2) (Int.emod_nonneg _ (by decide)) (mvF_mem (p := p) (by omega) hm)
          have hgr := gmV_r (c := c) (by omega : 1 ≤ n) (ro - 1).toNat _ (k + 1) (1 - lf) hij hmm
          refine wp_cv (b := 590) (As := [.long (lI (rwE (nF c n (k % 2) (mvF f p)) n)), .int (iI n), .int (iI b), .int (iI (k + 1)), .int (iI (ro - 1)), .int (iI v9)]) (r := []) hc rfl (by rw [cm_30]; rfl) rfl (Nat.le_of_ble_eq_true rfl) (show 590 < 621 by decide) (by rw [cm_30]; rfl) (by rw [hv9]; exact ih (nF c n (k % 2) (mvF f p)) (k + 1) (1 - lf) ((hi.mv (by omega)).nF (Int.emod_nonneg _ (by decide))) hij hmm (by omega)) ?_
          show mm_wp _ _ (75, [some (.ref 590), some (.long (lI (rwE f n))), none, some (.int (iI n)), some (.int (iI b)), some (.int (iI k)), some (.int (iI ro)), some (.int (iI lf)), some (.int (iI (gmS (fun p => gmV c n b (ro - 1).toNat (nF c n (k % 2) (mvF f p)) (k + 1) (1 - lf)) lf (if lf = 1 then n else -1) (p + 1).toNat))), some (.int (iI p)), some (.long (lI (rwE (nF c n (k % 2) (mvF f p)) n))), none, o12], [.int (iI (gmV c n b (ro - 1).toNat (nF c n (k % 2) (mvF f p)) (k + 1) (1 - lf)))], MX L t s l) _
          refine wi_is2 (L' := [some (.ref 590), some (.long (lI (rwE f n))), none, some (.int (iI n)), some (.int (iI b)), some (.int (iI k)), some (.int (iI ro)), some (.int (iI lf)), some (.int (iI (gmS (fun p => gmV c n b (ro - 1).toNat (nF c n (k % 2) (mvF f p)) (k + 1) (1 - lf)) lf (if lf = 1 then n else -1) (p + 1).toNat))), some (.int (iI p)), some (.long (lI (rwE (nF c n (k % 2) (mvF f p)) n))), none, some (.int (iI (gmV c n b (ro - 1).toNat (nF c n (k % 2) (mvF f p)) (k + 1) (1 - lf))))]) hc rfl (Nat.le_of_ble_eq_true rfl) rfl ?_
          refine wi_i2 hc rfl rfl ?_
          refine wi_zeq hc rfl ⟨by omega, by omega⟩ (fun h3_ => ?_) (fun h3_ => ?_)
          · refine wi_i2 hc rfl rfl ?_
            refine wi_i2 hc rfl rfl ?_
            refine wi_max (r := []) hc rfl (Nat.le_of_ble_eq_true rfl) ⟨by omega, by omega⟩ ⟨by omega, by omega⟩ ?_
            have h4_ := maxI_spec (gmS (fun p => gmV c n b (ro - 1).toNat (nF c n (k % 2) (mvF f p)) (k + 1) (1 - lf)) lf (if lf = 1 then n else -1) (p + 1).toNat) (gmV c n b (ro - 1).toNat (nF c n (k % 2) (mvF f p)) (k + 1) (1 - lf))
            show mm_wp _ _ (99, [some (.ref 590), some (.long (lI (rwE f n))), none, some (.int (iI n)), some (.int (iI b)), some (.int (iI k)), some (.int (iI ro)), some (.int (iI lf)), some (.int (iI (gmS (fun p => gmV c n b (ro - 1).toNat (nF c n (k % 2) (mvF f p)) (k + 1) (1 - lf)) lf (if lf = 1 then n else -1) (p + 1).toNat))), some (.int (iI p)), some (.long (lI (rwE (nF c n (k % 2) (mvF f p)) n))), none, some (.int (iI (gmV c n b (ro - 1).toNat (nF c n (k % 2) (mvF f p)) (k + 1) (1 - lf))))], [.int (iI (maxI (gmS (fun p => gmV c n b (ro - 1).toNat (nF c n (k % 2) (mvF f p)) (k + 1) (1 - lf)) lf (if lf = 1 then n else -1) (p + 1).toNat) (gmV c n b (ro - 1).toNat (nF c n (k % 2) (mvF f p)) (k + 1) (1 - lf))))], MX L t s l) _
            refine wi_is2 (L' := [some (.ref 590), some (.long (lI (rwE f n))), none, some (.int (iI n)), some (.int (iI b)), some (.int (iI k)), some (.int (iI ro)), some (.int (iI lf)), some (.int (iI (maxI (gmS (fun p => gmV c n b (ro - 1).toNat (nF c n (k % 2) (mvF f p)) (k + 1) (1 - lf)) lf (if lf = 1 then n else -1) (p + 1).toNat) (gmV c n b (ro - 1).toNat (nF c n (k % 2) (mvF f p)) (k + 1) (1 - lf))))), some (.int (iI p)), some (.long (lI (rwE (nF c n (k % 2) (mvF f p)) n))), none, some (.int (iI (gmV c n b (ro - 1).toNat (nF c n (k % 2) (mvF f p)) (k + 1) (1 - lf))))]) hc rfl (Nat.le_of_ble_eq_true rfl) rfl ?_
            refine wi_inc (L' := [some (.ref 590), some (.long (lI (rwE f n))), none, some (.int (iI n)), some (.int (iI b)), some (.int (iI k)), some (.int (iI ro)), some (.int (iI lf)), some (.int (iI (maxI (gmS (fun p => gmV c n b (ro - 1).toNat (nF c n (k % 2) (mvF f p)) (k + 1) (1 - lf)) lf (if lf = 1 then n else -1) (p + 1).toNat) (gmV c n b (ro - 1).toNat (nF c n (k % 2) (mvF f p)) (k + 1) (1 - lf))))), some (.int (iI (p + 1))), some (.long (lI (rwE (nF c n (k % 2) (mvF f p)) n))), none, some (.int (iI (gmV c n b (ro - 1).toNat (nF c n (k % 2) (mvF f p)) (k + 1) (1 - lf))))]) hc rfl rfl rfl ?_
            refine wi_go hc rfl ?_
            have e9 : maxI (gmS (fun p => gmV c n b (ro - 1).toNat (nF c n (k % 2) (mvF f p)) (k + 1) (1 - lf)) lf (if lf = 1 then n else -1) (p + 1).toNat) (gmV c n b (ro - 1).toNat (nF c n (k % 2) (mvF f p)) (k + 1) (1 - lf)) = gmS (fun p => gmV c n b (ro - 1).toNat (nF c n (k % 2) (mvF f p)) (k + 1) (1 - lf)) lf (if lf = 1 then n else -1) (p + 1 + 1).toNat := by rw [gmS_s (by omega)]; exact (if_neg (by omega)).symm
            rw [e9]
            exact ihp (by omega) (by omega) (by omega) _ _
          · refine wi_i2 hc rfl rfl ?_
            refine wi_i2 hc rfl rfl ?_
            refine wi_min (r := []) hc rfl (Nat.le_of_ble_eq_true rfl) ⟨by omega, by omega⟩ ⟨by omega, by omega⟩ ?_
            have h5_ := minI_spec (gmS (fun p => gmV c n b (ro - 1).toNat (nF c n (k % 2) (mvF f p)) (k + 1) (1 - lf)) lf (if lf = 1 then n else -1) (p + 1).toNat) (gmV c n b (ro - 1).toNat (nF c n (k % 2) (mvF f p)) (k + 1) (1 - lf))
            show mm_wp _ _ (89, [some (.ref 590), some (.long (lI (rwE f n))), none, some (.int (iI n)), some (.int (iI b)), some (.int (iI k)), some (.int (iI ro)), some (.int (iI lf)), some (.int (iI (gmS (fun p => gmV c n b (ro - 1).toNat (nF c n (k % 2) (mvF f p)) (k + 1) (1 - lf)) lf (if lf = 1 then n else -1) (p + 1).toNat))), some (.int (iI p)), some (.long (lI (rwE (nF c n (k % 2) (mvF f p)) n))), none, some (.int (iI (gmV c n b (ro - 1).toNat (nF c n (k % 2) (mvF f p)) (k + 1) (1 - lf))))], [.int (iI (minI (gmS (fun p => gmV c n b (ro - 1).toNat (nF c n (k % 2) (mvF f p)) (k + 1) (1 - lf)) lf (if lf = 1 then n else -1) (p + 1).toNat) (gmV c n b (ro - 1).toNat (nF c n (k % 2) (mvF f p)) (k + 1) (1 - lf))))], MX L t s l) _
            refine wi_go hc rfl ?_
            refine wi_is2 (L' := [some (.ref 590), some (.long (lI (rwE f n))), none, some (.int (iI n)), some (.int (iI b)), some (.int (iI k)), some (.int (iI ro)), some (.int (iI lf)), some (.int (iI (minI (gmS (fun p => gmV c n b (ro - 1).toNat (nF c n (k % 2) (mvF f p)) (k + 1) (1 - lf)) lf (if lf = 1 then n else -1) (p + 1).toNat) (gmV c n b (ro - 1).toNat (nF c n (k % 2) (mvF f p)) (k + 1) (1 - lf))))), some (.int (iI p)), some (.long (lI (rwE (nF c n (k % 2) (mvF f p)) n))), none, some (.int (iI (gmV c n b (ro - 1).toNat (nF c n (k % 2) (mvF f p)) (k + 1) (1 - lf))))]) hc rfl (Nat.le_of_ble_eq_true rfl) rfl ?_
            refine wi_inc (L' := [some (.ref 590), some (.long (lI (rwE f n))), none, some (.int (iI n)), some (.int (iI b)), some (.int (iI k)), some (.int (iI ro)), some (.int (iI lf)), some (.int (iI (minI (gmS (fun p => gmV c n b (ro - 1).toNat (nF c n (k % 2) (mvF f p)) (k + 1) (1 - lf)) lf (if lf = 1 then n else -1) (p + 1).toNat) (gmV c n b (ro - 1).toNat (nF c n (k % 2) (mvF f p)) (k + 1) (1 - lf))))), some (.int (iI (p + 1))), some (.long (lI (rwE (nF c n (k % 2) (mvF f p)) n))), none, some (.int (iI (gmV c n b (ro - 1).toNat (nF c n (k % 2) (mvF f p)) (k + 1) (1 - lf))))]) hc rfl rfl rfl ?_
            refine wi_go hc rfl ?_
            have e9 : minI (gmS (fun p => gmV c n b (ro - 1).toNat (nF c n (k % 2) (mvF f p)) (k + 1) (1 - lf)) lf (if lf = 1 then n else -1) (p + 1).toNat) (gmV c n b (ro - 1).toNat (nF c n (k % 2) (mvF f p)) (k + 1) (1 - lf)) = gmS (fun p => gmV c n b (ro - 1).toNat (nF c n (k % 2) (mvF f p)) (k + 1) (1 - lf)) lf (if lf = 1 then n else -1) (p + 1 + 1).toNat := by rw [gmS_s (by omega)]; exact (if_pos (by omega)).symm
            rw [e9]
            exact ihp (by omega) (by omega) (by omega) _ _
        refine wi_zne hc rfl ⟨by omega, by omega⟩ (fun h6_ => ?_) (fun h6_ => ?_)
        · refine wi_ic hc rfl ?_
          exact join72_ _ (by omega)
        · refine wi_ic hc rfl ?_
          refine wi_go hc rfl ?_
          exact join72_ _ (by omega)
    exact loop28_ (-1) (by omega) (by omega) (by omega) none none
  refine wi_zeq hc rfl ⟨by omega, by omega⟩ (fun h7_ => ?_) (fun h7_ => ?_)
  · refine wi_ic hc rfl ?_
    have q9 := join23_
    rw [if_neg (by omega)] at q9
    exact q9
  · refine wi_i1 hc rfl rfl ?_
    refine wi_go hc rfl ?_
    have q9 := join23_
    rw [if_pos (by omega)] at q9
    exact q9
theorem sp_30z {d L t : Nat} {s l : Nat → Int → Int} {f : Int → Int} {n set : Int} (hi : inS set f n) (n0 : 0 ≤ n) (n1 : n ≤ 10) {b : Int} (hb : rI b) {k lf : Int} (hlf : lf = 0 ∨ lf = 1) : mm_Ev mm_ct mm_CM (d + 3) 30 [.ref 590, .long (lI (rwE f n)), .int (iI n), .int (iI b), .int (iI k), .int (iI 0), .int (iI lf)] (MX L t s l) (some (.int (iI (psF f n b))), MX L t s l) := by
  skip
  have hc : (mm_CM 30).2.2.2.2.2.2.2 = mm_cf cd_30 := by rw [cm_30]; rfl
  refine ev_of (mx := 13) (by rw [cm_30]; decide) (by rw [cm_30]; rfl) (by show 8 ≤ _; decide) ?_
  show mm_wp _ _ (0, [some (.ref 590), some (.long (lI (rwE f n))), none, some (.int (iI n)), some (.int (iI b)), some (.int (iI k)), some (.int (iI 0)), some (.int (iI lf)), none, none, none, none, none], [], MX L t s l) (fun r => r = (some (.int (iI (psF f n b))), MX L t s l))
  refine wi_i2 hc rfl rfl ?_
  refine wi_zgt hc rfl ⟨by decide, by decide⟩ (fun q => absurd q (by decide)) (fun _ => ?_)
  refine wi_l1 hc rfl rfl ?_
  refine wi_i1 hc rfl rfl ?_
  refine wi_i2 hc rfl rfl ?_
  refine wp_cs (As := [.long (lI (rwE f n)), .int (iI n), .int (iI b)]) (r := []) hc rfl (by rw [cm_24]; rfl) rfl (Nat.le_of_ble_eq_true rfl) (ev_mono (sp_24 (d := 0) hi n0 n1 hb) (by omega)) ?_
  show mm_wp _ _ (12, [some (.ref 590), some (.long (lI (rwE f n))), none, some (.int (iI n)), some (.int (iI b)), some (.int (iI k)), some (.int (iI 0)), some (.int (iI lf)), none, none, none, none, none], [.int (iI (psF f n b))], MX L t s l) _
  refine wi_ri hc rfl (by rw [cm_30]; rfl) ?_
  rfl
theorem sp_30 {d L t : Nat} {s l : Nat → Int → Int} {c : Int → Int → Int} {n set : Int} (hC : CHc s c set) (h01 : ∀ x y, c x y = 0 ∨ c x y = 1) (n0 : 0 ≤ n) (n1 : n ≤ 10) {b : Int} (hb : rI b) : ∀ (r : Nat), r ≤ 5 → ∀ (f : Int → Int) (k lf : Int), inS set f n → injF f n → (∃ p, 0 ≤ p ∧ p < n ∧ f p = b) → (lf = 0 ∨ lf = 1) → mm_Ev mm_ct mm_CM (d + 11 + r) 30 [.ref 590, .long (lI (rwE f n)), .int (iI n), .int (iI b), .int (iI k), .int (iI (r : Int)), .int (iI lf)] (MX L t s l) (some (.int (iI (gmV c n b r f k lf))), MX L t s l)
  | 0, _, f, k, lf, hi, hj, hm, hlf => ev_mono (sp_30z (d := 0) (set := set) hi n0 n1 hb (k := k) (lf := lf) hlf) (by omega)
  | r + 1, hr, f, k, lf, hi, hj, hm, hlf => by
    have ih := sp_30 (d := d) (L := L) (t := t) (s := s) (l := l) hC h01 n0 n1 hb r (by omega)
    have h := sp_30s (d := 0) (D := d + 11 + r) (L := L) (t := t) (s := s) (l := l) (ro := ((r + 1 : Nat) : Int)) hC h01 hi n0 n1 (k := k) hj hm hb hlf (by omega) (by omega) (by omega) (fun f k lf a b9 e g => by
      have q := ih f k lf a b9 e g
      rw [show (((r + 1 : Nat) : Int) - 1) = (r : Int) by omega, Int.toNat_natCast]
      exact q)
    rw [Int.toNat_natCast] at h
    exact h
theorem sp_31 {d L t : Nat} {s l : Nat → Int → Int} {c : Int → Int → Int} {f : Int → Int} {n set : Int} (hC : CHc s c set) (h01 : ∀ x y, c x y = 0 ∨ c x y = 1) (hi : inS set f n) (n0 : 0 ≤ n) (n1 : n ≤ 10) {b k ro v : Int} (hj : injF f n) (hm : ∃ p, 0 ≤ p ∧ p < n ∧ f p = b) (hb : rI b) (r0 : 0 < ro) (r1 : ro ≤ 5) (hv : rI v) : mm_Ev mm_ct mm_CM (d + 17) 31 [.ref 590, .long (lI (rwE f n)), .int (iI n), .int (iI b), .int (iI k), .int (iI ro), .int (iI v)] (MX L t s l) (some (.int (iI (fmV c n b (ro - 1).toNat f k v))), MX L t s l) := by
  have hc : (mm_CM 31).2.2.2.2.2.2.2 = mm_cf cd_31 := by rw [cm_31]; rfl
  refine ev_of (mx := 11) (by rw [cm_31]; decide) (by rw [cm_31]; rfl) (by show 8 ≤ _; decide) ?_
  show mm_wp _ _ (0, [some (.ref 590), some (.long (lI (rwE f n))), none, some (.int (iI n)), some (.int (iI b)), some (.int (iI k)), some (.int (iI ro)), some (.int (iI v)), none, none, none], [], MX L t s l) (fun r => r = (some (.int (iI (fmV c n b (ro - 1).toNat f k v))), MX L t s l))
  have hne : 1 ≤ n := by obtain ⟨p, a, b9, _⟩ := hm; omega
  refine wi_ic hc rfl ?_
  refine wi_is2 (L' := [some (.ref 590), some (.long (lI (rwE f n))), none, some (.int (iI n)), some (.int (iI b)), some (.int (iI k)), some (.int (iI ro)), some (.int (iI v)), some (.int (iI (-1))), none, none]) hc rfl (Nat.le_of_ble_eq_true rfl) rfl ?_
  have loop3_ : ∀ p : Int, p ≤ n → -1 ≤ p → p + 1 ≤ n → ∀ (o9 : Option Value), fmV c n b (ro - 1).toNat f k v = fmS (fun p => gmV c n b (ro - 1).toNat (nF c n (k % 2) (mvF f p)) (k + 1) 0) v (n - 1 - p).toNat p → mm_wp (mm_Ev mm_ct mm_CM (d + 16)) 31 (3, [some (.ref 590), some (.long (lI (rwE f n))), none, some (.int (iI n)), some (.int (iI b)), some (.int (iI k)), some (.int (iI ro)), some (.int (iI v)), some (.int (iI p)), o9, none], [], MX L t s l) (fun r => r = (some (.int (iI (fmV c n b (ro - 1).toNat f k v))), MX L t s l)) := by
    refine up_ind ?_
    intro p hp9 ihp p0 p1 o9 hfm
    refine wi_i2 hc rfl rfl ?_
    refine wi_ic hc rfl ?_
    refine wi_add hc rfl ?_
    refine wi_i1 hc rfl rfl ?_
    refine wi_cge hc rfl ⟨by omega, by omega⟩ ⟨by omega, by omega⟩ (fun h1_ => ?_) (fun h1_ => ?_)
    · refine wi_ic hc rfl ?_
      refine wi_ri hc rfl (by rw [cm_31]; rfl) ?_
      rw [hfm, show (n - 1 - p).toNat = 0 by omega]
      rfl
    · refine wi_a1 hc rfl rfl ?_
      refine wi_l1 hc rfl rfl ?_
      refine wi_i1 hc rfl rfl ?_
      refine wi_i2 hc rfl rfl ?_
      refine wi_i2 hc rfl rfl ?_
      refine wp_cv (b := 590) (As := [.long (lI (rwE f n)), .int (iI n), .int (iI p), .int (iI k)]) (r := []) hc rfl (by rw [cm_29]; rfl) rfl (Nat.le_of_ble_eq_true rfl) (show 590 < 621 by decide) (by rw [cm_29]; rfl) (ev_mono (sp_29 (d := 0) hC h01 hi n0 n1 (p := p) (k := k) (by omega)) (by omega)) ?_
      show mm_wp _ _ (21, [some (.ref 590), some (.long (lI (rwE f n))), none, some (.int (iI n)), some (.int (iI b)), some (.int (iI k)), some (.int (iI ro)), some (.int (iI v)), some (.int (iI p)), o9, none], [.long (lI (rwE (nF c n (k % 2) (mvF f p)) n))], MX L t s l) _
      refine wi_ls2 (L' := [some (.ref 590), some (.long (lI (rwE f n))), none, some (.int (iI n)), some (.int (iI b)), some (.int (iI k)), some (.int (iI ro)), some (.int (iI v)), some (.int (iI p)), some (.long (lI (rwE (nF c n (k % 2) (mvF f p)) n))), none]) hc rfl (Nat.le_of_ble_eq_true rfl) rfl ?_
      refine wi_a1 hc rfl rfl ?_
      refine wi_l2 hc rfl rfl ?_
      refine wi_i1 hc rfl rfl ?_
      refine wi_i2 hc rfl rfl ?_
      refine wi_i2 hc rfl rfl ?_
      refine wi_ic hc rfl ?_
      refine wi_add hc rfl ?_
      refine wi_i2 hc rfl rfl ?_
      refine wi_ic hc rfl ?_
      refine wi_sub hc rfl ?_
      refine wi_ic hc rfl ?_
      have hij := (hj.mv (p := p) (by omega)).nF (c := c) (k := k % 2) (Int.emod_nonneg _ (by decide))
      have hmm := nF_mem (c := c) (k := k % 2) (Int.emod_nonneg _ (by decide)) (mvF_mem (p := p) (by omega) hm)
      have hgr := gmV_r (c := c) hne (ro - 1).toNat _ (k + 1) 0 hij hmm
      refine wp_cv (b := 590) (As := [.long (lI (rwE (nF c n (k % 2) (mvF f p)) n)), .int (iI n), .int (iI b), .int (iI (k + 1)), .int (iI (ro - 1)), .int (iI 0)]) (r := []) hc rfl (by rw [cm_30]; rfl) rfl (Nat.le_of_ble_eq_true rfl) (show 590 < 621 by decide) (by rw [cm_30]; rfl) (ev_mono (by have h := sp_30 (d := 0) (L := L) (t := t) (s := s) (l := l) hC h01 n0 n1 hb (ro - 1).toNat (by omega) (nF c n (k % 2) (mvF f p)) (k + 1) 0 ((hi.mv (by omega)).nF (Int.emod_nonneg _ (by decide))) hij hmm (Or.inl rfl); rw [show (((ro - 1).toNat : Nat) : Int) = ro - 1 by omega] at h; exact h) (by omega)) ?_
      show mm_wp _ _ (41, [some (.ref 590), some (.long (lI (rwE f n))), none, some (.int (iI n)), some (.int (iI b)), some (.int (iI k)), some (.int (iI ro)), some (.int (iI v)), some (.int (iI p)), some (.long (lI (rwE (nF c n (k % 2) (mvF f p)) n))), none], [.int (iI (gmV c n b (ro - 1).toNat (nF c n (k % 2) (mvF f p)) (k + 1) 0))], MX L t s l) _
      refine wi_i2 hc rfl rfl ?_
      refine wi_cne hc rfl ⟨by omega, by omega⟩ hv (fun h2_ => ?_) (fun h2_ => ?_)
      · refine wi_inc (L' := [some (.ref 590), some (.long (lI (rwE f n))), none, some (.int (iI n)), some (.int (iI b)), some (.int (iI k)), some (.int (iI ro)), some (.int (iI v)), some (.int (iI (p + 1))), some (.long (lI (rwE (nF c n (k % 2) (mvF f p)) n))), none]) hc rfl rfl rfl ?_
        refine wi_go hc rfl ?_
        exact ihp (by omega) (by omega) (by omega) _ (by rw [hfm, fmS_s (by omega), if_neg (by omega)])
      · refine wi_i2 hc rfl rfl ?_
        refine wi_ri hc rfl (by rw [cm_31]; rfl) ?_
        rw [hfm, fmS_s (by omega), if_pos (by omega)]
  exact loop3_ (-1) (by omega) (by omega) (by omega) none (by unfold fmV; rw [show (n - 1 - -1).toNat = n.toNat by omega])
theorem sp_114 {d L t : Nat} {s l : Nat → Int → Int} {A T : Int → Int} (hJ : JC s A T) (hK : KA A T) {x b n first : Int} (hx : rI x) (hb : rI b) (hn : rI n) (hf : first = 0 ∨ first = 1) : ∃ s1, mm_Ev mm_ct mm_CM (d + 18) 114 [.ref 0, .int (iI x), .int (iI b), .int (iI n), .int (iI first)] (MX L t s l) (some (.int (iI (gameP A T x b n first))), MX L t s1 l) ∧ (∀ c, c ≠ 578 ∧ c ≠ 579 ∧ c ≠ 592 → s1 c = s c) ∧ JC s1 A T := by
  have hc : (mm_CM 114).2.2.2.2.2.2.2 = mm_cf cd_114 := by rw [cm_114]; rfl
  refine ev_xs ?_
  refine ev_to (mx := 9) (by rw [cm_114]; decide) (by rw [cm_114]; rfl) (by show 5 ≤ _; decide) ?_
  show mm_wp _ _ (0, [some (.ref 0), some (.int (iI x)), some (.int (iI b)), some (.int (iI n)), some (.int (iI first)), none, none, none, none], [], MX L t s l) (fun res => ∃ s1, res = (some (.int (iI (gameP A T x b n first))), MX L t s1 l) ∧ (∀ c, c ≠ 578 ∧ c ≠ 579 ∧ c ≠ 592 → s1 c = s c) ∧ JC s1 A T)
  have hV := hK.1
  have hB := hK.2.1
  have g0 := hB.1
  have h1 := hK.2.2.1.1
  refine wi_i1 hc rfl rfl ?_
  refine wp_cs (As := [.int (iI x)]) (r := []) hc rfl (by rw [cm_125]; rfl) rfl (Nat.le_of_ble_eq_true rfl) (ev_mono (sp_125 (d := 0) hx) (by omega)) ?_
  show mm_wp _ _ (4, [some (.ref 0), some (.int (iI x)), some (.int (iI b)), some (.int (iI n)), some (.int (iI first)), none, none, none, none], [.int (iI (bI (0 ≤ x ∧ x ≤ 2)))], MX L t s l) _
  refine wi_beq hc rfl (fun h1_ => ?_) (fun h1_ => ?_)
  · refine wi_bi hc rfl rfl ?_
    refine wi_ri hc rfl (by rw [cm_114]; rfl) ?_
    have hR : gameP A T x b n first = -2 := by unfold gameP; rw [if_neg (by omega)]
    rw [hR]
    exact ⟨s, rfl, fun c _ => rfl, hJ⟩
  · have gm := hB.2.1 x (by omega) (by omega)
    refine wi_a1 hc rfl rfl ?_
    refine wi_i1 hc rfl rfl ?_
    refine wi_i1 hc rfl rfl ?_
    refine wp_cv (b := 0) (As := [.int (iI x), .int (iI b)]) (r := []) hc rfl (by rw [cm_132]; rfl) rfl (Nat.le_of_ble_eq_true rfl) (show 0 < 621 by decide) (by rw [cm_132]; rfl) (ev_mono (sp_132 (d := 0) hJ hK (x := x) (b := b) (by omega) (by omega) hb) (by omega)) ?_
    show mm_wp _ _ (13, [some (.ref 0), some (.int (iI x)), some (.int (iI b)), some (.int (iI n)), some (.int (iI first)), none, none, none, none], [.int (iI (bI ((0 ≤ b ∧ b < A 0) ∧ A (46 + 6 * b + 5) = x)))], MX L t s l) _
    refine wi_beq hc rfl (fun h2_ => ?_) (fun h2_ => ?_)
    · refine wi_bi hc rfl rfl ?_
      refine wi_ri hc rfl (by rw [cm_114]; rfl) ?_
      have hR : gameP A T x b n first = -2 := by unfold gameP; rw [if_neg (by omega)]
      rw [hR]
      exact ⟨s, rfl, fun c _ => rfl, hJ⟩
    · refine wi_i1 hc rfl rfl ?_
      refine wi_ic hc rfl ?_
      refine wi_clt hc rfl hn ⟨by decide, by decide⟩ (fun h3_ => ?_) (fun h3_ => ?_)
      · refine wi_bi hc rfl rfl ?_
        refine wi_ri hc rfl (by rw [cm_114]; rfl) ?_
        have hR : gameP A T x b n first = -2 := by unfold gameP; rw [if_neg (by omega)]
        rw [hR]
        exact ⟨s, rfl, fun c _ => rfl, hJ⟩
      · refine wi_i1 hc rfl rfl ?_
        refine wi_ic hc rfl ?_
        refine wi_cle hc rfl hn ⟨by decide, by decide⟩ (fun h4_ => ?_) (fun h4_ => ?_)
        · refine wi_a1 hc rfl rfl ?_
          refine wi_gr (w := 1) hc rfl rfl (by decide) (Nat.le_of_ble_eq_true rfl) rfl ?_
          refine wi_gr (w := 2) hc rfl rfl (by decide) (Nat.le_of_ble_eq_true rfl) rfl ?_
          refine wi_gr (w := 7) hc rfl rfl (by decide) (Nat.le_of_ble_eq_true rfl) rfl ?_
          refine wi_i1 hc rfl rfl ?_
          refine wi_ildv (N := 3) hc rfl rfl (by decide) (by decide) (by omega) (by omega) (v := A (13 + x)) (lb_many hJ.1 (by omega) (by omega)) ?_
          refine wi_is2 (L' := [some (.ref 0), some (.int (iI x)), some (.int (iI b)), some (.int (iI n)), some (.int (iI first)), some (.int (iI (A (13 + x)))), none, none, none]) hc rfl (Nat.le_of_ble_eq_true rfl) rfl ?_
          refine wi_i2 hc rfl rfl ?_
          refine wi_ic hc rfl ?_
          refine wi_clt hc rfl ⟨by omega, by omega⟩ ⟨by decide, by decide⟩ (fun h5_ => ?_) (fun h5_ => ?_)
          · refine wi_bi hc rfl rfl ?_
            refine wi_ri hc rfl (by rw [cm_114]; rfl) ?_
            have hR : gameP A T x b n first = -2 := by unfold gameP; rw [if_neg (by omega)]
            rw [hR]
            exact ⟨s, rfl, fun c _ => rfl, hJ⟩
          · refine wi_i2 hc rfl rfl ?_
            refine wi_ic hc rfl ?_
            refine wi_cle hc rfl ⟨by omega, by omega⟩ ⟨by decide, by decide⟩ (fun h6_ => ?_) (fun h6_ => ?_)
            · refine wi_a1 hc rfl rfl ?_
              refine wi_i1 hc rfl rfl ?_
              obtain ⟨s1_, hE1_, hF1_, hJ1_, hC1_⟩ := sp_141 (d := 0) (L := L) (t := t) (l := l) hJ hK (x := x) (by omega) (by omega)
              refine wp_cv (b := 0) (As := [.int (iI x)]) (r := []) hc rfl (by rw [cm_141]; rfl) rfl (Nat.le_of_ble_eq_true rfl) (show 0 < 621 by decide) (by rw [cm_141]; rfl) (ev_mono hE1_ (by omega)) ?_
              show mm_wp _ _ (63, [some (.ref 0), some (.int (iI x)), some (.int (iI b)), some (.int (iI n)), some (.int (iI first)), some (.int (iI (A (13 + x)))), none, none, none], [], MX L t s1_ l) _
              refine wi_a1 hc rfl rfl ?_
              refine wi_gr (w := 1) hc rfl rfl (by decide) (Nat.le_of_ble_eq_true rfl) rfl ?_
              refine wi_gr (w := 2) hc rfl rfl (by decide) (Nat.le_of_ble_eq_true rfl) rfl ?_
              refine wi_i1 hc rfl rfl ?_
              refine wp_cv (b := 2) (As := [.int (iI x)]) (r := []) hc rfl (by rw [cm_76]; rfl) rfl (Nat.le_of_ble_eq_true rfl) (show 2 < 621 by decide) (by rw [cm_76]; rfl) (ev_mono (sp_76 (d := 0) hJ1_ hK (x := x) (by omega) (by omega)) (by omega)) ?_
              show mm_wp _ _ (74, [some (.ref 0), some (.int (iI x)), some (.int (iI b)), some (.int (iI n)), some (.int (iI first)), some (.int (iI (A (13 + x)))), none, none, none], [.long (lI (rwE (shF A x) (A (13 + x))))], MX L t s1_ l) _
              refine wi_ls2 (L' := [some (.ref 0), some (.int (iI x)), some (.int (iI b)), some (.int (iI n)), some (.int (iI first)), some (.int (iI (A (13 + x)))), some (.long (lI (rwE (shF A x) (A (13 + x))))), none, none]) hc rfl (Nat.le_of_ble_eq_true rfl) rfl ?_
              refine wi_a1 hc rfl rfl ?_
              refine wi_gr (w := 590) hc rfl rfl (by decide) (Nat.le_of_ble_eq_true rfl) rfl ?_
              refine wi_l2 hc rfl rfl ?_
              refine wi_i2 hc rfl rfl ?_
              refine wi_i1 hc rfl rfl ?_
              refine wi_a1 hc rfl rfl ?_
              refine wi_gr (w := 1) hc rfl rfl (by decide) (Nat.le_of_ble_eq_true rfl) rfl ?_
              refine wi_gr (w := 2) hc rfl rfl (by decide) (Nat.le_of_ble_eq_true rfl) rfl ?_
              refine wi_gfv (kz := 6) rfl hc rfl rfl (by decide) (Nat.le_of_ble_eq_true rfl) rfl (v := A 1) (lb_night hJ1_.1) ?_
              refine wi_i1 hc rfl rfl ?_
              refine wi_ic hc rfl ?_
              have hbx : (0 ≤ b ∧ b < A 0) ∧ A (46 + 6 * b + 5) = x := by assumption
              have hat := shF_at hB (b := b) hbx.1.1 hbx.1.2 (by omega)
              rw [hbx.2] at hat
              have hij := shF_inj hB (x := x) (by omega) (by omega)
              have hgr := gmV_r (c := cF A T) (by omega : 1 ≤ A (13 + x)) n.toNat (shF A x) (A 1) 1 hij hat
              refine wp_cv (b := 590) (As := [.long (lI (rwE (shF A x) (A (13 + x)))), .int (iI (A (13 + x))), .int (iI b), .int (iI (A 1)), .int (iI n), .int (iI 1)]) (r := []) hc rfl (by rw [cm_30]; rfl) rfl (Nat.le_of_ble_eq_true rfl) (show 590 < 621 by decide) (by rw [cm_30]; rfl) (ev_mono (by have h := sp_30 (d := 0) (L := L) (t := t) (s := s1_) (l := l) hC1_ (cF_01 A T) (by omega) (by omega) hb n.toNat (by omega) (shF A x) (A 1) 1 (inS_shelf hB (x := x) (by omega) (by omega) : inS _ (shF A x) _) hij hat (Or.inr rfl); rw [show ((n.toNat : Nat) : Int) = n by omega] at h; exact h) (by omega)) ?_
              show mm_wp _ _ (100, [some (.ref 0), some (.int (iI x)), some (.int (iI b)), some (.int (iI n)), some (.int (iI first)), some (.int (iI (A (13 + x)))), some (.long (lI (rwE (shF A x) (A (13 + x))))), none, none], [.int (iI (gmV (cF A T) (A (13 + x)) b n.toNat (shF A x) (A 1) 1))], MX L t s1_ l) _
              refine wi_is2 (L' := [some (.ref 0), some (.int (iI x)), some (.int (iI b)), some (.int (iI n)), some (.int (iI first)), some (.int (iI (A (13 + x)))), some (.long (lI (rwE (shF A x) (A (13 + x))))), none, some (.int (iI (gmV (cF A T) (A (13 + x)) b n.toNat (shF A x) (A 1) 1)))]) hc rfl (Nat.le_of_ble_eq_true rfl) rfl ?_
              refine wi_i2 hc rfl rfl ?_
              refine wi_zeq hc rfl ⟨by omega, by omega⟩ (fun h7_ => ?_) (fun h7_ => ?_)
              · refine wi_i2 hc rfl rfl ?_
                refine wi_ri hc rfl (by rw [cm_114]; rfl) ?_
                have hR : gameP A T x b n first = gmV (cF A T) (A (13 + x)) b n.toNat (shF A x) (A 1) 1 := by unfold gameP; rw [if_pos (by omega), if_neg (by omega)]
                rw [hR]
                exact ⟨s1_, rfl, fun c hc9_ => hF1_ c (by omega), hJ1_⟩
              · refine wi_a1 hc rfl rfl ?_
                refine wi_gr (w := 590) hc rfl rfl (by decide) (Nat.le_of_ble_eq_true rfl) rfl ?_
                refine wi_l2 hc rfl rfl ?_
                refine wi_i2 hc rfl rfl ?_
                refine wi_i1 hc rfl rfl ?_
                refine wi_a1 hc rfl rfl ?_
                refine wi_gr (w := 1) hc rfl rfl (by decide) (Nat.le_of_ble_eq_true rfl) rfl ?_
                refine wi_gr (w := 2) hc rfl rfl (by decide) (Nat.le_of_ble_eq_true rfl) rfl ?_
                refine wi_gfv (kz := 6) rfl hc rfl rfl (by decide) (Nat.le_of_ble_eq_true rfl) rfl (v := A 1) (lb_night hJ1_.1) ?_
                refine wi_i1 hc rfl rfl ?_
                refine wi_i2 hc rfl rfl ?_
                refine wp_cv (b := 590) (As := [.long (lI (rwE (shF A x) (A (13 + x)))), .int (iI (A (13 + x))), .int (iI b), .int (iI (A 1)), .int (iI n), .int (iI (gmV (cF A T) (A (13 + x)) b n.toNat (shF A x) (A 1) 1))]) (r := []) hc rfl (by rw [cm_31]; rfl) rfl (Nat.le_of_ble_eq_true rfl) (show 590 < 621 by decide) (by rw [cm_31]; rfl) (ev_mono (sp_31 (d := 0) hC1_ (cF_01 A T) (inS_shelf hB (x := x) (by omega) (by omega) : inS _ (shF A x) _) (by omega) (by omega) (k := A 1) hij hat hb (by omega) (by omega) (rI_of (by omega) (by omega))) (by omega)) ?_
                show mm_wp _ _ (132, [some (.ref 0), some (.int (iI x)), some (.int (iI b)), some (.int (iI n)), some (.int (iI first)), some (.int (iI (A (13 + x)))), some (.long (lI (rwE (shF A x) (A (13 + x))))), none, some (.int (iI (gmV (cF A T) (A (13 + x)) b n.toNat (shF A x) (A 1) 1)))], [.int (iI (fmV (cF A T) (A (13 + x)) b (n - 1).toNat (shF A x) (A 1) (gmV (cF A T) (A (13 + x)) b n.toNat (shF A x) (A 1) 1)))], MX L t s1_ l) _
                refine wi_go hc rfl ?_
                refine wi_ri hc rfl (by rw [cm_114]; rfl) ?_
                have hR : gameP A T x b n first = fmV (cF A T) (A (13 + x)) b (n - 1).toNat (shF A x) (A 1) (gmV (cF A T) (A (13 + x)) b n.toNat (shF A x) (A 1) 1) := by unfold gameP; rw [if_pos (by omega), if_pos (by omega)]
                rw [hR]
                exact ⟨s1_, rfl, fun c hc9_ => hF1_ c (by omega), hJ1_⟩
            · refine wi_bi hc rfl rfl ?_
              refine wi_ri hc rfl (by rw [cm_114]; rfl) ?_
              have hR : gameP A T x b n first = -2 := by unfold gameP; rw [if_neg (by omega)]
              rw [hR]
              exact ⟨s, rfl, fun c _ => rfl, hJ⟩
        · refine wi_bi hc rfl rfl ?_
          refine wi_ri hc rfl (by rw [cm_114]; rfl) ?_
          have hR : gameP A T x b n first = -2 := by unfold gameP; rw [if_neg (by omega)]
          rw [hR]
          exact ⟨s, rfl, fun c _ => rfl, hJ⟩
