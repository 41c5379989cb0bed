/-! The class's reader: tokens kept, their ends, their numbers. -/
def ltB (x : Int) : Bool := decide ((97 ≤ x ∧ x ≤ 122) ∨ (65 ≤ x ∧ x ≤ 90))
def fgB (x : Int) : Bool := decide (48 ≤ x ∧ x ≤ 57)
theorem ltB_t {x : Int} : ltB x = true ↔ (97 ≤ x ∧ x ≤ 122) ∨ (65 ≤ x ∧ x ≤ 90) := decide_eq_true_iff
theorem fgB_t {x : Int} : fgB x = true ↔ 48 ≤ x ∧ x ≤ 57 := decide_eq_true_iff
/-- how far a run goes -/
def runI (P : Int → Bool) : Nat → Int → Int
  | 0, i => i
  | m + 1, i => if P (i + 1) = true then runI P m (i + 1) else i
theorem runI_s {P : Int → Bool} {n i : Int} (h : i + 1 < n) : runI P (n - 1 - i).toNat i = if P (i + 1) = true then runI P (n - 1 - (i + 1)).toNat (i + 1) else i := by
  rw [show (n - 1 - i).toNat = (n - 1 - (i + 1)).toNat + 1 by omega, runI]
theorem runI_e {P : Int → Bool} {n i : Int} (h : n ≤ i + 1) : runI P (n - 1 - i).toNat i = i := by
  rw [show (n - 1 - i).toNat = 0 by omega]
  rfl
theorem runI_r {P : Int → Bool} : ∀ (m : Nat) (i : Int), i ≤ runI P m i ∧ runI P m i ≤ i + m
  | 0, i => by show i ≤ i ∧ i ≤ i + ((0 : Nat) : Int); omega
  | m + 1, i => by
    have := runI_r (P := P) m (i + 1)
    unfold runI
    split <;> omega
def lastP (f : Int → Int) (n x : Int) : Int :=
  if ltB (f x) = true then runI (fun j => ltB (f j)) (n - 1 - x).toNat x
  else if fgB (f x) = true then runI (fun j => fgB (f j)) (n - 1 - x).toNat x
  else if (f x = 60 ∨ f x = 62) ∧ x + 1 < n ∧ f (x + 1) = 61 then x + 1 else x
theorem lastP_r {f : Int → Int} {n x : Int} (h : x < n) : x ≤ lastP f n x ∧ lastP f n x < n := by
  have h1 := runI_r (P := fun j => ltB (f j)) (n - 1 - x).toNat x
  have h2 := runI_r (P := fun j => fgB (f j)) (n - 1 - x).toNat x
  unfold lastP
  (repeat' split) <;> omega
theorem sp_49 {d L t : Nat} {s l : Nat → Int → Int} {f : Int → Int} (hT : s 597 = f) (hf : ∀ k, 0 ≤ f k ∧ f k ≤ 255) {n x : Int} (x0 : 0 ≤ x) (x1 : x < n) (n1 : n ≤ 300) : mm_Ev mm_ct mm_CM (d + 2) 49 [.ref 597, .int (iI n), .int (iI x)] (MX L t s l) (some (.int (iI (lastP f n x))), MX L t s l) := by
  have hc : (mm_CM 49).2.2.2.2.2.2.2 = mm_cf cd_49 := by rw [cm_49]; rfl
  refine ev_of (mx := 4) (by rw [cm_49]; decide) (by rw [cm_49]; rfl) (by show 3 ≤ _; decide) ?_
  show mm_wp _ _ (0, [some (.ref 597), some (.int (iI n)), some (.int (iI x)), none], [], MX L t s l) (fun r => r = (some (.int (iI (lastP f n x))), MX L t s l))
  have hfx := hf x
  have hfx1 := hf (x + 1)
  refine wi_i1 hc rfl rfl ?_
  refine wi_is1 (L' := [some (.ref 597), some (.int (iI n)), some (.int (iI x)), some (.int (iI x))]) hc rfl (Nat.le_of_ble_eq_true rfl) rfl ?_
  refine wi_a1 hc rfl rfl ?_
  refine wi_i1 hc rfl rfl ?_
  refine wi_ildv (N := 300) hc rfl rfl (by decide) (by decide) (by omega) (by omega) (v := f x) (congrFun (hT) _) ?_
  refine wp_cs (As := [.int (iI (f x))]) (r := []) hc rfl (by rw [cm_47]; rfl) rfl (Nat.le_of_ble_eq_true rfl) (ev_mono (sp_47 (d := 0) ⟨by omega, by omega⟩) (by omega)) ?_
  show mm_wp _ _ (8, [some (.ref 597), some (.int (iI n)), some (.int (iI x)), some (.int (iI x))], [.int (iI (bI ((97 ≤ (f x) ∧ (f x) ≤ 122) ∨ (65 ≤ (f x) ∧ (f x) ≤ 90))))], MX L t s l) _
  refine wi_beq hc rfl (fun h1_ => ?_) (fun h1_ => ?_)
  · refine wi_a1 hc rfl rfl ?_
    refine wi_i1 hc rfl rfl ?_
    refine wi_ildv (N := 300) hc rfl rfl (by decide) (by decide) (by omega) (by omega) (v := f x) (congrFun (hT) _) ?_
    refine wp_cs (As := [.int (iI (f x))]) (r := []) hc rfl (by rw [cm_48]; rfl) rfl (Nat.le_of_ble_eq_true rfl) (ev_mono (sp_48 (d := 0) ⟨by omega, by omega⟩) (by omega)) ?_
    show mm_wp _ _ (41, [some (.ref 597), some (.int (iI n)), some (.int (iI x)), some (.int (iI x))], [.int (iI (bI (48 ≤ (f x) ∧ (f x) ≤ 57)))], MX L t s l) _
    refine wi_beq hc rfl (fun h2_ => ?_) (fun h2_ => ?_)
    · refine wi_a1 hc rfl rfl ?_
      refine wi_i1 hc rfl rfl ?_
      refine wi_ildv (N := 300) hc rfl rfl (by decide) (by decide) (by omega) (by omega) (v := f x) (congrFun (hT) _) ?_
      refine wi_bi hc rfl rfl ?_
      refine wi_ceq hc rfl ⟨by omega, by omega⟩ ⟨by decide, by decide⟩ (fun h3_ => ?_) (fun h3_ => ?_)
      · refine wi_i1 hc rfl rfl ?_
        refine wi_ic hc rfl ?_
        refine wi_add hc rfl ?_
        refine wi_i1 hc rfl rfl ?_
        refine wi_cge hc rfl ⟨by omega, by omega⟩ ⟨by omega, by omega⟩ (fun h4_ => ?_) (fun h4_ => ?_)
        · refine wi_i1 hc rfl rfl ?_
          refine wi_ri hc rfl (by rw [cm_49]; rfl) ?_
          have hR : lastP f n x = x := by
            unfold lastP
            rw [if_neg (fun w => by have := ltB_t.mp w; omega), if_neg (fun w => by have := fgB_t.mp w; omega), if_neg (by omega)]
          rw [hR]
        · refine wi_a1 hc rfl rfl ?_
          refine wi_i1 hc rfl rfl ?_
          refine wi_ic hc rfl ?_
          refine wi_add hc rfl ?_
          refine wi_ildv (N := 300) hc rfl rfl (by decide) (by decide) (by omega) (by omega) (v := f (x + 1)) (congrFun (hT) _) ?_
          refine wi_bi hc rfl rfl ?_
          refine wi_cne hc rfl ⟨by omega, by omega⟩ ⟨by decide, by decide⟩ (fun h5_ => ?_) (fun h5_ => ?_)
          · refine wi_i1 hc rfl rfl ?_
            refine wi_ri hc rfl (by rw [cm_49]; rfl) ?_
            have hR : lastP f n x = x := by
              unfold lastP
              rw [if_neg (fun w => by have := ltB_t.mp w; omega), if_neg (fun w => by have := fgB_t.mp w; omega), if_neg (by omega)]
            rw [hR]
          · refine wi_i1 hc rfl rfl ?_
            refine wi_ic hc rfl ?_
            refine wi_add hc rfl ?_
            refine wi_go hc rfl ?_
            refine wi_ri hc rfl (by rw [cm_49]; rfl) ?_
            have hR : lastP f n x = x + 1 := by
              unfold lastP
              rw [if_neg (fun w => by have := ltB_t.mp w; omega), if_neg (fun w => by have := fgB_t.mp w; omega), if_pos (by omega)]
            rw [hR]
      · refine wi_a1 hc rfl rfl ?_
        refine wi_i1 hc rfl rfl ?_
        refine wi_ildv (N := 300) hc rfl rfl (by decide) (by decide) (by omega) (by omega) (v := f x) (congrFun (hT) _) ?_
        refine wi_bi hc rfl rfl ?_
        refine wi_cne hc rfl ⟨by omega, by omega⟩ ⟨by decide, by decide⟩ (fun h6_ => ?_) (fun h6_ => ?_)
        · refine wi_i1 hc rfl rfl ?_
          refine wi_ri hc rfl (by rw [cm_49]; rfl) ?_
          have hR : lastP f n x = x := by
            unfold lastP
            rw [if_neg (fun w => by have := ltB_t.mp w; omega), if_neg (fun w => by have := fgB_t.mp w; omega), if_neg (by omega)]
          rw [hR]
        · refine wi_i1 hc rfl rfl ?_
          refine wi_ic hc rfl ?_
          refine wi_add hc rfl ?_
          refine wi_i1 hc rfl rfl ?_
          refine wi_cge hc rfl ⟨by omega, by omega⟩ ⟨by omega, by omega⟩ (fun h7_ => ?_) (fun h7_ => ?_)
          · refine wi_i1 hc rfl rfl ?_
            refine wi_ri hc rfl (by rw [cm_49]; rfl) ?_
            have hR : lastP f n x = x := by
              unfold lastP
              rw [if_neg (fun w => by have := ltB_t.mp w; omega), if_neg (fun w => by have := fgB_t.mp w; omega), if_neg (by omega)]
            rw [hR]
          · refine wi_a1 hc rfl rfl ?_
            refine wi_i1 hc rfl rfl ?_
            refine wi_ic hc rfl ?_
            refine wi_add hc rfl ?_
            refine wi_ildv (N := 300) hc rfl rfl (by decide) (by decide) (by omega) (by omega) (v := f (x + 1)) (congrFun (hT) _) ?_
            refine wi_bi hc rfl rfl ?_
            refine wi_cne hc rfl ⟨by omega, by omega⟩ ⟨by decide, by decide⟩ (fun h8_ => ?_) (fun h8_ => ?_)
            · refine wi_i1 hc rfl rfl ?_
              refine wi_ri hc rfl (by rw [cm_49]; rfl) ?_
              have hR : lastP f n x = x := by
                unfold lastP
                rw [if_neg (fun w => by have := ltB_t.mp w; omega), if_neg (fun w => by have := fgB_t.mp w; omega), if_neg (by omega)]
              rw [hR]
            · refine wi_i1 hc rfl rfl ?_
              refine wi_ic hc rfl ?_
              refine wi_add hc rfl ?_
              refine wi_go hc rfl ?_
              refine wi_ri hc rfl (by rw [cm_49]; rfl) ?_
              have hR : lastP f n x = x + 1 := by
                unfold lastP
                rw [if_neg (fun w => by have := ltB_t.mp w; omega), if_neg (fun w => by have := fgB_t.mp w; omega), if_pos (by omega)]
              rw [hR]
    · have loop44_ : ∀ i : Int, i ≤ n - 1 → x ≤ i → runI (fun j => fgB (f j)) (n - 1 - x).toNat x = runI (fun j => fgB (f j)) (n - 1 - i).toNat i → mm_wp (mm_Ev mm_ct mm_CM (d + 1)) 49 (44, [some (.ref 597), some (.int (iI n)), some (.int (iI x)), some (.int (iI i))], [], MX L t s l) (fun r => r = (some (.int (iI (lastP f n x))), MX L t s l)) := by
        refine up_ind ?_
        intro i hi9 ih hxi hrun
        have hfi := hf (i + 1)
        refine wi_i1 hc rfl rfl ?_
        refine wi_ic hc rfl ?_
        refine wi_add hc rfl ?_
        refine wi_i1 hc rfl rfl ?_
        refine wi_cge hc rfl ⟨by omega, by omega⟩ ⟨by omega, by omega⟩ (fun h9_ => ?_) (fun h9_ => ?_)
        · refine wi_i1 hc rfl rfl ?_
          refine wi_ri hc rfl (by rw [cm_49]; rfl) ?_
          have hR : lastP f n x = i := by
            unfold lastP
            by_cases q : ltB (f x) = true
            · rw [if_pos q]
              first
              | (rw [hrun, runI_e (by omega)])
              | (rw [hrun, runI_s (by omega)]; exact if_neg (fun w => by have := ltB_t.mp w; omega))
              | (exfalso; have := ltB_t.mp q; omega)
            · rw [if_neg q]
              first
              | (exfalso; exact q (ltB_t.mpr (by omega)))
              | (rw [if_pos (fgB_t.mpr (by omega)), hrun, runI_e (by omega)])
              | (rw [if_pos (fgB_t.mpr (by omega)), hrun, runI_s (by omega)]; exact if_neg (fun w => by have := fgB_t.mp w; omega))
          rw [hR]
        · refine wi_a1 hc rfl rfl ?_
          refine wi_i1 hc rfl rfl ?_
          refine wi_ic hc rfl ?_
          refine wi_add hc rfl ?_
          refine wi_ildv (N := 300) hc rfl rfl (by decide) (by decide) (by omega) (by omega) (v := f (i + 1)) (congrFun (hT) _) ?_
          refine wp_cs (As := [.int (iI (f (i + 1)))]) (r := []) hc rfl (by rw [cm_48]; rfl) rfl (Nat.le_of_ble_eq_true rfl) (ev_mono (sp_48 (d := 0) ⟨by omega, by omega⟩) (by omega)) ?_
          show mm_wp _ _ (59, [some (.ref 597), some (.int (iI n)), some (.int (iI x)), some (.int (iI i))], [.int (iI (bI (48 ≤ (f (i + 1)) ∧ (f (i + 1)) ≤ 57)))], MX L t s l) _
          refine wi_beq hc rfl (fun h10_ => ?_) (fun h10_ => ?_)
          · refine wi_i1 hc rfl rfl ?_
            refine wi_ri hc rfl (by rw [cm_49]; rfl) ?_
            have hR : lastP f n x = i := by
              unfold lastP
              by_cases q : ltB (f x) = true
              · rw [if_pos q]
                first
                | (rw [hrun, runI_e (by omega)])
                | (rw [hrun, runI_s (by omega)]; exact if_neg (fun w => by have := ltB_t.mp w; omega))
                | (exfalso; have := ltB_t.mp q; omega)
              · rw [if_neg q]
                first
                | (exfalso; exact q (ltB_t.mpr (by omega)))
                | (rw [if_pos (fgB_t.mpr (by omega)), hrun, runI_e (by omega)])
                | (rw [if_pos (fgB_t.mpr (by omega)), hrun, runI_s (by omega)]; exact if_neg (fun w => by have := fgB_t.mp w; omega))
            rw [hR]
          · refine wi_inc (L' := [some (.ref 597), some (.int (iI n)), some (.int (iI x)), some (.int (iI (i + 1)))]) hc rfl rfl rfl ?_
            refine wi_go hc rfl ?_
            exact ih (by omega) (by omega) (by rw [hrun, runI_s (by omega)]; exact if_pos (fgB_t.mpr (by omega)))
      exact loop44_ x (by omega) (by omega) rfl
  · have loop11_ : ∀ i : Int, i ≤ n - 1 → x ≤ i → runI (fun j => ltB (f j)) (n - 1 - x).toNat x = runI (fun j => ltB (f j)) (n - 1 - i).toNat i → mm_wp (mm_Ev mm_ct mm_CM (d + 1)) 49 (11, [some (.ref 597), some (.int (iI n)), some (.int (iI x)), some (.int (iI i))], [], MX L t s l) (fun r => r = (some (.int (iI (lastP f n x))), MX L t s l)) := by
      refine up_ind ?_
      intro i hi9 ih hxi hrun
      have hfi := hf (i + 1)
      refine wi_i1 hc rfl rfl ?_
      refine wi_ic hc rfl ?_
      refine wi_add hc rfl ?_
      refine wi_i1 hc rfl rfl ?_
      refine wi_cge hc rfl ⟨by omega, by omega⟩ ⟨by omega, by omega⟩ (fun h11_ => ?_) (fun h11_ => ?_)
      · refine wi_i1 hc rfl rfl ?_
        refine wi_ri hc rfl (by rw [cm_49]; rfl) ?_
        have hR : lastP f n x = i := by
          unfold lastP
          by_cases q : ltB (f x) = true
          · rw [if_pos q]
            first
            | (rw [hrun, runI_e (by omega)])
            | (rw [hrun, runI_s (by omega)]; exact if_neg (fun w => by have := ltB_t.mp w; omega))
            | (exfalso; have := ltB_t.mp q; omega)
          · rw [if_neg q]
            first
            | (exfalso; exact q (ltB_t.mpr (by omega)))
            | (rw [if_pos (fgB_t.mpr (by omega)), hrun, runI_e (by omega)])
            | (rw [if_pos (fgB_t.mpr (by omega)), hrun, runI_s (by omega)]; exact if_neg (fun w => by have := fgB_t.mp w; omega))
        rw [hR]
      · refine wi_a1 hc rfl rfl ?_
        refine wi_i1 hc rfl rfl ?_
        refine wi_ic hc rfl ?_
        refine wi_add hc rfl ?_
        refine wi_ildv (N := 300) hc rfl rfl (by decide) (by decide) (by omega) (by omega) (v := f (i + 1)) (congrFun (hT) _) ?_
        refine wp_cs (As := [.int (iI (f (i + 1)))]) (r := []) hc rfl (by rw [cm_47]; rfl) rfl (Nat.le_of_ble_eq_true rfl) (ev_mono (sp_47 (d := 0) ⟨by omega, by omega⟩) (by omega)) ?_
        show mm_wp _ _ (26, [some (.ref 597), some (.int (iI n)), some (.int (iI x)), some (.int (iI i))], [.int (iI (bI ((97 ≤ (f (i + 1)) ∧ (f (i + 1)) ≤ 122) ∨ (65 ≤ (f (i + 1)) ∧ (f (i + 1)) ≤ 90))))], MX L t s l) _
        refine wi_beq hc rfl (fun h12_ => ?_) (fun h12_ => ?_)
        · refine wi_i1 hc rfl rfl ?_
          refine wi_ri hc rfl (by rw [cm_49]; rfl) ?_
          have hR : lastP f n x = i := by
            unfold lastP
            by_cases q : ltB (f x) = true
            · rw [if_pos q]
              first
              | (rw [hrun, runI_e (by omega)])
              | (rw [hrun, runI_s (by omega)]; exact if_neg (fun w => by have := ltB_t.mp w; omega))
              | (exfalso; have := ltB_t.mp q; omega)
            · rw [if_neg q]
              first
              | (exfalso; exact q (ltB_t.mpr (by omega)))
              | (rw [if_pos (fgB_t.mpr (by omega)), hrun, runI_e (by omega)])
              | (rw [if_pos (fgB_t.mpr (by omega)), hrun, runI_s (by omega)]; exact if_neg (fun w => by have := fgB_t.mp w; omega))
          rw [hR]
        · refine wi_inc (L' := [some (.ref 597), some (.int (iI n)), some (.int (iI x)), some (.int (iI (i + 1)))]) hc rfl rfl rfl ?_
          refine wi_go hc rfl ?_
          exact ih (by omega) (by omega) (by rw [hrun, runI_s (by omega)]; exact if_pos (ltB_t.mpr (by omega)))
    exact loop11_ x (by omega) (by omega) rfl
