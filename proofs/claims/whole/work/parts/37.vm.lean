/-! The stack machines of both sides: one step's arithmetic. -/
def clipI (v : Int) : Int := if v > 1000000 then 1000000 else if v < -1000000 then -1000000 else v
theorem sp_200 {d L t : Nat} {s l : Nat → Int → Int} {v : Int} (hv : rL v) : mm_Ev mm_ct mm_CM (d + 1) 200 [.long (lI v)] (MX L t s l) (some (.long (lI (clipI v))), MX L t s l) := by
  have hc : (mm_CM 200).2.2.2.2.2.2.2 = mm_cf cd_200 := by rw [cm_200]; rfl
  refine ev_of (mx := 2) (by rw [cm_200]; decide) (by rw [cm_200]; rfl) (by show 2 ≤ _; decide) ?_
  show mm_wp _ _ (0, [some (.long (lI v)), none], [], MX L t s l) _
  refine wi_l1 hc rfl rfl ?_
  refine wl_ld (z := 1000000) hc rfl rfl ?_
  have h1_ := cmpI_spec v 1000000
  refine wl_cmp hc rfl hv ⟨by decide, by decide⟩ ?_
  refine wi_zle hc rfl (cmpI_r _ _) (fun h2_ => ?_) (fun h2_ => ?_)
  · refine wi_l1 hc rfl rfl ?_
    refine wl_ld (z := -1000000) hc rfl rfl ?_
    have h3_ := cmpI_spec v (-1000000)
    refine wl_cmp hc rfl hv ⟨by decide, by decide⟩ ?_
    refine wi_zge hc rfl (cmpI_r _ _) (fun h4_ => ?_) (fun h4_ => ?_)
    · refine wi_l1 hc rfl rfl ?_
      refine wi_rl hc rfl (by rw [cm_200]; rfl) ?_
      rw [show clipI v = v by unfold clipI; (repeat split) <;> omega]
    · refine wl_ld (z := -1000000) hc rfl rfl ?_
      refine wi_go hc rfl ?_
      refine wi_rl hc rfl (by rw [cm_200]; rfl) ?_
      rw [show clipI v = (-1000000) by unfold clipI; (repeat split) <;> omega]
  · refine wl_ld (z := 1000000) hc rfl rfl ?_
    refine wi_go hc rfl ?_
    refine wi_rl hc rfl (by rw [cm_200]; rfl) ?_
    rw [show clipI v = 1000000 by unfold clipI; (repeat split) <;> omega]
def twoI (o x y : Int) : Int := if o = 3 then clipI (x + y) else if o = 4 then clipI (x - y) else if o = 5 then clipI (x * y) else if y = 0 then 0 else clipI (x.tdiv y)
theorem sp_201 {d L t : Nat} {s l : Nat → Int → Int} {o x y : Int} (ho : rI o) (hx0 : -1000000 ≤ x) (hx1 : x ≤ 1000000) (hy0 : -1000000 ≤ y) (hy1 : y ≤ 1000000) : mm_Ev mm_ct mm_CM (d + 2) 201 [.int (iI o), .long (lI x), .long (lI y)] (MX L t s l) (some (.long (lI (twoI o x y))), MX L t s l) := by
  have hc : (mm_CM 201).2.2.2.2.2.2.2 = mm_cf cd_201 := by rw [cm_201]; rfl
  refine ev_of (mx := 5) (by rw [cm_201]; decide) (by rw [cm_201]; rfl) (by show 5 ≤ _; decide) ?_
  show mm_wp _ _ (0, [some (.int (iI o)), some (.long (lI x)), none, some (.long (lI y)), none], [], MX L t s l) _
  have hm0 : (x * y).natAbs ≤ 1000000 * 1000000 := by rw [Int.natAbs_mul]; exact Nat.mul_le_mul (by omega) (by omega)
  have hm : rL (x * y) := ⟨by omega, by omega⟩
  have hd0 : (x.tdiv y).natAbs ≤ 1000000 := by rw [Int.natAbs_tdiv]; exact Nat.le_trans (Nat.div_le_self _ _) (by omega)
  have hd : rL (x.tdiv y) := ⟨by omega, by omega⟩
  refine wi_i1 hc rfl rfl ?_
  refine wi_sw hc rfl ho ?_
  refine wp_if (fun h1_ => ?_) (fun h1_ => ?_)
  · refine wi_l1 hc rfl rfl ?_
    refine wi_l1 hc rfl rfl ?_
    refine wl_add hc rfl ?_
    refine wp_cs (As := [.long (lI (x + y))]) (r := []) hc rfl (by rw [cm_200]; rfl) rfl (Nat.le_of_ble_eq_true rfl) (ev_mono (sp_200 (d := 0) ⟨by omega, by omega⟩) (by omega)) ?_
    show mm_wp _ _ (34, [some (.int (iI o)), some (.long (lI x)), none, some (.long (lI y)), none], [.long (lI (clipI (x + y)))], MX L t s l) _
    refine wi_rl hc rfl (by rw [cm_201]; rfl) ?_
    rw [show twoI o x y = clipI (x + y) by unfold twoI; first | (rw [if_pos (by omega)]) | (rw [if_neg (by omega), if_pos (by omega)]) | (rw [if_neg (by omega), if_neg (by omega), if_pos (by omega)]) | (rw [if_neg (by omega), if_neg (by omega), if_neg (by omega), if_pos (by omega)]) | (rw [if_neg (by omega), if_neg (by omega), if_neg (by omega), if_neg (by omega)])]
  · skip
    refine wp_if (fun h2_ => ?_) (fun h2_ => ?_)
    · refine wi_l1 hc rfl rfl ?_
      refine wi_l1 hc rfl rfl ?_
      refine wl_sub hc rfl ?_
      refine wp_cs (As := [.long (lI (x - y))]) (r := []) hc rfl (by rw [cm_200]; rfl) rfl (Nat.le_of_ble_eq_true rfl) (ev_mono (sp_200 (d := 0) ⟨by omega, by omega⟩) (by omega)) ?_
      show mm_wp _ _ (41, [some (.int (iI o)), some (.long (lI x)), none, some (.long (lI y)), none], [.long (lI (clipI (x - y)))], MX L t s l) _
      refine wi_rl hc rfl (by rw [cm_201]; rfl) ?_
      rw [show twoI o x y = clipI (x - y) by unfold twoI; first | (rw [if_pos (by omega)]) | (rw [if_neg (by omega), if_pos (by omega)]) | (rw [if_neg (by omega), if_neg (by omega), if_pos (by omega)]) | (rw [if_neg (by omega), if_neg (by omega), if_neg (by omega), if_pos (by omega)]) | (rw [if_neg (by omega), if_neg (by omega), if_neg (by omega), if_neg (by omega)])]
    · skip
      refine wp_if (fun h3_ => ?_) (fun h3_ => ?_)
      · refine wi_l1 hc rfl rfl ?_
        refine wi_l1 hc rfl rfl ?_
        refine wl_mul hc rfl ?_
        refine wp_cs (As := [.long (lI (x * y))]) (r := []) hc rfl (by rw [cm_200]; rfl) rfl (Nat.le_of_ble_eq_true rfl) (ev_mono (sp_200 (d := 0) hm) (by omega)) ?_
        show mm_wp _ _ (48, [some (.int (iI o)), some (.long (lI x)), none, some (.long (lI y)), none], [.long (lI (clipI (x * y)))], MX L t s l) _
        refine wi_rl hc rfl (by rw [cm_201]; rfl) ?_
        rw [show twoI o x y = clipI (x * y) by unfold twoI; first | (rw [if_pos (by omega)]) | (rw [if_neg (by omega), if_pos (by omega)]) | (rw [if_neg (by omega), if_neg (by omega), if_pos (by omega)]) | (rw [if_neg (by omega), if_neg (by omega), if_neg (by omega), if_pos (by omega)]) | (rw [if_neg (by omega), if_neg (by omega), if_neg (by omega), if_neg (by omega)])]
      · skip
        show mm_wp _ _ (49, [some (.int (iI o)), some (.long (lI x)), none, some (.long (lI y)), none], [], MX L t s l) _
        refine wi_l1 hc rfl rfl ?_
        refine wl_ic (z := 0) hc ⟨_, rfl, rfl⟩ ?_
        have h4_ := cmpI_spec y 0
        refine wl_cmp hc rfl ⟨by omega, by omega⟩ ⟨by decide, by decide⟩ ?_
        refine wi_zne hc rfl (cmpI_r _ _) (fun h5_ => ?_) (fun h5_ => ?_)
        · refine wi_l1 hc rfl rfl ?_
          refine wi_l1 hc rfl rfl ?_
          refine wl_div hc rfl ⟨by omega, by omega⟩ ⟨by omega, by omega⟩ (by omega) (by omega) ?_
          refine wp_cs (As := [.long (lI (x.tdiv y))]) (r := []) hc rfl (by rw [cm_200]; rfl) rfl (Nat.le_of_ble_eq_true rfl) (ev_mono (sp_200 (d := 0) hd) (by omega)) ?_
          show mm_wp _ _ (65, [some (.int (iI o)), some (.long (lI x)), none, some (.long (lI y)), none], [.long (lI (clipI (x.tdiv y)))], MX L t s l) _
          refine wi_rl hc rfl (by rw [cm_201]; rfl) ?_
          rw [show twoI o x y = clipI (x.tdiv y) by unfold twoI; first | (rw [if_pos (by omega)]) | (rw [if_neg (by omega), if_pos (by omega)]) | (rw [if_neg (by omega), if_neg (by omega), if_pos (by omega)]) | (rw [if_neg (by omega), if_neg (by omega), if_neg (by omega), if_pos (by omega)]) | (rw [if_neg (by omega), if_neg (by omega), if_neg (by omega), if_neg (by omega)])]
        · refine wl_ic (z := 0) hc ⟨_, rfl, rfl⟩ ?_
          refine wi_go hc rfl ?_
          refine wi_rl hc rfl (by rw [cm_201]; rfl) ?_
          rw [show twoI o x y = 0 by unfold twoI; first | (rw [if_pos (by omega)]) | (rw [if_neg (by omega), if_pos (by omega)]) | (rw [if_neg (by omega), if_neg (by omega), if_pos (by omega)]) | (rw [if_neg (by omega), if_neg (by omega), if_neg (by omega), if_pos (by omega)]) | (rw [if_neg (by omega), if_neg (by omega), if_neg (by omega), if_neg (by omega)])]
def askB (o x y : Int) : Bool := if o = 10 then decide (x < y) else if o = 11 then decide (x ≤ y) else if o = 12 then decide (y < x) else if o = 13 then decide (y ≤ x) else if o = 14 then decide (x = y) else decide (x ≠ y)
theorem sp_202 {d L t : Nat} {s l : Nat → Int → Int} {o x y : Int} (ho : rI o) (hx : rL x) (hy : rL y) : mm_Ev mm_ct mm_CM (d + 1) 202 [.int (iI o), .long (lI x), .long (lI y)] (MX L t s l) (some (.int (iI (bI (askB o x y = true)))), MX L t s l) := by
  have hc : (mm_CM 202).2.2.2.2.2.2.2 = mm_cf cd_202 := by rw [cm_202]; rfl
  refine ev_of (mx := 5) (by rw [cm_202]; decide) (by rw [cm_202]; rfl) (by show 5 ≤ _; decide) ?_
  show mm_wp _ _ (0, [some (.int (iI o)), some (.long (lI x)), none, some (.long (lI y)), none], [], MX L t s l) _
  refine wi_i1 hc rfl rfl ?_
  refine wi_bi hc rfl rfl ?_
  refine wi_cne hc rfl ho ⟨by decide, by decide⟩ (fun h1_ => ?_) (fun h1_ => ?_)
  · refine wi_i1 hc rfl rfl ?_
    refine wi_bi hc rfl rfl ?_
    refine wi_cne hc rfl ho ⟨by decide, by decide⟩ (fun h2_ => ?_) (fun h2_ => ?_)
    · refine wi_i1 hc rfl rfl ?_
      refine wi_bi hc rfl rfl ?_
      refine wi_cne hc rfl ho ⟨by decide, by decide⟩ (fun h3_ => ?_) (fun h3_ => ?_)
      · refine wi_i1 hc rfl rfl ?_
        refine wi_bi hc rfl rfl ?_
        refine wi_cne hc rfl ho ⟨by decide, by decide⟩ (fun h4_ => ?_) (fun h4_ => ?_)
        · refine wi_i1 hc rfl rfl ?_
          refine wi_bi hc rfl rfl ?_
          refine wi_cne hc rfl ho ⟨by decide, by decide⟩ (fun h5_ => ?_) (fun h5_ => ?_)
          · refine wi_l1 hc rfl rfl ?_
            refine wi_l1 hc rfl rfl ?_
            have h6_ := cmpI_spec x y
            refine wl_cmp hc rfl hx hy ?_
            refine wi_zeq hc rfl (cmpI_r _ _) (fun h7_ => ?_) (fun h7_ => ?_)
            · refine wi_ic hc rfl ?_
              refine wi_r0 hc rfl (by rw [cm_202]; rfl) ?_
              rw [bI_f (p := askB o x y = true) (by unfold askB; (repeat' split) <;> simp <;> omega)]
            · refine wi_ic hc rfl ?_
              refine wi_go hc rfl ?_
              refine wi_r1 hc rfl (by rw [cm_202]; rfl) ?_
              rw [bI_t (p := askB o x y = true) (by unfold askB; (repeat' split) <;> simp <;> omega)]
          · refine wi_l1 hc rfl rfl ?_
            refine wi_l1 hc rfl rfl ?_
            have h8_ := cmpI_spec x y
            refine wl_cmp hc rfl hx hy ?_
            refine wi_zne hc rfl (cmpI_r _ _) (fun h9_ => ?_) (fun h9_ => ?_)
            · refine wi_ic hc rfl ?_
              refine wi_go hc rfl ?_
              refine wi_r0 hc rfl (by rw [cm_202]; rfl) ?_
              rw [bI_f (p := askB o x y = true) (by unfold askB; (repeat' split) <;> simp <;> omega)]
            · refine wi_ic hc rfl ?_
              refine wi_go hc rfl ?_
              refine wi_r1 hc rfl (by rw [cm_202]; rfl) ?_
              rw [bI_t (p := askB o x y = true) (by unfold askB; (repeat' split) <;> simp <;> omega)]
        · refine wi_l1 hc rfl rfl ?_
          refine wi_l1 hc rfl rfl ?_
          have h10_ := cmpI_spec x y
          refine wl_cmp hc rfl hx hy ?_
          refine wi_zlt hc rfl (cmpI_r _ _) (fun h11_ => ?_) (fun h11_ => ?_)
          · refine wi_ic hc rfl ?_
            refine wi_go hc rfl ?_
            refine wi_r0 hc rfl (by rw [cm_202]; rfl) ?_
            rw [bI_f (p := askB o x y = true) (by unfold askB; (repeat' split) <;> simp <;> omega)]
          · refine wi_ic hc rfl ?_
            refine wi_go hc rfl ?_
            refine wi_r1 hc rfl (by rw [cm_202]; rfl) ?_
            rw [bI_t (p := askB o x y = true) (by unfold askB; (repeat' split) <;> simp <;> omega)]
      · refine wi_l1 hc rfl rfl ?_
        refine wi_l1 hc rfl rfl ?_
        have h12_ := cmpI_spec x y
        refine wl_cmp hc rfl hx hy ?_
        refine wi_zle hc rfl (cmpI_r _ _) (fun h13_ => ?_) (fun h13_ => ?_)
        · refine wi_ic hc rfl ?_
          refine wi_go hc rfl ?_
          refine wi_r0 hc rfl (by rw [cm_202]; rfl) ?_
          rw [bI_f (p := askB o x y = true) (by unfold askB; (repeat' split) <;> simp <;> omega)]
        · refine wi_ic hc rfl ?_
          refine wi_go hc rfl ?_
          refine wi_r1 hc rfl (by rw [cm_202]; rfl) ?_
          rw [bI_t (p := askB o x y = true) (by unfold askB; (repeat' split) <;> simp <;> omega)]
    · refine wi_l1 hc rfl rfl ?_
      refine wi_l1 hc rfl rfl ?_
      have h14_ := cmpI_spec x y
      refine wl_cmp hc rfl hx hy ?_
      refine wi_zgt hc rfl (cmpI_r _ _) (fun h15_ => ?_) (fun h15_ => ?_)
      · refine wi_ic hc rfl ?_
        refine wi_go hc rfl ?_
        refine wi_r0 hc rfl (by rw [cm_202]; rfl) ?_
        rw [bI_f (p := askB o x y = true) (by unfold askB; (repeat' split) <;> simp <;> omega)]
      · refine wi_ic hc rfl ?_
        refine wi_go hc rfl ?_
        refine wi_r1 hc rfl (by rw [cm_202]; rfl) ?_
        rw [bI_t (p := askB o x y = true) (by unfold askB; (repeat' split) <;> simp <;> omega)]
  · refine wi_l1 hc rfl rfl ?_
    refine wi_l1 hc rfl rfl ?_
    have h16_ := cmpI_spec x y
    refine wl_cmp hc rfl hx hy ?_
    refine wi_zge hc rfl (cmpI_r _ _) (fun h17_ => ?_) (fun h17_ => ?_)
    · refine wi_ic hc rfl ?_
      refine wi_go hc rfl ?_
      refine wi_r0 hc rfl (by rw [cm_202]; rfl) ?_
      rw [bI_f (p := askB o x y = true) (by unfold askB; (repeat' split) <;> simp <;> omega)]
    · refine wi_ic hc rfl ?_
      refine wi_go hc rfl ?_
      refine wi_r1 hc rfl (by rw [cm_202]; rfl) ?_
      rw [bI_t (p := askB o x y = true) (by unfold askB; (repeat' split) <;> simp <;> omega)]
theorem sp_8_29 {d L t : Nat} {s l : Nat → Int → Int} {x y : Int} (hx0 : -1000000 ≤ x) (hx1 : x ≤ 1000000) (hy0 : -1000000 ≤ y) (hy1 : y ≤ 1000000) : mm_Ev mm_ct mm_CM (d + 1) 8 [.int (iI 29), .int (iI x), .int (iI y)] (MX L t s l) (some (.int (iI (bI (askB 10 x y = true)))), MX L t s l) := by
  have hc : (mm_CM 8).2.2.2.2.2.2.2 = mm_cf cd_8 := by rw [cm_8]; rfl
  refine ev_of (mx := 5) (by rw [cm_8]; decide) (by rw [cm_8]; rfl) (by show 3 ≤ _; decide) ?_
  show mm_wp _ _ (0, [some (.int (iI 29)), some (.int (iI x)), some (.int (iI y)), none, none], [], MX L t s l) _
  refine wi_i1 hc rfl rfl ?_
  refine wi_sw hc rfl ⟨by decide, by decide⟩ ?_
  show mm_wp _ _ (88, [some (.int (iI 29)), some (.int (iI x)), some (.int (iI y)), none, none], [], MX L t s l) _
  refine wi_i1 hc rfl rfl ?_
  refine wi_i1 hc rfl rfl ?_
  refine wi_cge hc rfl ⟨by omega, by omega⟩ ⟨by omega, by omega⟩ (fun h1_ => ?_) (fun h1_ => ?_)
  · refine wi_ic hc rfl ?_
    refine wi_ri hc rfl (by rw [cm_8]; rfl) ?_
    rw [bI_f (p := askB 10 x y = true) (by unfold askB; simp <;> omega)]
  · refine wi_ic hc rfl ?_
    refine wi_go hc rfl ?_
    refine wi_ri hc rfl (by rw [cm_8]; rfl) ?_
    rw [bI_t (p := askB 10 x y = true) (by unfold askB; simp <;> omega)]
theorem sp_8_30 {d L t : Nat} {s l : Nat → Int → Int} {x y : Int} (hx0 : -1000000 ≤ x) (hx1 : x ≤ 1000000) (hy0 : -1000000 ≤ y) (hy1 : y ≤ 1000000) : mm_Ev mm_ct mm_CM (d + 1) 8 [.int (iI 30), .int (iI x), .int (iI y)] (MX L t s l) (some (.int (iI (bI (askB 12 x y = true)))), MX L t s l) := by
  have hc : (mm_CM 8).2.2.2.2.2.2.2 = mm_cf cd_8 := by rw [cm_8]; rfl
  refine ev_of (mx := 5) (by rw [cm_8]; decide) (by rw [cm_8]; rfl) (by show 3 ≤ _; decide) ?_
  show mm_wp _ _ (0, [some (.int (iI 30)), some (.int (iI x)), some (.int (iI y)), none, none], [], MX L t s l) _
  refine wi_i1 hc rfl rfl ?_
  refine wi_sw hc rfl ⟨by decide, by decide⟩ ?_
  show mm_wp _ _ (99, [some (.int (iI 30)), some (.int (iI x)), some (.int (iI y)), none, none], [], MX L t s l) _
  refine wi_i1 hc rfl rfl ?_
  refine wi_i1 hc rfl rfl ?_
  refine wi_cle hc rfl ⟨by omega, by omega⟩ ⟨by omega, by omega⟩ (fun h1_ => ?_) (fun h1_ => ?_)
  · refine wi_ic hc rfl ?_
    refine wi_ri hc rfl (by rw [cm_8]; rfl) ?_
    rw [bI_f (p := askB 12 x y = true) (by unfold askB; simp <;> omega)]
  · refine wi_ic hc rfl ?_
    refine wi_go hc rfl ?_
    refine wi_ri hc rfl (by rw [cm_8]; rfl) ?_
    rw [bI_t (p := askB 12 x y = true) (by unfold askB; simp <;> omega)]
theorem sp_8_31 {d L t : Nat} {s l : Nat → Int → Int} {x y : Int} (hx0 : -1000000 ≤ x) (hx1 : x ≤ 1000000) (hy0 : -1000000 ≤ y) (hy1 : y ≤ 1000000) : mm_Ev mm_ct mm_CM (d + 1) 8 [.int (iI 31), .int (iI x), .int (iI y)] (MX L t s l) (some (.int (iI (bI (askB 14 x y = true)))), MX L t s l) := by
  have hc : (mm_CM 8).2.2.2.2.2.2.2 = mm_cf cd_8 := by rw [cm_8]; rfl
  refine ev_of (mx := 5) (by rw [cm_8]; decide) (by rw [cm_8]; rfl) (by show 3 ≤ _; decide) ?_
  show mm_wp _ _ (0, [some (.int (iI 31)), some (.int (iI x)), some (.int (iI y)), none, none], [], MX L t s l) _
  refine wi_i1 hc rfl rfl ?_
  refine wi_sw hc rfl ⟨by decide, by decide⟩ ?_
  show mm_wp _ _ (110, [some (.int (iI 31)), some (.int (iI x)), some (.int (iI y)), none, none], [], MX L t s l) _
  refine wi_i1 hc rfl rfl ?_
  refine wi_i1 hc rfl rfl ?_
  refine wi_cne hc rfl ⟨by omega, by omega⟩ ⟨by omega, by omega⟩ (fun h1_ => ?_) (fun h1_ => ?_)
  · refine wi_ic hc rfl ?_
    refine wi_ri hc rfl (by rw [cm_8]; rfl) ?_
    rw [bI_f (p := askB 14 x y = true) (by unfold askB; simp <;> omega)]
  · refine wi_ic hc rfl ?_
    refine wi_go hc rfl ?_
    refine wi_ri hc rfl (by rw [cm_8]; rfl) ?_
    rw [bI_t (p := askB 14 x y = true) (by unfold askB; simp <;> omega)]
theorem sp_8_32 {d L t : Nat} {s l : Nat → Int → Int} {x y : Int} (hx0 : -1000000 ≤ x) (hx1 : x ≤ 1000000) (hy0 : -1000000 ≤ y) (hy1 : y ≤ 1000000) : mm_Ev mm_ct mm_CM (d + 1) 8 [.int (iI 32), .int (iI x), .int (iI y)] (MX L t s l) (some (.int (iI (bI (askB 15 x y = true)))), MX L t s l) := by
  have hc : (mm_CM 8).2.2.2.2.2.2.2 = mm_cf cd_8 := by rw [cm_8]; rfl
  refine ev_of (mx := 5) (by rw [cm_8]; decide) (by rw [cm_8]; rfl) (by show 3 ≤ _; decide) ?_
  show mm_wp _ _ (0, [some (.int (iI 32)), some (.int (iI x)), some (.int (iI y)), none, none], [], MX L t s l) _
  refine wi_i1 hc rfl rfl ?_
  refine wi_sw hc rfl ⟨by decide, by decide⟩ ?_
  show mm_wp _ _ (121, [some (.int (iI 32)), some (.int (iI x)), some (.int (iI y)), none, none], [], MX L t s l) _
  refine wi_i1 hc rfl rfl ?_
  refine wi_i1 hc rfl rfl ?_
  refine wi_ceq hc rfl ⟨by omega, by omega⟩ ⟨by omega, by omega⟩ (fun h1_ => ?_) (fun h1_ => ?_)
  · refine wi_ic hc rfl ?_
    refine wi_ri hc rfl (by rw [cm_8]; rfl) ?_
    rw [bI_f (p := askB 15 x y = true) (by unfold askB; simp <;> omega)]
  · refine wi_ic hc rfl ?_
    refine wi_go hc rfl ?_
    refine wi_ri hc rfl (by rw [cm_8]; rfl) ?_
    rw [bI_t (p := askB 15 x y = true) (by unfold askB; simp <;> omega)]
theorem sp_8_40 {d L t : Nat} {s l : Nat → Int → Int} {x y : Int} (hx0 : -1000000 ≤ x) (hx1 : x ≤ 1000000) (hy0 : -1000000 ≤ y) (hy1 : y ≤ 1000000) : mm_Ev mm_ct mm_CM (d + 1) 8 [.int (iI 40), .int (iI x), .int (iI y)] (MX L t s l) (some (.int (iI (bI (askB 11 x y = true)))), MX L t s l) := by
  have hc : (mm_CM 8).2.2.2.2.2.2.2 = mm_cf cd_8 := by rw [cm_8]; rfl
  refine ev_of (mx := 5) (by rw [cm_8]; decide) (by rw [cm_8]; rfl) (by show 3 ≤ _; decide) ?_
  show mm_wp _ _ (0, [some (.int (iI 40)), some (.int (iI x)), some (.int (iI y)), none, none], [], MX L t s l) _
  refine wi_i1 hc rfl rfl ?_
  refine wi_sw hc rfl ⟨by decide, by decide⟩ ?_
  show mm_wp _ _ (132, [some (.int (iI 40)), some (.int (iI x)), some (.int (iI y)), none, none], [], MX L t s l) _
  refine wi_i1 hc rfl rfl ?_
  refine wi_i1 hc rfl rfl ?_
  refine wi_cgt hc rfl ⟨by omega, by omega⟩ ⟨by omega, by omega⟩ (fun h1_ => ?_) (fun h1_ => ?_)
  · refine wi_ic hc rfl ?_
    refine wi_ri hc rfl (by rw [cm_8]; rfl) ?_
    rw [bI_f (p := askB 11 x y = true) (by unfold askB; simp <;> omega)]
  · refine wi_ic hc rfl ?_
    refine wi_go hc rfl ?_
    refine wi_ri hc rfl (by rw [cm_8]; rfl) ?_
    rw [bI_t (p := askB 11 x y = true) (by unfold askB; simp <;> omega)]
theorem sp_8_41 {d L t : Nat} {s l : Nat → Int → Int} {x y : Int} (hx0 : -1000000 ≤ x) (hx1 : x ≤ 1000000) (hy0 : -1000000 ≤ y) (hy1 : y ≤ 1000000) : mm_Ev mm_ct mm_CM (d + 1) 8 [.int (iI 41), .int (iI x), .int (iI y)] (MX L t s l) (some (.int (iI (bI (askB 13 x y = true)))), MX L t s l) := by
  have hc : (mm_CM 8).2.2.2.2.2.2.2 = mm_cf cd_8 := by rw [cm_8]; rfl
  refine ev_of (mx := 5) (by rw [cm_8]; decide) (by rw [cm_8]; rfl) (by show 3 ≤ _; decide) ?_
  show mm_wp _ _ (0, [some (.int (iI 41)), some (.int (iI x)), some (.int (iI y)), none, none], [], MX L t s l) _
  refine wi_i1 hc rfl rfl ?_
  refine wi_sw hc rfl ⟨by decide, by decide⟩ ?_
  show mm_wp _ _ (143, [some (.int (iI 41)), some (.int (iI x)), some (.int (iI y)), none, none], [], MX L t s l) _
  refine wi_i1 hc rfl rfl ?_
  refine wi_i1 hc rfl rfl ?_
  refine wi_clt hc rfl ⟨by omega, by omega⟩ ⟨by omega, by omega⟩ (fun h1_ => ?_) (fun h1_ => ?_)
  · refine wi_ic hc rfl ?_
    refine wi_ri hc rfl (by rw [cm_8]; rfl) ?_
    rw [bI_f (p := askB 13 x y = true) (by unfold askB; simp <;> omega)]
  · refine wi_ic hc rfl ?_
    refine wi_go hc rfl ?_
    refine wi_ri hc rfl (by rw [cm_8]; rfl) ?_
    rw [bI_t (p := askB 13 x y = true) (by unfold askB; simp <;> omega)]
theorem sp_8_26 {d L t : Nat} {s l : Nat → Int → Int} {x y : Int} (hx : x = 0 ∨ x = 1) (hy : y = 0 ∨ y = 1) : mm_Ev mm_ct mm_CM (d + 1) 8 [.int (iI 26), .int (iI x), .int (iI y)] (MX L t s l) (some (.int (iI (bI (x = 1 ∨ y = 1)))), MX L t s l) := by
  have hc : (mm_CM 8).2.2.2.2.2.2.2 = mm_cf cd_8 := by rw [cm_8]; rfl
  refine ev_of (mx := 5) (by rw [cm_8]; decide) (by rw [cm_8]; rfl) (by show 3 ≤ _; decide) ?_
  show mm_wp _ _ (0, [some (.int (iI 26)), some (.int (iI x)), some (.int (iI y)), none, none], [], MX L t s l) _
  refine wi_i1 hc rfl rfl ?_
  refine wi_sw hc rfl ⟨by decide, by decide⟩ ?_
  show mm_wp _ _ (80, [some (.int (iI 26)), some (.int (iI x)), some (.int (iI y)), none, none], [], MX L t s l) _
  refine wi_i1 hc rfl rfl ?_
  refine wi_i1 hc rfl rfl ?_
  refine wi_or01 hc rfl (by omega) (by omega) ?_
  refine wi_ri hc rfl (by rw [cm_8]; rfl) ?_
  rfl
theorem sp_8_27 {d L t : Nat} {s l : Nat → Int → Int} {x y : Int} (hx : x = 0 ∨ x = 1) (hy : y = 0 ∨ y = 1) : mm_Ev mm_ct mm_CM (d + 1) 8 [.int (iI 27), .int (iI x), .int (iI y)] (MX L t s l) (some (.int (iI (bI (x = 1 ∧ y = 1)))), MX L t s l) := by
  have hc : (mm_CM 8).2.2.2.2.2.2.2 = mm_cf cd_8 := by rw [cm_8]; rfl
  refine ev_of (mx := 5) (by rw [cm_8]; decide) (by rw [cm_8]; rfl) (by show 3 ≤ _; decide) ?_
  show mm_wp _ _ (0, [some (.int (iI 27)), some (.int (iI x)), some (.int (iI y)), none, none], [], MX L t s l) _
  refine wi_i1 hc rfl rfl ?_
  refine wi_sw hc rfl ⟨by decide, by decide⟩ ?_
  show mm_wp _ _ (84, [some (.int (iI 27)), some (.int (iI x)), some (.int (iI y)), none, none], [], MX L t s l) _
  refine wi_i1 hc rfl rfl ?_
  refine wi_i1 hc rfl rfl ?_
  refine wi_and01 hc rfl (by omega) (by omega) ?_
  refine wi_ri hc rfl (by rw [cm_8]; rfl) ?_
  rfl
theorem sp_8_33 {d L t : Nat} {s l : Nat → Int → Int} {x y : Int} (hx0 : -1000000 ≤ x) (hx1 : x ≤ 1000000) (hy0 : -1000000 ≤ y) (hy1 : y ≤ 1000000) : mm_Ev mm_ct mm_CM (d + 1) 8 [.int (iI 33), .int (iI x), .int (iI y)] (MX L t s l) (some (.int (iI (twoI 3 x y))), MX L t s l) := by
  have hc : (mm_CM 8).2.2.2.2.2.2.2 = mm_cf cd_8 := by rw [cm_8]; rfl
  refine ev_of (mx := 5) (by rw [cm_8]; decide) (by rw [cm_8]; rfl) (by show 3 ≤ _; decide) ?_
  show mm_wp _ _ (0, [some (.int (iI 33)), some (.int (iI x)), some (.int (iI y)), none, none], [], MX L t s l) _
  have hm0 : (x * y).natAbs ≤ 1000000 * 1000000 := by rw [Int.natAbs_mul]; exact Nat.mul_le_mul (by omega) (by omega)
  have hm : rL (x * y) := ⟨by omega, by omega⟩
  refine wi_i1 hc rfl rfl ?_
  refine wi_sw hc rfl ⟨by decide, by decide⟩ ?_
  show mm_wp _ _ (154, [some (.int (iI 33)), some (.int (iI x)), some (.int (iI y)), none, none], [], MX L t s l) _
  refine wi_i1 hc rfl rfl ?_
  refine wl_i2l hc rfl ⟨by omega, by omega⟩ ?_
  refine wi_i1 hc rfl rfl ?_
  refine wl_i2l hc rfl ⟨by omega, by omega⟩ ?_
  refine wl_add hc rfl ?_
  refine wi_ls1 (L' := [some (.int (iI 33)), some (.int (iI x)), some (.int (iI y)), some (.long (lI (x + y))), none]) hc rfl (Nat.le_of_ble_eq_true rfl) rfl ?_
  refine wi_go hc rfl ?_
  refine wi_l1 hc rfl rfl ?_
  refine wl_ld (z := 1000000) hc rfl rfl ?_
  have h1_ := cmpI_spec (x + y) 1000000
  refine wl_cmp hc rfl ⟨by omega, by omega⟩ ⟨by decide, by decide⟩ ?_
  refine wi_zle hc rfl (cmpI_r _ _) (fun h2_ => ?_) (fun h2_ => ?_)
  · refine wi_l1 hc rfl rfl ?_
    refine wl_ld (z := -1000000) hc rfl rfl ?_
    have h3_ := cmpI_spec (x + y) (-1000000)
    refine wl_cmp hc rfl ⟨by omega, by omega⟩ ⟨by decide, by decide⟩ ?_
    refine wi_zge hc rfl (cmpI_r _ _) (fun h4_ => ?_) (fun h4_ => ?_)
    · refine wi_l1 hc rfl rfl ?_
      refine wl_l2i hc rfl ?_
      refine wi_ri hc rfl (by rw [cm_8]; rfl) ?_
      rw [show twoI 3 x y = x + y by (unfold twoI; rw [if_pos rfl]); unfold clipI; (repeat split) <;> omega]
    · refine wi_ldc (z := -1000000) hc rfl rfl ?_
      refine wi_go hc rfl ?_
      refine wi_ri hc rfl (by rw [cm_8]; rfl) ?_
      rw [show twoI 3 x y = (-1000000) by (unfold twoI; rw [if_pos rfl]); unfold clipI; (repeat split) <;> omega]
  · refine wi_ldc (z := 1000000) hc rfl rfl ?_
    refine wi_ri hc rfl (by rw [cm_8]; rfl) ?_
    rw [show twoI 3 x y = 1000000 by (unfold twoI; rw [if_pos rfl]); unfold clipI; (repeat split) <;> omega]
theorem sp_8_34 {d L t : Nat} {s l : Nat → Int → Int} {x y : Int} (hx0 : -1000000 ≤ x) (hx1 : x ≤ 1000000) (hy0 : -1000000 ≤ y) (hy1 : y ≤ 1000000) : mm_Ev mm_ct mm_CM (d + 1) 8 [.int (iI 34), .int (iI x), .int (iI y)] (MX L t s l) (some (.int (iI (twoI 4 x y))), MX L t s l) := by
  have hc : (mm_CM 8).2.2.2.2.2.2.2 = mm_cf cd_8 := by rw [cm_8]; rfl
  refine ev_of (mx := 5) (by rw [cm_8]; decide) (by rw [cm_8]; rfl) (by show 3 ≤ _; decide) ?_
  show mm_wp _ _ (0, [some (.int (iI 34)), some (.int (iI x)), some (.int (iI y)), none, none], [], MX L t s l) _
  have hm0 : (x * y).natAbs ≤ 1000000 * 1000000 := by rw [Int.natAbs_mul]; exact Nat.mul_le_mul (by omega) (by omega)
  have hm : rL (x * y) := ⟨by omega, by omega⟩
  refine wi_i1 hc rfl rfl ?_
  refine wi_sw hc rfl ⟨by decide, by decide⟩ ?_
  show mm_wp _ _ (163, [some (.int (iI 34)), some (.int (iI x)), some (.int (iI y)), none, none], [], MX L t s l) _
  refine wi_i1 hc rfl rfl ?_
  refine wl_i2l hc rfl ⟨by omega, by omega⟩ ?_
  refine wi_i1 hc rfl rfl ?_
  refine wl_i2l hc rfl ⟨by omega, by omega⟩ ?_
  refine wl_sub hc rfl ?_
  refine wi_ls1 (L' := [some (.int (iI 34)), some (.int (iI x)), some (.int (iI y)), some (.long (lI (x - y))), none]) hc rfl (Nat.le_of_ble_eq_true rfl) rfl ?_
  refine wi_go hc rfl ?_
  refine wi_l1 hc rfl rfl ?_
  refine wl_ld (z := 1000000) hc rfl rfl ?_
  have h1_ := cmpI_spec (x - y) 1000000
  refine wl_cmp hc rfl ⟨by omega, by omega⟩ ⟨by decide, by decide⟩ ?_
  refine wi_zle hc rfl (cmpI_r _ _) (fun h2_ => ?_) (fun h2_ => ?_)
  · refine wi_l1 hc rfl rfl ?_
    refine wl_ld (z := -1000000) hc rfl rfl ?_
    have h3_ := cmpI_spec (x - y) (-1000000)
    refine wl_cmp hc rfl ⟨by omega, by omega⟩ ⟨by decide, by decide⟩ ?_
    refine wi_zge hc rfl (cmpI_r _ _) (fun h4_ => ?_) (fun h4_ => ?_)
    · refine wi_l1 hc rfl rfl ?_
      refine wl_l2i hc rfl ?_
      refine wi_ri hc rfl (by rw [cm_8]; rfl) ?_
      rw [show twoI 4 x y = x - y by (unfold twoI; rw [if_neg (by decide), if_pos rfl]); unfold clipI; (repeat split) <;> omega]
    · refine wi_ldc (z := -1000000) hc rfl rfl ?_
      refine wi_go hc rfl ?_
      refine wi_ri hc rfl (by rw [cm_8]; rfl) ?_
      rw [show twoI 4 x y = (-1000000) by (unfold twoI; rw [if_neg (by decide), if_pos rfl]); unfold clipI; (repeat split) <;> omega]
  · refine wi_ldc (z := 1000000) hc rfl rfl ?_
    refine wi_ri hc rfl (by rw [cm_8]; rfl) ?_
    rw [show twoI 4 x y = 1000000 by (unfold twoI; rw [if_neg (by decide), if_pos rfl]); unfold clipI; (repeat split) <;> omega]
theorem sp_8_35 {d L t : Nat} {s l : Nat → Int → Int} {x y : Int} (hx0 : -1000000 ≤ x) (hx1 : x ≤ 1000000) (hy0 : -1000000 ≤ y) (hy1 : y ≤ 1000000) : mm_Ev mm_ct mm_CM (d + 1) 8 [.int (iI 35), .int (iI x), .int (iI y)] (MX L t s l) (some (.int (iI (twoI 5 x y))), MX L t s l) := by
  have hc : (mm_CM 8).2.2.2.2.2.2.2 = mm_cf cd_8 := by rw [cm_8]; rfl
  refine ev_of (mx := 5) (by rw [cm_8]; decide) (by rw [cm_8]; rfl) (by show 3 ≤ _; decide) ?_
  show mm_wp _ _ (0, [some (.int (iI 35)), some (.int (iI x)), some (.int (iI y)), none, none], [], MX L t s l) _
  have hm0 : (x * y).natAbs ≤ 1000000 * 1000000 := by rw [Int.natAbs_mul]; exact Nat.mul_le_mul (by omega) (by omega)
  have hm : rL (x * y) := ⟨by omega, by omega⟩
  refine wi_i1 hc rfl rfl ?_
  refine wi_sw hc rfl ⟨by decide, by decide⟩ ?_
  show mm_wp _ _ (172, [some (.int (iI 35)), some (.int (iI x)), some (.int (iI y)), none, none], [], MX L t s l) _
  refine wi_i1 hc rfl rfl ?_
  refine wl_i2l hc rfl ⟨by omega, by omega⟩ ?_
  refine wi_i1 hc rfl rfl ?_
  refine wl_i2l hc rfl ⟨by omega, by omega⟩ ?_
  refine wl_mul hc rfl ?_
  refine wi_ls1 (L' := [some (.int (iI 35)), some (.int (iI x)), some (.int (iI y)), some (.long (lI (x * y))), none]) hc rfl (Nat.le_of_ble_eq_true rfl) rfl ?_
  refine wi_go hc rfl ?_
  refine wi_l1 hc rfl rfl ?_
  refine wl_ld (z := 1000000) hc rfl rfl ?_
  have h1_ := cmpI_spec (x * y) 1000000
  refine wl_cmp hc rfl hm ⟨by decide, by decide⟩ ?_
  refine wi_zle hc rfl (cmpI_r _ _) (fun h2_ => ?_) (fun h2_ => ?_)
  · refine wi_l1 hc rfl rfl ?_
    refine wl_ld (z := -1000000) hc rfl rfl ?_
    have h3_ := cmpI_spec (x * y) (-1000000)
    refine wl_cmp hc rfl hm ⟨by decide, by decide⟩ ?_
    refine wi_zge hc rfl (cmpI_r _ _) (fun h4_ => ?_) (fun h4_ => ?_)
    · refine wi_l1 hc rfl rfl ?_
      refine wl_l2i hc rfl ?_
      refine wi_ri hc rfl (by rw [cm_8]; rfl) ?_
      rw [show twoI 5 x y = x * y by (unfold twoI; rw [if_neg (by decide), if_neg (by decide), if_pos rfl]); unfold clipI; (repeat split) <;> omega]
    · refine wi_ldc (z := -1000000) hc rfl rfl ?_
      refine wi_go hc rfl ?_
      refine wi_ri hc rfl (by rw [cm_8]; rfl) ?_
      rw [show twoI 5 x y = (-1000000) by (unfold twoI; rw [if_neg (by decide), if_neg (by decide), if_pos rfl]); unfold clipI; (repeat split) <;> omega]
  · refine wi_ldc (z := 1000000) hc rfl rfl ?_
    refine wi_ri hc rfl (by rw [cm_8]; rfl) ?_
    rw [show twoI 5 x y = 1000000 by (unfold twoI; rw [if_neg (by decide), if_neg (by decide), if_pos rfl]); unfold clipI; (repeat split) <;> omega]
theorem sp_8_36 {d L t : Nat} {s l : Nat → Int → Int} {x y : Int} (hx0 : -1000000 ≤ x) (hx1 : x ≤ 1000000) (hy0 : -1000000 ≤ y) (hy1 : y ≤ 1000000) : mm_Ev mm_ct mm_CM (d + 1) 8 [.int (iI 36), .int (iI x), .int (iI y)] (MX L t s l) (some (.int (iI (twoI 6 x y))), MX L t s l) := by
  have hc : (mm_CM 8).2.2.2.2.2.2.2 = mm_cf cd_8 := by rw [cm_8]; rfl
  refine ev_of (mx := 5) (by rw [cm_8]; decide) (by rw [cm_8]; rfl) (by show 3 ≤ _; decide) ?_
  show mm_wp _ _ (0, [some (.int (iI 36)), some (.int (iI x)), some (.int (iI y)), none, none], [], MX L t s l) _
  have hd0 : (x.tdiv y).natAbs ≤ 1000000 := by rw [Int.natAbs_tdiv]; exact Nat.le_trans (Nat.div_le_self _ _) (by omega)
  have hd : rI (x.tdiv y) := ⟨by omega, by omega⟩
  have hdl : rL (x.tdiv y) := ⟨by omega, by omega⟩
  refine wi_i1 hc rfl rfl ?_
  refine wi_sw hc rfl ⟨by decide, by decide⟩ ?_
  show mm_wp _ _ (181, [some (.int (iI 36)), some (.int (iI x)), some (.int (iI y)), none, none], [], MX L t s l) _
  refine wi_i1 hc rfl rfl ?_
  refine wi_zne hc rfl ⟨by omega, by omega⟩ (fun h1_ => ?_) (fun h1_ => ?_)
  · refine wi_i1 hc rfl rfl ?_
    refine wi_i1 hc rfl rfl ?_
    refine wi_div hc rfl ⟨by omega, by omega⟩ ⟨by omega, by omega⟩ (by omega) (by omega) ?_
    refine wl_i2l hc rfl ⟨by omega, by omega⟩ ?_
    refine wi_ls1 (L' := [some (.int (iI 36)), some (.int (iI x)), some (.int (iI y)), some (.long (lI (x.tdiv y))), none]) hc rfl (Nat.le_of_ble_eq_true rfl) rfl ?_
    refine wi_l1 hc rfl rfl ?_
    refine wl_ld (z := 1000000) hc rfl rfl ?_
    have h2_ := cmpI_spec (x.tdiv y) 1000000
    refine wl_cmp hc rfl ⟨by omega, by omega⟩ ⟨by decide, by decide⟩ ?_
    refine wi_zle hc rfl (cmpI_r _ _) (fun h3_ => ?_) (fun h3_ => ?_)
    · refine wi_l1 hc rfl rfl ?_
      refine wl_ld (z := -1000000) hc rfl rfl ?_
      have h4_ := cmpI_spec (x.tdiv y) (-1000000)
      refine wl_cmp hc rfl ⟨by omega, by omega⟩ ⟨by decide, by decide⟩ ?_
      refine wi_zge hc rfl (cmpI_r _ _) (fun h5_ => ?_) (fun h5_ => ?_)
      · refine wi_l1 hc rfl rfl ?_
        refine wl_l2i hc rfl ?_
        refine wi_ri hc rfl (by rw [cm_8]; rfl) ?_
        rw [show twoI 6 x y = x.tdiv y by (unfold twoI; rw [if_neg (by decide), if_neg (by decide), if_neg (by decide)]; first | exact if_pos (by omega) | (rw [if_neg (by omega)]; unfold clipI; (repeat split) <;> omega))]
      · refine wi_ldc (z := -1000000) hc rfl rfl ?_
        refine wi_go hc rfl ?_
        refine wi_ri hc rfl (by rw [cm_8]; rfl) ?_
        rw [show twoI 6 x y = (-1000000) by (unfold twoI; rw [if_neg (by decide), if_neg (by decide), if_neg (by decide)]; first | exact if_pos (by omega) | (rw [if_neg (by omega)]; unfold clipI; (repeat split) <;> omega))]
    · refine wi_ldc (z := 1000000) hc rfl rfl ?_
      refine wi_ri hc rfl (by rw [cm_8]; rfl) ?_
      rw [show twoI 6 x y = 1000000 by (unfold twoI; rw [if_neg (by decide), if_neg (by decide), if_neg (by decide)]; first | exact if_pos (by omega) | (rw [if_neg (by omega)]; unfold clipI; (repeat split) <;> omega))]
  · refine wl_ic (z := 0) hc ⟨_, rfl, rfl⟩ ?_
    refine wi_go hc rfl ?_
    refine wi_ls1 (L' := [some (.int (iI 36)), some (.int (iI x)), some (.int (iI y)), some (.long (lI 0)), none]) hc rfl (Nat.le_of_ble_eq_true rfl) rfl ?_
    refine wi_l1 hc rfl rfl ?_
    refine wl_ld (z := 1000000) hc rfl rfl ?_
    have h6_ := cmpI_spec 0 1000000
    refine wl_cmp hc rfl ⟨by decide, by decide⟩ ⟨by decide, by decide⟩ ?_
    refine wi_zle hc rfl (cmpI_r _ _) (fun h7_ => ?_) (fun h7_ => ?_)
    · refine wi_l1 hc rfl rfl ?_
      refine wl_ld (z := -1000000) hc rfl rfl ?_
      have h8_ := cmpI_spec 0 (-1000000)
      refine wl_cmp hc rfl ⟨by decide, by decide⟩ ⟨by decide, by decide⟩ ?_
      refine wi_zge hc rfl (cmpI_r _ _) (fun h9_ => ?_) (fun h9_ => ?_)
      · refine wi_l1 hc rfl rfl ?_
        refine wl_l2i hc rfl ?_
        refine wi_ri hc rfl (by rw [cm_8]; rfl) ?_
        rw [show twoI 6 x y = 0 by (unfold twoI; rw [if_neg (by decide), if_neg (by decide), if_neg (by decide)]; first | exact if_pos (by omega) | (rw [if_neg (by omega)]; unfold clipI; (repeat split) <;> omega))]
      · refine wi_ldc (z := -1000000) hc rfl rfl ?_
        refine wi_go hc rfl ?_
        refine wi_ri hc rfl (by rw [cm_8]; rfl) ?_
        rw [show twoI 6 x y = (-1000000) by (unfold twoI; rw [if_neg (by decide), if_neg (by decide), if_neg (by decide)]; first | exact if_pos (by omega) | (rw [if_neg (by omega)]; unfold clipI; (repeat split) <;> omega))]
    · refine wi_ldc (z := 1000000) hc rfl rfl ?_
      refine wi_ri hc rfl (by rw [cm_8]; rfl) ?_
      rw [show twoI 6 x y = 1000000 by (unfold twoI; rw [if_neg (by decide), if_neg (by decide), if_neg (by decide)]; first | exact if_pos (by omega) | (rw [if_neg (by omega)]; unfold clipI; (repeat split) <;> omega))]
