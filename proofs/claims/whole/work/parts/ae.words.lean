/-! String constants by whole numbers; the class's words and kinds. -/
def wdI (j : Int) : Int := (mm_wl.getD j.toNat 0).toInt
def sgX (x : Int) : Int := (vz_ix (mm_sb 1000003) (nI x.toNat) 11 0).toInt
section WZS
variable {E : mm_EV} {me pc r1 : Nat} {cd : Nat → Option mm_In} {Lc : List (Option Value)} {r : List Value} {M : mm_M} {Q : mm_Rs → Prop} {x : Int}
theorem wi_zln {idx : Nat} (hc : (mm_CM me).2.2.2.2.2.2.2 = cd) (hi : cd pc = some (.invokevirtual idx, 3, 0, 8)) (hcat : (r.map fun v => v.category).sum ≤ 8) (k : mm_wp E me (pc + 3, Lc, .int (iI 150) :: r, M) Q) : mm_wp E me (pc, Lc, .ref 1000002 :: r, M) Q := wp_zln hc hi (Or.inl rfl) hcat k
theorem wi_zch {idx : Nat} (hc : (mm_CM me).2.2.2.2.2.2.2 = cd) (hi : cd pc = some (.invokevirtual idx, 3, 1, 8)) (h0 : 0 ≤ x) (h1 : x < 150) (hcat : (r.map fun v => v.category).sum ≤ 8) (k : mm_wp E me (pc + 3, Lc, .int (iI (wdI x)) :: r, M) Q) : mm_wp E me (pc, Lc, .int (iI x) :: .ref 1000002 :: r, M) Q := by
  have e : iI x = nI x.toNat := by rw [iI_nI, Int.toNat_of_nonneg h0]
  rw [e]
  refine wp_zch hc hi (Or.inl rfl) (show x.toNat < 150 by omega) hcat ?_
  show mm_wp E me (pc + 3, Lc, .int (mm_wl.getD x.toNat 0) :: r, M) Q
  rw [← iI_of (mm_wl.getD x.toNat 0)]
  exact k
theorem wi_zix {idx : Nat} (hc : (mm_CM me).2.2.2.2.2.2.2 = cd) (hi : cd pc = some (.invokevirtual idx, 3, 2, 8)) (h0 : 0 ≤ x) (h1 : x < 256) (hcat : (r.map fun v => v.category).sum ≤ 8) (k : mm_wp E me (pc + 3, Lc, .int (iI (sgX x)) :: r, M) Q) : mm_wp E me (pc, Lc, .int (iI x) :: .ref 1000003 :: r, M) Q := by
  have e : iI x = nI x.toNat := by rw [iI_nI, Int.toNat_of_nonneg h0]
  rw [e]
  refine wp_zix hc hi (Or.inr rfl) (show x.toNat < 256 by omega) hcat ?_
  show mm_wp E me (pc + 3, Lc, .int (vz_ix (mm_sb 1000003) (nI x.toNat) 11 0) :: r, M) Q
  rw [← iI_of (vz_ix (mm_sb 1000003) (nI x.toNat) 11 0)]
  exact k
theorem i2c_f : ∀ q : Fin 256, ((nI q.val).toUInt32 % 65536).toInt32 = nI q.val := by decide +kernel
theorem wi_i2c {r2 : Nat} (hc : (mm_CM me).2.2.2.2.2.2.2 = cd) (hi : cd pc = some (.i2c, 1, r1, r2)) (h0 : 0 ≤ x) (h1 : x < 256) (k : mm_wp E me (pc + 1, Lc, .int (iI x) :: r, M) Q) : mm_wp E me (pc, Lc, .int (iI x) :: r, M) Q := by
  have e : iI x = nI x.toNat := by rw [iI_nI, Int.toNat_of_nonneg h0]
  have e2 : ((iI x).toUInt32 % 65536).toInt32 = iI x := by rw [e]; exact i2c_f ⟨x.toNat, by omega⟩
  exact wp_st (z' := (pc + 1, Lc, .int ((iI x).toUInt32 % 65536).toInt32 :: r, M)) (stp_of hc hi rfl) (by rw [e2]; exact k)
end WZS
theorem sgX_f : ∀ q : Fin 256, sgX (q.val : Int) = if (q.val : Int) = 60 then 0 else if (q.val : Int) = 62 then 1 else if (q.val : Int) = 61 then 2 else if (q.val : Int) = 35 then 3 else if (q.val : Int) = 43 then 4 else if (q.val : Int) = 45 then 5 else if (q.val : Int) = 42 then 6 else if (q.val : Int) = 47 then 7 else if (q.val : Int) = 40 then 8 else if (q.val : Int) = 41 then 9 else if (q.val : Int) = 59 then 10 else -1 := by decide +kernel
theorem sgX_v {x : Int} (h0 : 0 ≤ x) (h1 : x ≤ 255) : sgX x = if x = 60 then 0 else if x = 62 then 1 else if x = 61 then 2 else if x = 35 then 3 else if x = 43 then 4 else if x = 45 then 5 else if x = 42 then 6 else if x = 47 then 7 else if x = 40 then 8 else if x = 41 then 9 else if x = 59 then 10 else -1 := by
  obtain ⟨n, rfl⟩ := Int.eq_ofNat_of_zero_le h0
  exact sgX_f ⟨n, by omega⟩
theorem sgX_r {x : Int} (h0 : 0 ≤ x) (h1 : x ≤ 255) : -1 ≤ sgX x ∧ sgX x ≤ 10 := by
  rw [sgX_v h0 h1]
  (repeat' split) <;> omega
/-- how the class looks a word up -/
def wfR (f : Int → Int) (x y : Int) : List Int32 → Int → Int → Int → Int
  | [], wo, sa, al => if al = 1 ∧ sa = y - x + 1 then wo else 44
  | c :: cs, wo, sa, al => if c.toInt = 32 then (if al = 1 ∧ sa = y - x + 1 then wo else wfR f x y cs (wo + 1) 0 1) else wfR f x y cs wo (sa + 1) (if al = 1 ∧ x + sa ≤ y ∧ f (x + sa) = c.toInt then 1 else 0)
theorem wfR_0 {f : Int → Int} {x y wo sa al i : Int} (h : i = 150) : wfR f x y (mm_wl.drop i.toNat) wo sa al = if al = 1 ∧ sa = y - x + 1 then wo else 44 := by
  subst h
  rfl
theorem wl_len : mm_wl.length = 150 := by decide +kernel
theorem wfR_c {f : Int → Int} {x y wo sa al i : Int} (h0 : 0 ≤ i) (h : i < 150) : wfR f x y (mm_wl.drop i.toNat) wo sa al = if wdI i = 32 then (if al = 1 ∧ sa = y - x + 1 then wo else wfR f x y (mm_wl.drop (i + 1).toNat) (wo + 1) 0 1) else wfR f x y (mm_wl.drop (i + 1).toNat) wo (sa + 1) (if al = 1 ∧ x + sa ≤ y ∧ f (x + sa) = wdI i then 1 else 0) := by
  have hl : i.toNat < mm_wl.length := by rw [wl_len]; omega
  have e1 : mm_wl.drop i.toNat = mm_wl.getD i.toNat 0 :: mm_wl.drop (i.toNat + 1) := by
    rw [List.drop_eq_getElem_cons hl, List.getD_eq_getElem?_getD, List.getElem?_eq_getElem hl]
    rfl
  rw [e1, show (i + 1).toNat = i.toNat + 1 by omega]
  rfl
theorem wdI_f : ∀ q : Fin 150, 0 ≤ wdI q.val ∧ wdI q.val ≤ 255 := by decide +kernel
theorem wdI_r {i : Int} (h0 : 0 ≤ i) (h1 : i < 150) : 0 ≤ wdI i ∧ wdI i ≤ 255 := by
  have := wdI_f ⟨i.toNat, by omega⟩
  rw [show ((⟨i.toNat, by omega⟩ : Fin 150).val : Int) = i by show (i.toNat : Int) = i; omega] at this
  exact this
def wdF (f : Int → Int) (x y : Int) : Int := wfR f x y mm_wl 0 0 1
theorem wfR_r {f : Int → Int} {x y : Int} : ∀ (l : List Int32) (wo sa al : Int), 0 ≤ wo → (0 ≤ wfR f x y l wo sa al ∧ (wfR f x y l wo sa al ≤ wo + l.length ∨ wfR f x y l wo sa al = 44))
  | [], wo, sa, al, h => by
    unfold wfR
    split
    · exact ⟨h, Or.inl (by show wo ≤ wo + ((0 : Nat) : Int); omega)⟩
    · exact ⟨by decide, Or.inr rfl⟩
  | c :: cs, wo, sa, al, h => by
    have h1 := wfR_r (f := f) (x := x) (y := y) cs (wo + 1) 0 1 (by omega)
    have h2 := fun q => wfR_r (f := f) (x := x) (y := y) cs wo (sa + 1) q h
    unfold wfR
    rw [List.length_cons]
    split
    · split <;> omega
    · have := h2 (if al = 1 ∧ x + sa ≤ y ∧ f (x + sa) = c.toInt then 1 else 0)
      omega
theorem wdF_r (f : Int → Int) (x y : Int) : 0 ≤ wdF f x y ∧ wdF f x y ≤ 150 := by
  have := wfR_r (f := f) (x := x) (y := y) mm_wl 0 0 1 (by decide)
  rw [wl_len] at this
  show 0 ≤ wfR f x y mm_wl 0 0 1 ∧ wfR f x y mm_wl 0 0 1 ≤ 150
  omega
theorem sp_51 {d L t : Nat} {s l : Nat → Int → Int} {f : Int → Int} (hT : s 597 = f) (hf : ∀ k, 0 ≤ f k ∧ f k ≤ 255) {x y : Int} (x0 : 0 ≤ x) (x1 : x ≤ y) (y1 : y < 300) : mm_Ev mm_ct mm_CM (d + 1) 51 [.ref 597, .int (iI x), .int (iI y)] (MX L t s l) (some (.int (iI (wdF f x y))), MX L t s l) := by
  have hc : (mm_CM 51).2.2.2.2.2.2.2 = mm_cf cd_51 := by rw [cm_51]; rfl
  refine ev_of (mx := 7) (by rw [cm_51]; decide) (by rw [cm_51]; rfl) (by show 3 ≤ _; decide) ?_
  show mm_wp _ _ (0, [some (.ref 597), some (.int (iI x)), some (.int (iI y)), none, none, none, none], [], MX L t s l) (fun r => r = (some (.int (iI (wdF f x y))), MX L t s l))
  refine wi_ic hc rfl ?_
  refine wi_is1 (L' := [some (.ref 597), some (.int (iI x)), some (.int (iI y)), some (.int (iI 0)), none, none, none]) hc rfl (Nat.le_of_ble_eq_true rfl) rfl ?_
  refine wi_ic hc rfl ?_
  refine wi_is2 (L' := [some (.ref 597), some (.int (iI x)), some (.int (iI y)), some (.int (iI 0)), some (.int (iI 0)), none, none]) hc rfl (Nat.le_of_ble_eq_true rfl) rfl ?_
  refine wi_ic hc rfl ?_
  refine wi_is2 (L' := [some (.ref 597), some (.int (iI x)), some (.int (iI y)), some (.int (iI 0)), some (.int (iI 0)), some (.int (iI 1)), none]) hc rfl (Nat.le_of_ble_eq_true rfl) rfl ?_
  refine wi_ic hc rfl ?_
  refine wi_is2 (L' := [some (.ref 597), some (.int (iI x)), some (.int (iI y)), some (.int (iI 0)), some (.int (iI 0)), some (.int (iI 1)), some (.int (iI 0))]) hc rfl (Nat.le_of_ble_eq_true rfl) rfl ?_
  have loop11_ : ∀ i : Int, i ≤ 151 → 0 ≤ i → ∀ wo sa al : Int, (0 ≤ wo ∧ wo ≤ i) → (0 ≤ sa ∧ sa ≤ i) → (al = 0 ∨ al = 1) → ((i ≤ 150 ∧ wfR f x y (mm_wl.drop i.toNat) wo sa al = wdF f x y) ∨ (i = 151 ∧ wdF f x y = 44)) → mm_wp (mm_Ev mm_ct mm_CM d) 51 (11, [some (.ref 597), some (.int (iI x)), some (.int (iI y)), some (.int (iI wo)), some (.int (iI sa)), some (.int (iI al)), some (.int (iI i))], [], MX L t s l) (fun r => r = (some (.int (iI (wdF f x y))), MX L t s l)) := by
    refine up_ind ?_
    intro i hi9 ih hi0 wo sa al hwo hsa hal hR9
    have hfi := hf (x + sa)
    have hE0 : i = 150 → wdF f x y = if al = 1 ∧ sa = y - x + 1 then wo else 44 := fun q => by
      rcases hR9 with hR9 | hR9
      · rw [← hR9.2, wfR_0 q]
      · omega
    have hE1 : i < 150 → wdF f x y = if wdI i = 32 then (if al = 1 ∧ sa = y - x + 1 then wo else wfR f x y (mm_wl.drop (i + 1).toNat) (wo + 1) 0 1) else wfR f x y (mm_wl.drop (i + 1).toNat) wo (sa + 1) (if al = 1 ∧ x + sa ≤ y ∧ f (x + sa) = wdI i then 1 else 0) := fun q => by
      rcases hR9 with hR9 | hR9
      · rw [← hR9.2, wfR_c hi0 q]
      · omega
    refine wi_i2 hc rfl rfl ?_
    refine wp_zld hc rfl (Or.inl rfl) ?_
    refine wi_zln hc rfl (Nat.le_of_ble_eq_true rfl) ?_
    refine wi_cgt hc rfl ⟨by omega, by omega⟩ ⟨by decide, by decide⟩ (fun h1_ => ?_) (fun h1_ => ?_)
    · refine wi_bi hc rfl rfl ?_
      refine wi_ri hc rfl (by rw [cm_51]; rfl) ?_
      have hR : wdF f x y = 44 := by
        rcases hR9 with hR9 | hR9
        · by_cases q : i = 150
          · rw [hE0 q]; first | (rw [if_pos (by omega)]; done) | omega
          · rw [hE1 (by omega)]; first | (rw [if_pos (by omega), if_pos (by omega)]; done) | omega
        · first | exact hR9.2 | omega
      rw [hR]
    · refine wi_i2 hc rfl rfl ?_
      refine wp_zld hc rfl (Or.inl rfl) ?_
      refine wi_zln hc rfl (Nat.le_of_ble_eq_true rfl) ?_
      refine wi_ceq hc rfl ⟨by omega, by omega⟩ ⟨by decide, by decide⟩ (fun h2_ => ?_) (fun h2_ => ?_)
      · refine wi_i2 hc rfl rfl ?_
        refine wi_zeq hc rfl ⟨by omega, by omega⟩ (fun h3_ => ?_) (fun h3_ => ?_)
        · refine wi_inc (L' := [some (.ref 597), some (.int (iI x)), some (.int (iI y)), some (.int (iI (wo + 1))), some (.int (iI sa)), some (.int (iI al)), some (.int (iI i))]) hc rfl rfl rfl ?_
          refine wi_ic hc rfl ?_
          refine wi_is2 (L' := [some (.ref 597), some (.int (iI x)), some (.int (iI y)), some (.int (iI (wo + 1))), some (.int (iI 0)), some (.int (iI al)), some (.int (iI i))]) hc rfl (Nat.le_of_ble_eq_true rfl) rfl ?_
          refine wi_ic hc rfl ?_
          refine wi_is2 (L' := [some (.ref 597), some (.int (iI x)), some (.int (iI y)), some (.int (iI (wo + 1))), some (.int (iI 0)), some (.int (iI 1)), some (.int (iI i))]) hc rfl (Nat.le_of_ble_eq_true rfl) rfl ?_
          refine wi_go hc rfl ?_
          refine wi_inc (L' := [some (.ref 597), some (.int (iI x)), some (.int (iI y)), some (.int (iI (wo + 1))), some (.int (iI 0)), some (.int (iI 1)), some (.int (iI (i + 1)))]) hc rfl rfl rfl ?_
          refine wi_go hc rfl ?_
          refine ih (by omega) (by omega) _ _ _ ⟨by omega, by omega⟩ ⟨by omega, by omega⟩ (by first | exact Or.inl rfl | exact Or.inr rfl) ?_
          by_cases q : i = 150
          · refine Or.inr ⟨by omega, ?_⟩
            rw [hE0 q, if_neg (by omega)]
          · refine Or.inl ⟨by omega, ?_⟩
            rw [hE1 (by omega)]
            first
            | (rw [if_pos (by omega), if_neg (by omega)]; done)
            | (rw [if_neg (by omega), if_pos (by omega)]; done)
            | (rw [if_neg (by omega), if_neg (by omega)]; done)
        · refine wi_i2 hc rfl rfl ?_
          refine wi_i1 hc rfl rfl ?_
          refine wi_i1 hc rfl rfl ?_
          refine wi_sub hc rfl ?_
          refine wi_ic hc rfl ?_
          refine wi_add hc rfl ?_
          refine wi_cne hc rfl ⟨by omega, by omega⟩ ⟨by omega, by omega⟩ (fun h4_ => ?_) (fun h4_ => ?_)
          · refine wi_inc (L' := [some (.ref 597), some (.int (iI x)), some (.int (iI y)), some (.int (iI (wo + 1))), some (.int (iI sa)), some (.int (iI al)), some (.int (iI i))]) hc rfl rfl rfl ?_
            refine wi_ic hc rfl ?_
            refine wi_is2 (L' := [some (.ref 597), some (.int (iI x)), some (.int (iI y)), some (.int (iI (wo + 1))), some (.int (iI 0)), some (.int (iI al)), some (.int (iI i))]) hc rfl (Nat.le_of_ble_eq_true rfl) rfl ?_
            refine wi_ic hc rfl ?_
            refine wi_is2 (L' := [some (.ref 597), some (.int (iI x)), some (.int (iI y)), some (.int (iI (wo + 1))), some (.int (iI 0)), some (.int (iI 1)), some (.int (iI i))]) hc rfl (Nat.le_of_ble_eq_true rfl) rfl ?_
            refine wi_go hc rfl ?_
            refine wi_inc (L' := [some (.ref 597), some (.int (iI x)), some (.int (iI y)), some (.int (iI (wo + 1))), some (.int (iI 0)), some (.int (iI 1)), some (.int (iI (i + 1)))]) hc rfl rfl rfl ?_
            refine wi_go hc rfl ?_
            refine ih (by omega) (by omega) _ _ _ ⟨by omega, by omega⟩ ⟨by omega, by omega⟩ (by first | exact Or.inl rfl | exact Or.inr rfl) ?_
            by_cases q : i = 150
            · refine Or.inr ⟨by omega, ?_⟩
              rw [hE0 q, if_neg (by omega)]
            · refine Or.inl ⟨by omega, ?_⟩
              rw [hE1 (by omega)]
              first
              | (rw [if_pos (by omega), if_neg (by omega)]; done)
              | (rw [if_neg (by omega), if_pos (by omega)]; done)
              | (rw [if_neg (by omega), if_neg (by omega)]; done)
          · refine wi_i1 hc rfl rfl ?_
            refine wi_ri hc rfl (by rw [cm_51]; rfl) ?_
            have hR : wdF f x y = wo := by
              rcases hR9 with hR9 | hR9
              · by_cases q : i = 150
                · rw [hE0 q]; first | (rw [if_pos (by omega)]; done) | omega
                · rw [hE1 (by omega)]; first | (rw [if_pos (by omega), if_pos (by omega)]; done) | omega
              · first | exact hR9.2 | omega
            rw [hR]
      · have hwi := wdI_r (i := i) (by omega) (by omega)
        refine wp_zld hc rfl (Or.inl rfl) ?_
        refine wi_i2 hc rfl rfl ?_
        refine wi_zch hc rfl (by omega) (by omega) (Nat.le_of_ble_eq_true rfl) ?_
        refine wi_bi hc rfl rfl ?_
        refine wi_cne hc rfl ⟨by omega, by omega⟩ ⟨by decide, by decide⟩ (fun h5_ => ?_) (fun h5_ => ?_)
        · refine wi_i2 hc rfl rfl ?_
          refine wi_zeq hc rfl ⟨by omega, by omega⟩ (fun h6_ => ?_) (fun h6_ => ?_)
          · refine wi_ic hc rfl ?_
            refine wi_is2 (L' := [some (.ref 597), some (.int (iI x)), some (.int (iI y)), some (.int (iI wo)), some (.int (iI sa)), some (.int (iI 0)), some (.int (iI i))]) hc rfl (Nat.le_of_ble_eq_true rfl) rfl ?_
            refine wi_inc (L' := [some (.ref 597), some (.int (iI x)), some (.int (iI y)), some (.int (iI wo)), some (.int (iI (sa + 1))), some (.int (iI 0)), some (.int (iI i))]) hc rfl rfl rfl ?_
            refine wi_inc (L' := [some (.ref 597), some (.int (iI x)), some (.int (iI y)), some (.int (iI wo)), some (.int (iI (sa + 1))), some (.int (iI 0)), some (.int (iI (i + 1)))]) hc rfl rfl rfl ?_
            refine wi_go hc rfl ?_
            refine ih (by omega) (by omega) _ _ _ ⟨by omega, by omega⟩ ⟨by omega, by omega⟩ (by first | exact Or.inl rfl | exact Or.inr rfl) ?_
            by_cases q : i = 150
            · refine Or.inr ⟨by omega, ?_⟩
              rw [hE0 q, if_neg (by omega)]
            · refine Or.inl ⟨by omega, ?_⟩
              rw [hE1 (by omega)]
              first
              | (rw [if_pos (by omega), if_neg (by omega)]; done)
              | (rw [if_neg (by omega), if_pos (by omega)]; done)
              | (rw [if_neg (by omega), if_neg (by omega)]; done)
          · refine wi_i1 hc rfl rfl ?_
            refine wi_i2 hc rfl rfl ?_
            refine wi_add hc rfl ?_
            refine wi_i1 hc rfl rfl ?_
            refine wi_cgt hc rfl ⟨by omega, by omega⟩ ⟨by omega, by omega⟩ (fun h7_ => ?_) (fun h7_ => ?_)
            · refine wi_ic hc rfl ?_
              refine wi_is2 (L' := [some (.ref 597), some (.int (iI x)), some (.int (iI y)), some (.int (iI wo)), some (.int (iI sa)), some (.int (iI 0)), some (.int (iI i))]) hc rfl (Nat.le_of_ble_eq_true rfl) rfl ?_
              refine wi_inc (L' := [some (.ref 597), some (.int (iI x)), some (.int (iI y)), some (.int (iI wo)), some (.int (iI (sa + 1))), some (.int (iI 0)), some (.int (iI i))]) hc rfl rfl rfl ?_
              refine wi_inc (L' := [some (.ref 597), some (.int (iI x)), some (.int (iI y)), some (.int (iI wo)), some (.int (iI (sa + 1))), some (.int (iI 0)), some (.int (iI (i + 1)))]) hc rfl rfl rfl ?_
              refine wi_go hc rfl ?_
              refine ih (by omega) (by omega) _ _ _ ⟨by omega, by omega⟩ ⟨by omega, by omega⟩ (by first | exact Or.inl rfl | exact Or.inr rfl) ?_
              by_cases q : i = 150
              · refine Or.inr ⟨by omega, ?_⟩
                rw [hE0 q, if_neg (by omega)]
              · refine Or.inl ⟨by omega, ?_⟩
                rw [hE1 (by omega)]
                first
                | (rw [if_pos (by omega), if_neg (by omega)]; done)
                | (rw [if_neg (by omega), if_pos (by omega)]; done)
                | (rw [if_neg (by omega), if_neg (by omega)]; done)
            · refine wi_a1 hc rfl rfl ?_
              refine wi_i1 hc rfl rfl ?_
              refine wi_i2 hc rfl rfl ?_
              refine wi_add hc rfl ?_
              refine wi_ildv (N := 300) hc rfl rfl (by decide) (by decide) (by omega) (by omega) (v := f (x + sa)) (congrFun (hT) _) ?_
              refine wp_zld hc rfl (Or.inl rfl) ?_
              refine wi_i2 hc rfl rfl ?_
              refine wi_zch hc rfl (by omega) (by omega) (Nat.le_of_ble_eq_true rfl) ?_
              refine wi_cne hc rfl ⟨by omega, by omega⟩ ⟨by omega, by omega⟩ (fun h8_ => ?_) (fun h8_ => ?_)
              · refine wi_ic hc rfl ?_
                refine wi_is2 (L' := [some (.ref 597), some (.int (iI x)), some (.int (iI y)), some (.int (iI wo)), some (.int (iI sa)), some (.int (iI 0)), some (.int (iI i))]) hc rfl (Nat.le_of_ble_eq_true rfl) rfl ?_
                refine wi_inc (L' := [some (.ref 597), some (.int (iI x)), some (.int (iI y)), some (.int (iI wo)), some (.int (iI (sa + 1))), some (.int (iI 0)), some (.int (iI i))]) hc rfl rfl rfl ?_
                refine wi_inc (L' := [some (.ref 597), some (.int (iI x)), some (.int (iI y)), some (.int (iI wo)), some (.int (iI (sa + 1))), some (.int (iI 0)), some (.int (iI (i + 1)))]) hc rfl rfl rfl ?_
                refine wi_go hc rfl ?_
                refine ih (by omega) (by omega) _ _ _ ⟨by omega, by omega⟩ ⟨by omega, by omega⟩ (by first | exact Or.inl rfl | exact Or.inr rfl) ?_
                by_cases q : i = 150
                · refine Or.inr ⟨by omega, ?_⟩
                  rw [hE0 q, if_neg (by omega)]
                · refine Or.inl ⟨by omega, ?_⟩
                  rw [hE1 (by omega)]
                  first
                  | (rw [if_pos (by omega), if_neg (by omega)]; done)
                  | (rw [if_neg (by omega), if_pos (by omega)]; done)
                  | (rw [if_neg (by omega), if_neg (by omega)]; done)
              · refine wi_ic hc rfl ?_
                refine wi_go hc rfl ?_
                refine wi_is2 (L' := [some (.ref 597), some (.int (iI x)), some (.int (iI y)), some (.int (iI wo)), some (.int (iI sa)), some (.int (iI 1)), some (.int (iI i))]) hc rfl (Nat.le_of_ble_eq_true rfl) rfl ?_
                refine wi_inc (L' := [some (.ref 597), some (.int (iI x)), some (.int (iI y)), some (.int (iI wo)), some (.int (iI (sa + 1))), some (.int (iI 1)), some (.int (iI i))]) hc rfl rfl rfl ?_
                refine wi_inc (L' := [some (.ref 597), some (.int (iI x)), some (.int (iI y)), some (.int (iI wo)), some (.int (iI (sa + 1))), some (.int (iI 1)), some (.int (iI (i + 1)))]) hc rfl rfl rfl ?_
                refine wi_go hc rfl ?_
                refine ih (by omega) (by omega) _ _ _ ⟨by omega, by omega⟩ ⟨by omega, by omega⟩ (by first | exact Or.inl rfl | exact Or.inr rfl) ?_
                by_cases q : i = 150
                · refine Or.inr ⟨by omega, ?_⟩
                  rw [hE0 q, if_neg (by omega)]
                · refine Or.inl ⟨by omega, ?_⟩
                  rw [hE1 (by omega)]
                  first
                  | (rw [if_pos (by omega), if_neg (by omega)]; done)
                  | (rw [if_neg (by omega), if_pos (by omega)]; done)
                  | (rw [if_neg (by omega), if_neg (by omega)]; done)
        · refine wi_i2 hc rfl rfl ?_
          refine wi_zeq hc rfl ⟨by omega, by omega⟩ (fun h9_ => ?_) (fun h9_ => ?_)
          · refine wi_inc (L' := [some (.ref 597), some (.int (iI x)), some (.int (iI y)), some (.int (iI (wo + 1))), some (.int (iI sa)), some (.int (iI al)), some (.int (iI i))]) hc rfl rfl rfl ?_
            refine wi_ic hc rfl ?_
            refine wi_is2 (L' := [some (.ref 597), some (.int (iI x)), some (.int (iI y)), some (.int (iI (wo + 1))), some (.int (iI 0)), some (.int (iI al)), some (.int (iI i))]) hc rfl (Nat.le_of_ble_eq_true rfl) rfl ?_
            refine wi_ic hc rfl ?_
            refine wi_is2 (L' := [some (.ref 597), some (.int (iI x)), some (.int (iI y)), some (.int (iI (wo + 1))), some (.int (iI 0)), some (.int (iI 1)), some (.int (iI i))]) hc rfl (Nat.le_of_ble_eq_true rfl) rfl ?_
            refine wi_go hc rfl ?_
            refine wi_inc (L' := [some (.ref 597), some (.int (iI x)), some (.int (iI y)), some (.int (iI (wo + 1))), some (.int (iI 0)), some (.int (iI 1)), some (.int (iI (i + 1)))]) hc rfl rfl rfl ?_
            refine wi_go hc rfl ?_
            refine ih (by omega) (by omega) _ _ _ ⟨by omega, by omega⟩ ⟨by omega, by omega⟩ (by first | exact Or.inl rfl | exact Or.inr rfl) ?_
            by_cases q : i = 150
            · refine Or.inr ⟨by omega, ?_⟩
              rw [hE0 q, if_neg (by omega)]
            · refine Or.inl ⟨by omega, ?_⟩
              rw [hE1 (by omega)]
              first
              | (rw [if_pos (by omega), if_neg (by omega)]; done)
              | (rw [if_neg (by omega), if_pos (by omega)]; done)
              | (rw [if_neg (by omega), if_neg (by omega)]; done)
          · refine wi_i2 hc rfl rfl ?_
            refine wi_i1 hc rfl rfl ?_
            refine wi_i1 hc rfl rfl ?_
            refine wi_sub hc rfl ?_
            refine wi_ic hc rfl ?_
            refine wi_add hc rfl ?_
            refine wi_cne hc rfl ⟨by omega, by omega⟩ ⟨by omega, by omega⟩ (fun h10_ => ?_) (fun h10_ => ?_)
            · refine wi_inc (L' := [some (.ref 597), some (.int (iI x)), some (.int (iI y)), some (.int (iI (wo + 1))), some (.int (iI sa)), some (.int (iI al)), some (.int (iI i))]) hc rfl rfl rfl ?_
              refine wi_ic hc rfl ?_
              refine wi_is2 (L' := [some (.ref 597), some (.int (iI x)), some (.int (iI y)), some (.int (iI (wo + 1))), some (.int (iI 0)), some (.int (iI al)), some (.int (iI i))]) hc rfl (Nat.le_of_ble_eq_true rfl) rfl ?_
              refine wi_ic hc rfl ?_
              refine wi_is2 (L' := [some (.ref 597), some (.int (iI x)), some (.int (iI y)), some (.int (iI (wo + 1))), some (.int (iI 0)), some (.int (iI 1)), some (.int (iI i))]) hc rfl (Nat.le_of_ble_eq_true rfl) rfl ?_
              refine wi_go hc rfl ?_
              refine wi_inc (L' := [some (.ref 597), some (.int (iI x)), some (.int (iI y)), some (.int (iI (wo + 1))), some (.int (iI 0)), some (.int (iI 1)), some (.int (iI (i + 1)))]) hc rfl rfl rfl ?_
              refine wi_go hc rfl ?_
              refine ih (by omega) (by omega) _ _ _ ⟨by omega, by omega⟩ ⟨by omega, by omega⟩ (by first | exact Or.inl rfl | exact Or.inr rfl) ?_
              by_cases q : i = 150
              · refine Or.inr ⟨by omega, ?_⟩
                rw [hE0 q, if_neg (by omega)]
              · refine Or.inl ⟨by omega, ?_⟩
                rw [hE1 (by omega)]
                first
                | (rw [if_pos (by omega), if_neg (by omega)]; done)
                | (rw [if_neg (by omega), if_pos (by omega)]; done)
                | (rw [if_neg (by omega), if_neg (by omega)]; done)
            · refine wi_i1 hc rfl rfl ?_
              refine wi_ri hc rfl (by rw [cm_51]; rfl) ?_
              have hR : wdF f x y = wo := by
                rcases hR9 with hR9 | hR9
                · by_cases q : i = 150
                  · rw [hE0 q]; first | (rw [if_pos (by omega)]; done) | omega
                  · rw [hE1 (by omega)]; first | (rw [if_pos (by omega), if_pos (by omega)]; done) | omega
                · first | exact hR9.2 | omega
              rw [hR]
  exact loop11_ 0 (by omega) (by omega) 0 0 1 (by omega) (by omega) (Or.inr rfl) (Or.inl ⟨by omega, rfl⟩)
/-- the class's kind of the token from x to y -/
def kdP (f : Int → Int) (x y : Int) : Int := if ltB (f x) = true then wdF f x y else if fgB (f x) = true then 42 else if x < y then (if f x = 60 then 40 else 41) else (if sgX (f x) < 0 then 44 else 29 + sgX (f x))
theorem kdP_r {f : Int → Int} {x y : Int} (hf : ∀ k, 0 ≤ f k ∧ f k ≤ 255) : 0 ≤ kdP f x y ∧ kdP f x y ≤ 150 := by
  have h1 := wdF_r f x y
  have h2 := sgX_r (hf x).1 (hf x).2
  unfold kdP
  (repeat' split) <;> omega
theorem sp_50 {d L t : Nat} {s l : Nat → Int → Int} {f : Int → Int} (hT : s 597 = f) (hf : ∀ k, 0 ≤ f k ∧ f k ≤ 255) {x y : Int} (x0 : 0 ≤ x) (x1 : x ≤ y) (y1 : y < 300) : mm_Ev mm_ct mm_CM (d + 2) 50 [.ref 597, .int (iI x), .int (iI y)] (MX L t s l) (some (.int (iI (kdP f x y))), MX L t s l) := by
  have hc : (mm_CM 50).2.2.2.2.2.2.2 = mm_cf cd_50 := by rw [cm_50]; rfl
  refine ev_of (mx := 5) (by rw [cm_50]; decide) (by rw [cm_50]; rfl) (by show 3 ≤ _; decide) ?_
  show mm_wp _ _ (0, [some (.ref 597), some (.int (iI x)), some (.int (iI y)), none, none], [], MX L t s l) (fun r => r = (some (.int (iI (kdP f x y))), MX L t s l))
  have hfx := hf x
  have hsx := sgX_r hfx.1 hfx.2
  refine wi_a1 hc rfl rfl ?_
  refine wi_i1 hc rfl rfl ?_
  refine wi_ildv (N := 300) hc rfl rfl (by decide) (by decide) (by omega) (by omega) (v := f x) (congrFun (hT) _) ?_
  refine wi_is1 (L' := [some (.ref 597), some (.int (iI x)), some (.int (iI y)), some (.int (iI (f x))), none]) hc rfl (Nat.le_of_ble_eq_true rfl) rfl ?_
  refine wi_i1 hc rfl rfl ?_
  refine wp_cs (As := [.int (iI (f x))]) (r := []) hc rfl (by rw [cm_47]; rfl) rfl (Nat.le_of_ble_eq_true rfl) (ev_mono (sp_47 (d := 0) ⟨by omega, by omega⟩) (by omega)) ?_
  show mm_wp _ _ (8, [some (.ref 597), some (.int (iI x)), some (.int (iI y)), some (.int (iI (f x))), none], [.int (iI (bI ((97 ≤ (f x) ∧ (f x) ≤ 122) ∨ (65 ≤ (f x) ∧ (f x) ≤ 90))))], MX L t s l) _
  refine wi_beq hc rfl (fun h1_ => ?_) (fun h1_ => ?_)
  · refine wi_i1 hc rfl rfl ?_
    refine wp_cs (As := [.int (iI (f x))]) (r := []) hc rfl (by rw [cm_48]; rfl) rfl (Nat.le_of_ble_eq_true rfl) (ev_mono (sp_48 (d := 0) ⟨by omega, by omega⟩) (by omega)) ?_
    show mm_wp _ _ (22, [some (.ref 597), some (.int (iI x)), some (.int (iI y)), some (.int (iI (f x))), none], [.int (iI (bI (48 ≤ (f x) ∧ (f x) ≤ 57)))], MX L t s l) _
    refine wi_beq hc rfl (fun h2_ => ?_) (fun h2_ => ?_)
    · refine wi_i1 hc rfl rfl ?_
      refine wi_i1 hc rfl rfl ?_
      refine wi_cle hc rfl ⟨by omega, by omega⟩ ⟨by omega, by omega⟩ (fun h3_ => ?_) (fun h3_ => ?_)
      · refine wp_zld hc rfl (Or.inr rfl) ?_
        refine wi_i1 hc rfl rfl ?_
        refine wi_i2c hc rfl (by omega) (by omega) ?_
        refine wi_zix hc rfl (by omega) (by omega) (Nat.le_of_ble_eq_true rfl) ?_
        refine wi_is2 (L' := [some (.ref 597), some (.int (iI x)), some (.int (iI y)), some (.int (iI (f x))), some (.int (iI (sgX (f x))))]) hc rfl (Nat.le_of_ble_eq_true rfl) rfl ?_
        refine wi_i2 hc rfl rfl ?_
        refine wi_zge hc rfl ⟨by omega, by omega⟩ (fun h4_ => ?_) (fun h4_ => ?_)
        · refine wi_bi hc rfl rfl ?_
          refine wi_i2 hc rfl rfl ?_
          refine wi_add hc rfl ?_
          refine wi_ri hc rfl (by rw [cm_50]; rfl) ?_
          have hR : kdP f x y = 29 + (sgX (f x)) := by
            unfold kdP
            first
            | (rw [if_pos (ltB_t.mpr (by omega))]; done)
            | (rw [if_neg (fun q => by have := ltB_t.mp q; omega), if_pos (fgB_t.mpr (by omega))]; done)
            | (rw [if_neg (fun q => by have := ltB_t.mp q; omega), if_neg (fun q => by have := fgB_t.mp q; omega), if_pos (by omega), if_pos (by omega)]; done)
            | (rw [if_neg (fun q => by have := ltB_t.mp q; omega), if_neg (fun q => by have := fgB_t.mp q; omega), if_pos (by omega), if_neg (by omega)]; done)
            | (rw [if_neg (fun q => by have := ltB_t.mp q; omega), if_neg (fun q => by have := fgB_t.mp q; omega), if_neg (by omega), if_pos (by omega)]; done)
            | (rw [if_neg (fun q => by have := ltB_t.mp q; omega), if_neg (fun q => by have := fgB_t.mp q; omega), if_neg (by omega), if_neg (by omega)]; done)
          rw [hR]
        · refine wi_bi hc rfl rfl ?_
          refine wi_go hc rfl ?_
          refine wi_ri hc rfl (by rw [cm_50]; rfl) ?_
          have hR : kdP f x y = 44 := by
            unfold kdP
            first
            | (rw [if_pos (ltB_t.mpr (by omega))]; done)
            | (rw [if_neg (fun q => by have := ltB_t.mp q; omega), if_pos (fgB_t.mpr (by omega))]; done)
            | (rw [if_neg (fun q => by have := ltB_t.mp q; omega), if_neg (fun q => by have := fgB_t.mp q; omega), if_pos (by omega), if_pos (by omega)]; done)
            | (rw [if_neg (fun q => by have := ltB_t.mp q; omega), if_neg (fun q => by have := fgB_t.mp q; omega), if_pos (by omega), if_neg (by omega)]; done)
            | (rw [if_neg (fun q => by have := ltB_t.mp q; omega), if_neg (fun q => by have := fgB_t.mp q; omega), if_neg (by omega), if_pos (by omega)]; done)
            | (rw [if_neg (fun q => by have := ltB_t.mp q; omega), if_neg (fun q => by have := fgB_t.mp q; omega), if_neg (by omega), if_neg (by omega)]; done)
          rw [hR]
      · refine wi_i1 hc rfl rfl ?_
        refine wi_bi hc rfl rfl ?_
        refine wi_cne hc rfl ⟨by omega, by omega⟩ ⟨by decide, by decide⟩ (fun h5_ => ?_) (fun h5_ => ?_)
        · refine wi_bi hc rfl rfl ?_
          refine wi_ri hc rfl (by rw [cm_50]; rfl) ?_
          have hR : kdP f x y = 41 := by
            unfold kdP
            first
            | (rw [if_pos (ltB_t.mpr (by omega))]; done)
            | (rw [if_neg (fun q => by have := ltB_t.mp q; omega), if_pos (fgB_t.mpr (by omega))]; done)
            | (rw [if_neg (fun q => by have := ltB_t.mp q; omega), if_neg (fun q => by have := fgB_t.mp q; omega), if_pos (by omega), if_pos (by omega)]; done)
            | (rw [if_neg (fun q => by have := ltB_t.mp q; omega), if_neg (fun q => by have := fgB_t.mp q; omega), if_pos (by omega), if_neg (by omega)]; done)
            | (rw [if_neg (fun q => by have := ltB_t.mp q; omega), if_neg (fun q => by have := fgB_t.mp q; omega), if_neg (by omega), if_pos (by omega)]; done)
            | (rw [if_neg (fun q => by have := ltB_t.mp q; omega), if_neg (fun q => by have := fgB_t.mp q; omega), if_neg (by omega), if_neg (by omega)]; done)
          rw [hR]
        · refine wi_bi hc rfl rfl ?_
          refine wi_go hc rfl ?_
          refine wi_ri hc rfl (by rw [cm_50]; rfl) ?_
          have hR : kdP f x y = 40 := by
            unfold kdP
            first
            | (rw [if_pos (ltB_t.mpr (by omega))]; done)
            | (rw [if_neg (fun q => by have := ltB_t.mp q; omega), if_pos (fgB_t.mpr (by omega))]; done)
            | (rw [if_neg (fun q => by have := ltB_t.mp q; omega), if_neg (fun q => by have := fgB_t.mp q; omega), if_pos (by omega), if_pos (by omega)]; done)
            | (rw [if_neg (fun q => by have := ltB_t.mp q; omega), if_neg (fun q => by have := fgB_t.mp q; omega), if_pos (by omega), if_neg (by omega)]; done)
            | (rw [if_neg (fun q => by have := ltB_t.mp q; omega), if_neg (fun q => by have := fgB_t.mp q; omega), if_neg (by omega), if_pos (by omega)]; done)
            | (rw [if_neg (fun q => by have := ltB_t.mp q; omega), if_neg (fun q => by have := fgB_t.mp q; omega), if_neg (by omega), if_neg (by omega)]; done)
          rw [hR]
    · refine wi_bi hc rfl rfl ?_
      refine wi_ri hc rfl (by rw [cm_50]; rfl) ?_
      have hR : kdP f x y = 42 := by
        unfold kdP
        first
        | (rw [if_pos (ltB_t.mpr (by omega))]; done)
        | (rw [if_neg (fun q => by have := ltB_t.mp q; omega), if_pos (fgB_t.mpr (by omega))]; done)
        | (rw [if_neg (fun q => by have := ltB_t.mp q; omega), if_neg (fun q => by have := fgB_t.mp q; omega), if_pos (by omega), if_pos (by omega)]; done)
        | (rw [if_neg (fun q => by have := ltB_t.mp q; omega), if_neg (fun q => by have := fgB_t.mp q; omega), if_pos (by omega), if_neg (by omega)]; done)
        | (rw [if_neg (fun q => by have := ltB_t.mp q; omega), if_neg (fun q => by have := fgB_t.mp q; omega), if_neg (by omega), if_pos (by omega)]; done)
        | (rw [if_neg (fun q => by have := ltB_t.mp q; omega), if_neg (fun q => by have := fgB_t.mp q; omega), if_neg (by omega), if_neg (by omega)]; done)
      rw [hR]
  · refine wi_a1 hc rfl rfl ?_
    refine wi_i1 hc rfl rfl ?_
    refine wi_i1 hc rfl rfl ?_
    refine wp_cs (As := [.ref 597, .int (iI x), .int (iI y)]) (r := []) hc rfl (by rw [cm_51]; rfl) rfl (Nat.le_of_ble_eq_true rfl) (ev_mono (sp_51 (d := 0) hT hf (by omega) (by omega) (by omega)) (by omega)) ?_
    show mm_wp _ _ (17, [some (.ref 597), some (.int (iI x)), some (.int (iI y)), some (.int (iI (f x))), none], [.int (iI (wdF f x y))], MX L t s l) _
    refine wi_ri hc rfl (by rw [cm_50]; rfl) ?_
    have hR : kdP f x y = wdF f x y := by
      unfold kdP
      first
      | (rw [if_pos (ltB_t.mpr (by omega))]; done)
      | (rw [if_neg (fun q => by have := ltB_t.mp q; omega), if_pos (fgB_t.mpr (by omega))]; done)
      | (rw [if_neg (fun q => by have := ltB_t.mp q; omega), if_neg (fun q => by have := fgB_t.mp q; omega), if_pos (by omega), if_pos (by omega)]; done)
      | (rw [if_neg (fun q => by have := ltB_t.mp q; omega), if_neg (fun q => by have := fgB_t.mp q; omega), if_pos (by omega), if_neg (by omega)]; done)
      | (rw [if_neg (fun q => by have := ltB_t.mp q; omega), if_neg (fun q => by have := fgB_t.mp q; omega), if_neg (by omega), if_pos (by omega)]; done)
      | (rw [if_neg (fun q => by have := ltB_t.mp q; omega), if_neg (fun q => by have := fgB_t.mp q; omega), if_neg (by omega), if_neg (by omega)]; done)
    rw [hR]
