/-! Branches, fields, arrays, calls and returns over whole numbers. -/
section WB
variable {E : mm_EV} {me pc r1 r2 tg : Nat} {cd : Nat → Option mm_In} {Lc : List (Option Value)} {r : List Value} {M : mm_M} {Q : mm_Rs → Prop} {x y o : Int}
theorem wi_ceq (hc : (mm_CM me).2.2.2.2.2.2.2 = cd) (hi : cd pc = some (.if_icmp .eq o, 3, tg, r2)) (hx : rI x) (hy : rI y) (h1 : x = y → mm_wp E me (tg, Lc, r, M) Q) (h2 : ¬ x = y → mm_wp E me (pc + 3, Lc, r, M) Q) : mm_wp E me (pc, Lc, .int (iI y) :: .int (iI x) :: r, M) Q := by
  refine wp_st (z' := if iI x = iI y then (tg, Lc, r, M) else (pc + 3, Lc, r, M)) (stp_of hc hi rfl) (wp_if (fun h => h1 ((iI_eq hx hy).mp h)) (fun h => h2 ?_))
  have h := mt (iI_eq hx hy).mpr h
  omega
theorem wi_cne (hc : (mm_CM me).2.2.2.2.2.2.2 = cd) (hi : cd pc = some (.if_icmp .ne o, 3, tg, r2)) (hx : rI x) (hy : rI y) (h1 : ¬ x = y → mm_wp E me (tg, Lc, r, M) Q) (h2 : x = y → mm_wp E me (pc + 3, Lc, r, M) Q) : mm_wp E me (pc, Lc, .int (iI y) :: .int (iI x) :: r, M) Q := by
  refine wp_st (z' := if ¬ iI x = iI y then (tg, Lc, r, M) else (pc + 3, Lc, r, M)) (stp_of hc hi rfl) (wp_if (fun h => h1 ((not_congr (iI_eq hx hy)).mp h)) (fun h => h2 ?_))
  have h := mt (not_congr (iI_eq hx hy)).mpr h
  omega
theorem wi_clt (hc : (mm_CM me).2.2.2.2.2.2.2 = cd) (hi : cd pc = some (.if_icmp .lt o, 3, tg, r2)) (hx : rI x) (hy : rI y) (h1 : x < y → mm_wp E me (tg, Lc, r, M) Q) (h2 : y ≤ x → mm_wp E me (pc + 3, Lc, r, M) Q) : mm_wp E me (pc, Lc, .int (iI y) :: .int (iI x) :: r, M) Q := by
  refine wp_st (z' := if iI x < iI y then (tg, Lc, r, M) else (pc + 3, Lc, r, M)) (stp_of hc hi rfl) (wp_if (fun h => h1 ((iI_lt hx hy).mp h)) (fun h => h2 ?_))
  have h := mt (iI_lt hx hy).mpr h
  omega
theorem wi_cge (hc : (mm_CM me).2.2.2.2.2.2.2 = cd) (hi : cd pc = some (.if_icmp .ge o, 3, tg, r2)) (hx : rI x) (hy : rI y) (h1 : y ≤ x → mm_wp E me (tg, Lc, r, M) Q) (h2 : x < y → mm_wp E me (pc + 3, Lc, r, M) Q) : mm_wp E me (pc, Lc, .int (iI y) :: .int (iI x) :: r, M) Q := by
  refine wp_st (z' := if iI y ≤ iI x then (tg, Lc, r, M) else (pc + 3, Lc, r, M)) (stp_of hc hi rfl) (wp_if (fun h => h1 ((iI_le hy hx).mp h)) (fun h => h2 ?_))
  have h := mt (iI_le hy hx).mpr h
  omega
theorem wi_cgt (hc : (mm_CM me).2.2.2.2.2.2.2 = cd) (hi : cd pc = some (.if_icmp .gt o, 3, tg, r2)) (hx : rI x) (hy : rI y) (h1 : y < x → mm_wp E me (tg, Lc, r, M) Q) (h2 : x ≤ y → mm_wp E me (pc + 3, Lc, r, M) Q) : mm_wp E me (pc, Lc, .int (iI y) :: .int (iI x) :: r, M) Q := by
  refine wp_st (z' := if iI y < iI x then (tg, Lc, r, M) else (pc + 3, Lc, r, M)) (stp_of hc hi rfl) (wp_if (fun h => h1 ((iI_lt hy hx).mp h)) (fun h => h2 ?_))
  have h := mt (iI_lt hy hx).mpr h
  omega
theorem wi_cle (hc : (mm_CM me).2.2.2.2.2.2.2 = cd) (hi : cd pc = some (.if_icmp .le o, 3, tg, r2)) (hx : rI x) (hy : rI y) (h1 : x ≤ y → mm_wp E me (tg, Lc, r, M) Q) (h2 : y < x → mm_wp E me (pc + 3, Lc, r, M) Q) : mm_wp E me (pc, Lc, .int (iI y) :: .int (iI x) :: r, M) Q := by
  refine wp_st (z' := if iI x ≤ iI y then (tg, Lc, r, M) else (pc + 3, Lc, r, M)) (stp_of hc hi rfl) (wp_if (fun h => h1 ((iI_le hx hy).mp h)) (fun h => h2 ?_))
  have h := mt (iI_le hx hy).mpr h
  omega
theorem wi_zeq (hc : (mm_CM me).2.2.2.2.2.2.2 = cd) (hi : cd pc = some (.ifCond .eq o, 3, tg, r2)) (hx : rI x) (h1 : x = 0 → mm_wp E me (tg, Lc, r, M) Q) (h2 : ¬ x = 0 → mm_wp E me (pc + 3, Lc, r, M) Q) : mm_wp E me (pc, Lc, .int (iI x) :: r, M) Q := by
  refine wp_st (z' := if iI x = 0 then (tg, Lc, r, M) else (pc + 3, Lc, r, M)) (stp_of hc hi rfl) (wp_if (fun h => h1 ((iI_eq hx r0).mp h)) (fun h => h2 ?_))
  have h := mt (iI_eq hx r0).mpr h
  omega
theorem wi_zne (hc : (mm_CM me).2.2.2.2.2.2.2 = cd) (hi : cd pc = some (.ifCond .ne o, 3, tg, r2)) (hx : rI x) (h1 : ¬ x = 0 → mm_wp E me (tg, Lc, r, M) Q) (h2 : x = 0 → mm_wp E me (pc + 3, Lc, r, M) Q) : mm_wp E me (pc, Lc, .int (iI x) :: r, M) Q := by
  refine wp_st (z' := if ¬ iI x = 0 then (tg, Lc, r, M) else (pc + 3, Lc, r, M)) (stp_of hc hi rfl) (wp_if (fun h => h1 ((not_congr (iI_eq hx r0)).mp h)) (fun h => h2 ?_))
  have h := mt (not_congr (iI_eq hx r0)).mpr h
  omega
theorem wi_zlt (hc : (mm_CM me).2.2.2.2.2.2.2 = cd) (hi : cd pc = some (.ifCond .lt o, 3, tg, r2)) (hx : rI x) (h1 : x < 0 → mm_wp E me (tg, Lc, r, M) Q) (h2 : 0 ≤ x → mm_wp E me (pc + 3, Lc, r, M) Q) : mm_wp E me (pc, Lc, .int (iI x) :: r, M) Q := by
  refine wp_st (z' := if iI x < 0 then (tg, Lc, r, M) else (pc + 3, Lc, r, M)) (stp_of hc hi rfl) (wp_if (fun h => h1 ((iI_lt hx r0).mp h)) (fun h => h2 ?_))
  have h := mt (iI_lt hx r0).mpr h
  omega
theorem wi_zge (hc : (mm_CM me).2.2.2.2.2.2.2 = cd) (hi : cd pc = some (.ifCond .ge o, 3, tg, r2)) (hx : rI x) (h1 : 0 ≤ x → mm_wp E me (tg, Lc, r, M) Q) (h2 : x < 0 → mm_wp E me (pc + 3, Lc, r, M) Q) : mm_wp E me (pc, Lc, .int (iI x) :: r, M) Q := by
  refine wp_st (z' := if 0 ≤ iI x then (tg, Lc, r, M) else (pc + 3, Lc, r, M)) (stp_of hc hi rfl) (wp_if (fun h => h1 ((iI_le r0 hx).mp h)) (fun h => h2 ?_))
  have h := mt (iI_le r0 hx).mpr h
  omega
theorem wi_zgt (hc : (mm_CM me).2.2.2.2.2.2.2 = cd) (hi : cd pc = some (.ifCond .gt o, 3, tg, r2)) (hx : rI x) (h1 : 0 < x → mm_wp E me (tg, Lc, r, M) Q) (h2 : x ≤ 0 → mm_wp E me (pc + 3, Lc, r, M) Q) : mm_wp E me (pc, Lc, .int (iI x) :: r, M) Q := by
  refine wp_st (z' := if 0 < iI x then (tg, Lc, r, M) else (pc + 3, Lc, r, M)) (stp_of hc hi rfl) (wp_if (fun h => h1 ((iI_lt r0 hx).mp h)) (fun h => h2 ?_))
  have h := mt (iI_lt r0 hx).mpr h
  omega
theorem wi_zle (hc : (mm_CM me).2.2.2.2.2.2.2 = cd) (hi : cd pc = some (.ifCond .le o, 3, tg, r2)) (hx : rI x) (h1 : x ≤ 0 → mm_wp E me (tg, Lc, r, M) Q) (h2 : 0 < x → mm_wp E me (pc + 3, Lc, r, M) Q) : mm_wp E me (pc, Lc, .int (iI x) :: r, M) Q := by
  refine wp_st (z' := if iI x ≤ 0 then (tg, Lc, r, M) else (pc + 3, Lc, r, M)) (stp_of hc hi rfl) (wp_if (fun h => h1 ((iI_le hx r0).mp h)) (fun h => h2 ?_))
  have h := mt (iI_le hx r0).mpr h
  omega
theorem wi_beq {p : Prop} [Decidable p] (hc : (mm_CM me).2.2.2.2.2.2.2 = cd) (hi : cd pc = some (.ifCond .eq o, 3, tg, r2)) (h1 : ¬ p → mm_wp E me (tg, Lc, r, M) Q) (h2 : p → mm_wp E me (pc + 3, Lc, r, M) Q) : mm_wp E me (pc, Lc, .int (iI (bI p)) :: r, M) Q := by
  by_cases h : p
  · rw [bI_t h]
    exact wi_zeq hc hi ⟨by decide, by decide⟩ (fun q => absurd q (by decide)) (fun _ => h2 h)
  · rw [bI_f h]
    exact wi_zeq hc hi ⟨by decide, by decide⟩ (fun _ => h1 h) (fun q => absurd rfl q)
theorem wi_bne {p : Prop} [Decidable p] (hc : (mm_CM me).2.2.2.2.2.2.2 = cd) (hi : cd pc = some (.ifCond .ne o, 3, tg, r2)) (h1 : p → mm_wp E me (tg, Lc, r, M) Q) (h2 : ¬ p → mm_wp E me (pc + 3, Lc, r, M) Q) : mm_wp E me (pc, Lc, .int (iI (bI p)) :: r, M) Q := by
  by_cases h : p
  · rw [bI_t h]
    exact wi_zne hc hi ⟨by decide, by decide⟩ (fun _ => h1 h) (fun q => absurd q (by decide))
  · rw [bI_f h]
    exact wi_zne hc hi ⟨by decide, by decide⟩ (fun q => absurd rfl q) (fun _ => h2 h)
end WB
section WM
variable {E : mm_EV} {me pc r1 r2 L t : Nat} {cd : Nat → Option mm_In} {Lc : List (Option Value)} {r : List Value} {s l : Nat → Int → Int} {Q : mm_Rs → Prop} {x e v : Int} {a N k0 ci kf idx : Nat}
/-- an int field -/
theorem wi_gf {kz : Int} (hz : (kf : Int) = kz) (hc : (mm_CM me).2.2.2.2.2.2.2 = cd) (hi : cd pc = some (.getfield idx, 3, ci, kf)) (h1 : (mm_SH L t a).1 = ci) (h2 : a < 621) (h3 : kf < (mm_SH L t a).2.1) (h4 : (mm_SH L t a).2.2.getD kf 0 = 0) (k : mm_wp E me (pc + 3, Lc, .int (iI (s a kz)) :: r, MX L t s l) Q) : mm_wp E me (pc, Lc, .ref a :: r, MX L t s l) Q := by
  subst hz
  refine wp_st (stp_of hc hi ?_) k
  show mm_exe (.getfield idx) 3 ci kf pc Lc (.ref a :: r) (MX L t s l) = _
  have hf : mm_fld (MX L t s l) a ci kf = some (.int (iI (s a kf))) := by
    unfold mm_fld
    rw [if_pos ⟨h1, h2, h3⟩]
    show some (mm_sv (MX L t s l) a kf ((mm_SH L t a).2.2.getD kf 0)) = _
    rw [h4]
    rfl
  unfold mm_exe
  dsimp only
  rw [hf]
/-- a reference field -/
theorem wi_gr {w : Nat} (hc : (mm_CM me).2.2.2.2.2.2.2 = cd) (hi : cd pc = some (.getfield idx, 3, ci, kf)) (h1 : (mm_SH L t a).1 = ci) (h2 : a < 621) (h3 : kf < (mm_SH L t a).2.1) (h4 : (mm_SH L t a).2.2.getD kf 0 = w + 3) (k : mm_wp E me (pc + 3, Lc, .ref w :: r, MX L t s l) Q) : mm_wp E me (pc, Lc, .ref a :: r, MX L t s l) Q := by
  refine wp_st (stp_of hc hi ?_) k
  show mm_exe (.getfield idx) 3 ci kf pc Lc (.ref a :: r) (MX L t s l) = _
  have hf : mm_fld (MX L t s l) a ci kf = some (.ref w) := by
    unfold mm_fld
    rw [if_pos ⟨h1, h2, h3⟩]
    show some (mm_sv (MX L t s l) a kf ((mm_SH L t a).2.2.getD kf 0)) = _
    rw [h4]
    rfl
  unfold mm_exe
  dsimp only
  rw [hf]
/-- a long field -/
theorem wi_gl {kz : Int} (hz : (kf : Int) = kz) (hc : (mm_CM me).2.2.2.2.2.2.2 = cd) (hi : cd pc = some (.getfield idx, 3, ci, kf)) (h1 : (mm_SH L t a).1 = ci) (h2 : a < 621) (h3 : kf < (mm_SH L t a).2.1) (h4 : (mm_SH L t a).2.2.getD kf 0 = 1) (k : mm_wp E me (pc + 3, Lc, .long (lI (l a kz)) :: r, MX L t s l) Q) : mm_wp E me (pc, Lc, .ref a :: r, MX L t s l) Q := by
  subst hz
  refine wp_st (stp_of hc hi ?_) k
  show mm_exe (.getfield idx) 3 ci kf pc Lc (.ref a :: r) (MX L t s l) = _
  have hf : mm_fld (MX L t s l) a ci kf = some (.long (lI (l a kf))) := by
    unfold mm_fld
    rw [if_pos ⟨h1, h2, h3⟩]
    show some (mm_sv (MX L t s l) a kf ((mm_SH L t a).2.2.getD kf 0)) = _
    rw [h4]
    rfl
  unfold mm_exe
  dsimp only
  rw [hf]
theorem mi_of {kind : Nat} (h : mm_SH L t a = (kind, N, [])) (ha : a < 621) (h0 : 0 ≤ e) (h1 : e < N) (hN : N ≤ 100000) : mm_in (MX L t s l) a kind (iI e) ∧ (iI e).toNatClampNeg = e.toNat := by
  have hn : (iI e).toNatClampNeg = e.toNat := iI_nat h0 (by omega)
  refine ⟨⟨?_, ha, iI_pos h0 (by omega), ?_⟩, hn⟩
  · show (mm_SH L t a).1 = kind
    rw [h]
  · show (iI e).toNatClampNeg < (mm_SH L t a).2.1
    rw [h, hn]
    show e.toNat < N
    omega
theorem mG_n (h0 : 0 ≤ e) : mG s a e.toNat = iI (s a e) := by
  show iI (s a (e.toNat : Int)) = _
  rw [Int.toNat_of_nonneg h0]
theorem mL_n (h0 : 0 ≤ e) : mL l a e.toNat = lI (l a e) := by
  show lI (l a (e.toNat : Int)) = _
  rw [Int.toNat_of_nonneg h0]
theorem wi_ild (hc : (mm_CM me).2.2.2.2.2.2.2 = cd) (hi : cd pc = some (.iaload, 1, r1, r2)) (h : mm_SH L t a = (100, N, [])) (ha : a < 621) (hN : N ≤ 100000) (h0 : 0 ≤ e) (h1 : e < N) (k : mm_wp E me (pc + 1, Lc, .int (iI (s a e)) :: r, MX L t s l) Q) : mm_wp E me (pc, Lc, .int (iI e) :: .ref a :: r, MX L t s l) Q := by
  obtain ⟨g1, g2⟩ := mi_of (s := s) (l := l) h ha h0 h1 hN
  refine wp_ild hc hi g1 ?_
  rw [g2]
  show mm_wp E me (pc + 1, Lc, .int (mG s a e.toNat) :: r, MX L t s l) Q
  rw [mG_n h0]
  exact k
theorem wi_bld (hc : (mm_CM me).2.2.2.2.2.2.2 = cd) (hi : cd pc = some (.baload, 1, r1, r2)) (h : mm_SH L t a = (102, N, [])) (ha : a < 621) (hN : N ≤ 100000) (h0 : 0 ≤ e) (h1 : e < N) (k : mm_wp E me (pc + 1, Lc, .int (iI (s a e)) :: r, MX L t s l) Q) : mm_wp E me (pc, Lc, .int (iI e) :: .ref a :: r, MX L t s l) Q := by
  obtain ⟨g1, g2⟩ := mi_of (s := s) (l := l) h ha h0 h1 hN
  refine wp_bld hc hi g1 ?_
  rw [g2]
  show mm_wp E me (pc + 1, Lc, .int (mG s a e.toNat) :: r, MX L t s l) Q
  rw [mG_n h0]
  exact k
theorem wi_lld (hc : (mm_CM me).2.2.2.2.2.2.2 = cd) (hi : cd pc = some (.laload, 1, r1, r2)) (h : mm_SH L t a = (101, N, [])) (ha : a < 621) (hN : N ≤ 100000) (h0 : 0 ≤ e) (h1 : e < N) (k : mm_wp E me (pc + 1, Lc, .long (lI (l a e)) :: r, MX L t s l) Q) : mm_wp E me (pc, Lc, .int (iI e) :: .ref a :: r, MX L t s l) Q := by
  obtain ⟨g1, g2⟩ := mi_of (s := s) (l := l) h ha h0 h1 hN
  refine wp_lld hc hi g1 ?_
  rw [g2]
  show mm_wp E me (pc + 1, Lc, .long (mL l a e.toNat) :: r, MX L t s l) Q
  rw [mL_n h0]
  exact k
theorem wi_ist (hc : (mm_CM me).2.2.2.2.2.2.2 = cd) (hi : cd pc = some (.iastore, 1, r1, r2)) (h : mm_SH L t a = (100, N, [])) (ha : a < 621) (hN : N ≤ 100000) (h0 : 0 ≤ e) (h1 : e < N) (k : mm_wp E me (pc + 1, Lc, r, MX L t (up s a e v) l) Q) : mm_wp E me (pc, Lc, .int (iI v) :: .int (iI e) :: .ref a :: r, MX L t s l) Q := by
  obtain ⟨g1, g2⟩ := mi_of (s := s) (l := l) h ha h0 h1 hN
  refine wp_ist hc hi g1 ?_
  rw [g2]
  show mm_wp E me (pc + 1, Lc, r, mm_X L t (mm_u2 (mG s) a e.toNat (iI v)) (mL l)) Q
  rw [mG_up h0]
  exact k
theorem wi_lst (hc : (mm_CM me).2.2.2.2.2.2.2 = cd) (hi : cd pc = some (.lastore, 1, r1, r2)) (h : mm_SH L t a = (101, N, [])) (ha : a < 621) (hN : N ≤ 100000) (h0 : 0 ≤ e) (h1 : e < N) (k : mm_wp E me (pc + 1, Lc, r, MX L t s (up l a e v)) Q) : mm_wp E me (pc, Lc, .long (lI v) :: .int (iI e) :: .ref a :: r, MX L t s l) Q := by
  obtain ⟨g1, g2⟩ := mi_of (s := s) (l := l) h ha h0 h1 hN
  refine wp_lst hc hi g1 ?_
  rw [g2]
  show mm_wp E me (pc + 1, Lc, r, mm_X L t (mG s) (mm_u2 (mL l) a e.toNat (lI v))) Q
  rw [mL_up h0]
  exact k
theorem wi_bst (hc : (mm_CM me).2.2.2.2.2.2.2 = cd) (hi : cd pc = some (.bastore, 1, r1, r2)) (h : mm_SH L t a = (102, N, [])) (ha : a < 621) (hN : N ≤ 100000) (h0 : 0 ≤ e) (h1 : e < N) (hv : v = 0 ∨ v = 1) (k : mm_wp E me (pc + 1, Lc, r, MX L t (up s a e v) l) Q) : mm_wp E me (pc, Lc, .int (iI v) :: .int (iI e) :: .ref a :: r, MX L t s l) Q := by
  obtain ⟨g1, g2⟩ := mi_of (s := s) (l := l) h ha h0 h1 hN
  refine wp_bst hc hi g1 ?_
  rw [g2]
  have hb : vp_nar .boolean (iI v) = iI v := by
    rcases hv with rfl | rfl <;> rfl
  rw [hb]
  show mm_wp E me (pc + 1, Lc, r, mm_X L t (mm_u2 (mG s) a e.toNat (iI v)) (mL l)) Q
  rw [mG_up h0]
  exact k
/-- an element of an array of arrays or objects -/
theorem wi_ald {w : Nat} (hc : (mm_CM me).2.2.2.2.2.2.2 = cd) (hi : cd pc = some (.aaload, 1, r1, r2)) (h1 : 103 ≤ (mm_SH L t a).1) (h2 : (mm_SH L t a).1 < 106) (ha : a < 621) (h3 : (mm_SH L t a).2.1 = N) (hN : N ≤ 100000) (h4 : 0 ≤ e) (h5 : e < N) (h6 : (mm_SH L t a).2.2.getD e.toNat 2 = w + 3) (k : mm_wp E me (pc + 1, Lc, .ref w :: r, MX L t s l) Q) : mm_wp E me (pc, Lc, .int (iI e) :: .ref a :: r, MX L t s l) Q := by
  have hn : (iI e).toNatClampNeg = e.toNat := iI_nat h4 (by omega)
  refine wp_ald hc hi h1 h2 ⟨rfl, ha, iI_pos h4 (by omega), ?_⟩ (by rw [hn]; exact h6) k
  show (iI e).toNatClampNeg < (mm_SH L t a).2.1
  rw [hn, h3]
  omega
/-- an int into a field -/
theorem wi_pf {kz : Int} (hz : (kf : Int) = kz) (hc : (mm_CM me).2.2.2.2.2.2.2 = cd) (hi : cd pc = some (.putfield idx, 3, ci, kf)) (h1 : (mm_SH L t a).1 = ci) (h2 : a < 621) (h3 : kf < (mm_SH L t a).2.1) (h4 : (mm_SH L t a).2.2.getD kf 0 = 0) (h5 : kf < (mm_SH L t a).2.2.length) (h6 : narrow (mm_tf ci kf) (.int (iI v)) = .int (iI v) ∧ fits (mm_tf ci kf) (.int (iI v)) = true) (h7 : mm_fi ci kf = false) (k : mm_wp E me (pc + 3, Lc, r, MX L t (up s a kz v) l) Q) : mm_wp E me (pc, Lc, .int (iI v) :: .ref a :: r, MX L t s l) Q := by
  subst hz
  have hp : mm_put (MX L t s l) a ci kf (.int (iI v)) = some (MX L t (up s a kf v) l) := by
    unfold mm_put
    rw [if_pos ⟨h1, h2, h3⟩]
    show (match Value.int (iI v), (mm_SH L t a).2.2.getD kf 0 with
      | .int x, 0 => some ((MX L t s l).1, (MX L t s l).2.1, mm_u2 (mG s) a kf x, (MX L t s l).2.2.2)
      | .long x, 1 => some ((MX L t s l).1, (MX L t s l).2.1, (MX L t s l).2.2.1, mm_u2 (MX L t s l).2.2.2 a kf x)
      | .ref r, _ + 2 => some (mm_u1 (MX L t s l).1 a (((MX L t s l).1 a).1, ((MX L t s l).1 a).2.1, ((MX L t s l).1 a).2.2.set kf (r + 3)), (MX L t s l).2.1, (MX L t s l).2.2)
      | .null, _ + 2 => some (mm_u1 (MX L t s l).1 a (((MX L t s l).1 a).1, ((MX L t s l).1 a).2.1, ((MX L t s l).1 a).2.2.set kf 2), (MX L t s l).2.1, (MX L t s l).2.2)
      | _, _ => none) = _
    rw [h4]
    show some ((MX L t s l).1, (MX L t s l).2.1, mm_u2 (mG s) a ((kf : Int).toNat) (iI v), (MX L t s l).2.2.2) = _
    rw [mG_up (by omega)]
  exact wp_put hc hi hp h5 h6.1 h6.2 (fun q => by rw [h7] at q; cases q) k
/-- a long into a field -/
theorem wi_pl {kz : Int} (hz : (kf : Int) = kz) (hc : (mm_CM me).2.2.2.2.2.2.2 = cd) (hi : cd pc = some (.putfield idx, 3, ci, kf)) (h1 : (mm_SH L t a).1 = ci) (h2 : a < 621) (h3 : kf < (mm_SH L t a).2.1) (h4 : (mm_SH L t a).2.2.getD kf 0 = 1) (h5 : kf < (mm_SH L t a).2.2.length) (h6 : narrow (mm_tf ci kf) (.long (lI v)) = .long (lI v) ∧ fits (mm_tf ci kf) (.long (lI v)) = true) (h7 : mm_fi ci kf = false) (k : mm_wp E me (pc + 3, Lc, r, MX L t s (up l a kz v)) Q) : mm_wp E me (pc, Lc, .long (lI v) :: .ref a :: r, MX L t s l) Q := by
  subst hz
  have hp : mm_put (MX L t s l) a ci kf (.long (lI v)) = some (MX L t s (up l a kf v)) := by
    unfold mm_put
    rw [if_pos ⟨h1, h2, h3⟩]
    show (match Value.long (lI v), (mm_SH L t a).2.2.getD kf 0 with
      | .int x, 0 => some ((MX L t s l).1, (MX L t s l).2.1, mm_u2 (mG s) a kf x, (MX L t s l).2.2.2)
      | .long x, 1 => some ((MX L t s l).1, (MX L t s l).2.1, (MX L t s l).2.2.1, mm_u2 (mL l) a kf x)
      | .ref r, _ + 2 => some (mm_u1 (MX L t s l).1 a (((MX L t s l).1 a).1, ((MX L t s l).1 a).2.1, ((MX L t s l).1 a).2.2.set kf (r + 3)), (MX L t s l).2.1, (MX L t s l).2.2)
      | .null, _ + 2 => some (mm_u1 (MX L t s l).1 a (((MX L t s l).1 a).1, ((MX L t s l).1 a).2.1, ((MX L t s l).1 a).2.2.set kf 2), (MX L t s l).2.1, (MX L t s l).2.2)
      | _, _ => none) = _
    rw [h4]
    show some ((MX L t s l).1, (MX L t s l).2.1, (MX L t s l).2.2.1, mm_u2 (mL l) a ((kf : Int).toNat) (lI v)) = _
    rw [mL_up (by omega)]
  exact wp_put hc hi hp h5 h6.1 h6.2 (fun q => by rw [h7] at q; cases q) k
end WM
section WRT
variable {E : mm_EV} {me pc : Nat} {cd : Nat → Option mm_In} {Lc : List (Option Value)} {M : mm_M} {Q : mm_Rs → Prop} {n1 n2 n3 : Nat}
theorem wi_ri {x : Int32} (hc : (mm_CM me).2.2.2.2.2.2.2 = cd) (hi : cd pc = some (.ireturn, n1, n2, n3)) (ht : (mm_CM me).2.2.2.1 = some .int) (q : Q (some (.int x), M)) : mm_wp E me (pc, Lc, [.int x], M) Q :=
  wp_rt (res := (some (.int x), M)) ⟨.ireturn, n1, n2, n3, by rw [hc]; exact hi, rfl, x, .int, rfl, rfl, ht, rfl⟩ q
theorem wi_rb {p : Prop} [Decidable p] (hc : (mm_CM me).2.2.2.2.2.2.2 = cd) (hi : cd pc = some (.ireturn, n1, n2, n3)) (ht : (mm_CM me).2.2.2.1 = some .boolean) (q : Q (some (.int (iI (bI p))), M)) : mm_wp E me (pc, Lc, [.int (iI (bI p))], M) Q :=
  wp_rt (res := (some (.int (iI (bI p))), M)) ⟨.ireturn, n1, n2, n3, by rw [hc]; exact hi, rfl, _, .boolean, rfl, rfl, ht, by rcases bI_01 p with h | h <;> (rw [h]; rfl)⟩ q
theorem wi_r1 (hc : (mm_CM me).2.2.2.2.2.2.2 = cd) (hi : cd pc = some (.ireturn, n1, n2, n3)) (ht : (mm_CM me).2.2.2.1 = some .boolean) (q : Q (some (.int (iI 1)), M)) : mm_wp E me (pc, Lc, [.int (iI 1)], M) Q :=
  wp_rt (res := (some (.int (iI 1)), M)) ⟨.ireturn, n1, n2, n3, by rw [hc]; exact hi, rfl, _, .boolean, rfl, rfl, ht, rfl⟩ q
theorem wi_r0 (hc : (mm_CM me).2.2.2.2.2.2.2 = cd) (hi : cd pc = some (.ireturn, n1, n2, n3)) (ht : (mm_CM me).2.2.2.1 = some .boolean) (q : Q (some (.int (iI 0)), M)) : mm_wp E me (pc, Lc, [.int (iI 0)], M) Q :=
  wp_rt (res := (some (.int (iI 0)), M)) ⟨.ireturn, n1, n2, n3, by rw [hc]; exact hi, rfl, _, .boolean, rfl, rfl, ht, rfl⟩ q
theorem wi_rl {x : Int64} (hc : (mm_CM me).2.2.2.2.2.2.2 = cd) (hi : cd pc = some (.lreturn, n1, n2, n3)) (ht : (mm_CM me).2.2.2.1 = some .long) (q : Q (some (.long x), M)) : mm_wp E me (pc, Lc, [.long x], M) Q :=
  wp_rt (res := (some (.long x), M)) ⟨.lreturn, n1, n2, n3, by rw [hc]; exact hi, rfl, x, rfl, rfl, ht⟩ q
theorem wi_rv (hc : (mm_CM me).2.2.2.2.2.2.2 = cd) (hi : cd pc = some (.return_, n1, n2, n3)) (ht : (mm_CM me).2.2.2.1 = none) (q : Q (none, M)) : mm_wp E me (pc, Lc, [], M) Q :=
  wp_rt (res := (none, M)) ⟨.return_, n1, n2, n3, by rw [hc]; exact hi, rfl, rfl, rfl, ht⟩ q
end WRT
