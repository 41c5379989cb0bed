/-! Every step, every run, every call. -/
section MMT
variable {p : Program} {l : Launch} {e : Env} {R : Room} {s : State} {m : MethodId} {args : Array Value} {below : List Frame} {meth : Method} {c : Code} {Q : State → Prop}
variable {D : va_G} {cl : List vw_C} {cid : Nat → Nat} {base : Nat} {fo : Nat → Nat} {WS NW : List Jvm.Cond} {ct : mm_CT} {CM : Nat → mm_Me} {E : mm_EV} {me d n0 s0 : Nat}
theorem mm_nr {ty : FieldType} {v : Value} {ad : Nat → Nat} (h : narrow ty v = v) : narrow ty (mm_rn ad v) = mm_rn ad v := by
  cases v with
  | ref r =>
    cases ty <;> first | rfl | exact h
  | _ => exact h
theorem mm_ft {ty : FieldType} {v : Value} {ad : Nat → Nat} (h : fits ty v = true) : fits ty (mm_rn ad v) = true := by
  cases v with
  | ref r =>
    cases ty <;> first | rfl | exact h
  | _ => exact h
set_option maxHeartbeats 4000000 in
theorem mm_snd_st (hx : p.tables.exec = Jvm.exec) (hb : c.code = (CM me).2.1) (hml : c.maxLocals = (CM me).2.2.1) (hown : s.vm.findClass (CM me).1.cls = some m.cls) (hnm : (CM me).1.name = "<init>" → meth.name = "<init>") (hts : ∀ w ∈ WS, w.before args s = true) (hTb : mm_Tb ct CM cl WS NW) (hMO : mm_MC ct CM cl WS NW (CM me)) (hK : va_K D cl (mm_tys cid) s) (hnw : ∀ w ∈ NW, va_Nw w s) (hZs : mm_Zs ct.2.2.2 (mm_ad base fo) base s s.heap) (hb0 : base ≤ s.heap.size)
    (hE : ∀ k vs M res, E k vs M res → mm_MO ct CM cl WS NW (CM k) ∧ mm_Kp M res.2 ∧ Met l (CM k).1 (mm_wsl WS (CM k)) (mm_rm d (res.2.2.1.1 - M.2.1.1) (res.2.2.1.2 - M.2.1.2)) (mm_Pc base fo D cl cid NW ct.2.2.2 vs M) (mm_Qc base fo D cl cid res) (res.2.2.1.1 - M.2.1.1) (res.2.2.1.2 - M.2.1.2) (fun q => base ≤ q))
    (hR : d + 5 ≤ R.frames ∧ 60 * (d + 5) ≤ R.locals) {z z' : mm_St} (h : mm_Stp ct CM E me z z') (hn0 : n0 ≤ z.2.2.2.2.1.1) (hs0 : s0 ≤ z.2.2.2.2.1.2) (hc1 : z'.2.2.2.2.1.1 - n0 ≤ R.cells) (hc2 : z'.2.2.2.2.1.2 - s0 ≤ R.slots)
    (kk : mm_WP p l e R s m args below meth c D cl cid base fo n0 s0 Q z') : mm_WP p l e R s m args below meth c D cl cid base fo n0 s0 Q z := by
  obtain ⟨i, ln, r1, r2, hcode, h⟩ := h
  obtain ⟨o2, oc⟩ := hMO
  obtain ⟨oe, oln, ox⟩ := oc _ _ hcode
  have oe0 := oe
  rw [o2] at oe0
  obtain ⟨hdg0, oe2⟩ := oe0
  have hkp : mm_Kp z.2.2.2 z'.2.2.2 := mm_Kp_st (fun k vs M res q => (hE k vs M res q).2.1) h
  obtain ⟨pc, L, st, M⟩ := z
  intro H locs ls hL hll hsz hn hP hS hFo
  have hFo' := mm_Fo_kp hFo hkp hn
  have tb := hTb
  obtain ⟨tb1, tb2, tb3, tb4, tb5⟩ := tb
  have hcl : ∀ (ci : Nat) (C : String) (T : u_T) (N : Nat), cl[ci]? = some (C, T, N) → ∀ w ∈ u_ws C T N, w ∈ WS := fun ci C T N q => (tb3 ci C T N q).1
  dsimp only at hL hll hsz hn hP hFo hdg0 hn0 hs0 ⊢
  unfold mm_Sr at h
  dsimp only at h
  split at h
  · -- iaload
    rcases oln with q | q
    · cases q
    dsimp only [mm_ln] at q
    subst q
    obtain ⟨a, ix, r, rfl, hi | ⟨h1, h2, h3, h4⟩, rfl⟩ := h
    · exact mm_iald hx hb hK hP hi hdg0 (kk H locs ls hL hll hsz hn hP hS hFo)
    · have g2 := hFo.1 a h1 h2
      have : mm_ad base fo a = fo a := if_neg (by omega)
      show W p l e R s m args below meth c H locs _ _ Q (F0 m pc ls (.int ix :: .ref (mm_ad base fo a) :: r.map (mm_rn (mm_ad base fo))))
      rw [this]
      exact va_ti hx hb g2 hS (fun z => by rcases z with z | z; exact h3 z; omega) rfl hdg0 (kk H locs ls hL hll hsz hn hP hS hFo)
  · -- laload
    rcases oln with q | q
    · cases q
    dsimp only [mm_ln] at q
    subst q
    obtain ⟨a, ix, r, rfl, hi, rfl⟩ := h
    exact mm_lald hx hb hK hP hi hdg0 (kk H locs ls hL hll hsz hn hP hS hFo)
  · -- baload
    rcases oln with q | q
    · cases q
    dsimp only [mm_ln] at q
    subst q
    obtain ⟨a, ix, r, rfl, hi, rfl⟩ := h
    exact mm_zald hx hb hK hP hi hdg0 (kk H locs ls hL hll hsz hn hP hS hFo)
  · -- aaload
    rcases oln with q | q
    · cases q
    dsimp only [mm_ln] at q
    subst q
    obtain ⟨a, k, ix, r, rfl, h1, h2, hi, rfl⟩ := h
    exact mm_aald hx hb hK hP h1 h2 hi hdg0 (kk H locs ls hL hll hsz hn hP hS hFo)
  · -- iastore
    rcases oln with q | q
    · cases q
    dsimp only [mm_ln] at q
    subst q
    obtain ⟨a, ix, x, r, rfl, hi, rfl⟩ := h
    exact mm_iast hx hb hK hP hn hS hi hdg0 (fun H1 locs1 q1 q2 q3 => kk H1 locs1 ls hL hll (by rw [q1]; exact hsz) hn q2 q3 hFo')
  · -- bastore
    rcases oln with q | q
    · cases q
    dsimp only [mm_ln] at q
    subst q
    obtain ⟨a, ix, x, r, rfl, hi, rfl⟩ := h
    exact mm_zast hx hb hK hP hn hS hi hdg0 (fun H1 locs1 q1 q2 q3 => kk H1 locs1 ls hL hll (by rw [q1]; exact hsz) hn q2 q3 hFo')
  · -- lastore
    rcases oln with q | q
    · cases q
    dsimp only [mm_ln] at q
    subst q
    obtain ⟨a, ix, x, r, rfl, hi, rfl⟩ := h
    exact mm_last hx hb hK hP hn hS hi hdg0 (fun H1 locs1 q1 q2 q3 => kk H1 locs1 ls hL hll (by rw [q1]; exact hsz) hn q2 q3 hFo')
  · -- aastore
    rcases oln with q | q
    · cases q
    dsimp only [mm_ln] at q
    subst q
    obtain ⟨a, v, k, ix, r, rfl, h1, h2, hi, hv, hvc, htl, rfl⟩ := h
    have hlt : (M.1 v).1 < 100 := by rw [hvc]; omega
    have hP2 := hP v _ (mm_ws_at hv)
    obtain ⟨rc, hrc⟩ : ∃ rc, cl[(M.1 v).1]? = some rc := by
      unfold mm_E at hP2
      rw [if_pos hlt] at hP2
      obtain ⟨rc, hrc, -⟩ := hP2
      exact ⟨rc, hrc⟩
    have hty : mm_ty k = .object rc.1 := by
      rcases (by omega : k = 104 ∨ k = 105) with rfl | rfl
      · exact (tb4 rc).1 (by rw [← hrc, hvc])
      · exact (tb4 rc).2 (by rw [← hrc, hvc])
    exact mm_aast hx hb hK hP hn hS h1 h2 hi hv hlt hrc hty htl hdg0 (fun H1 locs1 q1 q2 q3 => kk H1 locs1 ls hL hll (by rw [q1]; exact hsz) hn q2 q3 hFo')
  · -- putfield
    rename_i idx
    rcases oln with q | q
    · cases q
    dsimp only [mm_ln] at q
    subst q
    obtain ⟨a, v, r, M', rfl, h1, h2, h3, h4, h5, rfl⟩ := h
    obtain ⟨q, e1, e2, e3, e4⟩ := oe2
    obtain ⟨C, T, N⟩ := q
    obtain ⟨t1, t2, t3, t4, t5, t6⟩ := tb3 _ _ _ _ e1
    obtain ⟨g0, en, -⟩ := mm_put_E h1 h2
    exact mm_putf hx hb hown hts hK hP hn hS e1 e2 t1 (ct.2.1 r1) t2 t3 e3 e4 (fun q => by
        have qi := h5 (by rw [← t4 _ e3]; exact q)
        have qn : (CM me).1.name = "<init>" := of_decide_eq_true qi
        exact ⟨hnm qn, by rw [t5 _ e3]; exact ox _ e1 (by rw [← t4 _ e3]; exact q) qn⟩) (t2 _ e3) (mm_nr h3) (mm_ft h4) h1 h2 hdg0 (fun H1 locs1 q1 q2 q3 => by
        have e5 : M'.2.1.1 = M.2.1.1 := by rw [en]
        have e6 : M'.2.1.2 = M.2.1.2 := by rw [en]
        have := kk H1 locs1 ls hL hll (by rw [q1]; show _ = base + M'.2.1.1; rw [e5]; exact hsz) (by show M'.2.1.1 ≤ _; rw [e5]; exact hn) q2 q3 hFo'
        dsimp only at this
        rw [e5, e6] at this
        exact this)
  · -- new
    rename_i idx
    rcases oln with q | q
    · cases q
    dsimp only [mm_ln] at q
    subst q
    obtain ⟨h1, rfl⟩ := h
    obtain ⟨q, e1, e2, e3, e4, e5, e6⟩ := oe2
    obtain ⟨C, T, N⟩ := q
    dsimp only at e3 e4 e5 e6
    subst e3
    obtain ⟨t1, t2, t3, t4, t5, t6⟩ := tb3 _ _ _ _ e1
    have c1 : M.2.1.1 + 1 - n0 ≤ R.cells := hc1
    have c2 : M.2.1.2 + N - s0 ≤ R.slots := hc2
    exact mm_new hx hb hown hts hK hP h1 hsz hS e1 e2 t1 (ct.2.1 r1) t2 e4 e5 e6 (fun j hj => t6 j hj M N) (by omega) (by omega) hdg0 (fun H1 q1 q2 q3 => by
        have := kk H1 locs ls hL hll q1 (by show M.2.1.1 + 1 ≤ _; omega) q2 q3 hFo'
        rw [show M.2.1.1 - n0 + 1 = M.2.1.1 + 1 - n0 by omega, show M.2.1.2 - s0 + N = M.2.1.2 + N - s0 by omega]
        exact this)
  · -- newarray
    rename_i t
    rcases oln with q | q
    · cases q
    dsimp only [mm_ln] at q
    subst q
    obtain ⟨x, r, rfl, h1, h2, h3, h4, rfl⟩ := h
    have c1 : M.2.1.1 + 1 - n0 ≤ R.cells := hc1
    have c2 : M.2.1.2 + x.toNatClampNeg - s0 ≤ R.slots := hc2
    exact mm_newa hx hb hK hP h3 hsz hS (kd := mm_kd t) (by cases t <;> first | exact Or.inl ⟨rfl, rfl⟩ | exact Or.inr (Or.inl ⟨rfl, rfl⟩) | exact Or.inr (Or.inr ⟨rfl, rfl⟩) | exact absurd h4 (by decide)) (hts _ oe2) h1 rfl h2 (by omega) (by omega) hdg0 (fun H1 q1 q2 q3 => by
        have := kk H1 locs ls hL hll q1 (by show M.2.1.1 + 1 ≤ _; omega) q2 q3 hFo'
        rw [show M.2.1.1 - n0 + 1 = M.2.1.1 + 1 - n0 by omega, show M.2.1.2 - s0 + x.toNatClampNeg = M.2.1.2 + x.toNatClampNeg - s0 by omega]
        exact this)
  · -- anewarray
    rename_i idx
    rcases oln with q | q
    · cases q
    dsimp only [mm_ln] at q
    subst q
    obtain ⟨x, r, rfl, h1, h2, h3, rfl⟩ := h
    obtain ⟨C, e1, e2, e3, e4⟩ := oe2
    have c1 : M.2.1.1 + 1 - n0 ≤ R.cells := hc1
    have c2 : M.2.1.2 + x.toNatClampNeg - s0 ≤ R.slots := hc2
    exact mm_anew hx hb hown hts hK hP h3 hsz hS e2 e3 e1 e4 (hnw _ (ox C e1)) h1 rfl h2 (by omega) (by omega) hdg0 (fun H1 q1 q2 q3 => by
        have := kk H1 locs ls hL hll q1 (by show M.2.1.1 + 1 ≤ _; omega) q2 q3 hFo'
        rw [show M.2.1.1 - n0 + 1 = M.2.1.1 + 1 - n0 by omega, show M.2.1.2 - s0 + x.toNatClampNeg = M.2.1.2 + x.toNatClampNeg - s0 by omega]
        exact this)
  · -- multianewarray
    rename_i idx k9
    rcases oln with q | q
    · cases q
    dsimp only [mm_ln] at q
    subst q
    obtain ⟨n, k, r, rfl, h1, h2, h3, h4, rfl⟩ := h
    obtain ⟨e1, e2, e3⟩ := oe2
    subst e1
    have c1 : M.2.1.1 + 1 + n.toNatClampNeg - n0 ≤ R.cells := hc1
    have c2 : M.2.1.2 + n.toNatClampNeg + n.toNatClampNeg * k.toNatClampNeg - s0 ≤ R.slots := hc2
    generalize hnk : n.toNatClampNeg * k.toNatClampNeg = nk at c2
    exact mm_mna hx hb hown hK hP hsz hS (show _ by rw [show ("[" ++ (FieldType.array FieldType.int).toString) = "[[I" by decide]; exact hts _ e2) ((tb2 _ ox).2.2 _ _ (hnw _ ox)) (hts _ e3) h1 h2 rfl rfl h4 h3 (by omega) (by rw [hnk]; omega) hdg0 (fun H1 q1 q2 q3 => by
        have := kk H1 locs ls hL hll (by rw [q1]; show _ = base + (M.2.1.1 + 1 + n.toNatClampNeg); omega) (by show M.2.1.1 + 1 + n.toNatClampNeg ≤ _; omega) q2 q3 hFo'
        rw [show M.2.1.1 - n0 + 1 + n.toNatClampNeg = M.2.1.1 + 1 + n.toNatClampNeg - n0 by omega, hnk, show M.2.1.2 - s0 + n.toNatClampNeg + nk = M.2.1.2 + n.toNatClampNeg + nk - s0 by omega, ← hnk]
        exact this)
  · -- arraylength
    rcases h with h | ⟨a, r, rfl, h1, h2, rfl⟩
    · have hM := mm_exe_M h
      have hLn := mm_exe_len h
      refine mm_snd_exe (cells := M.2.1.1 - n0) (slots := M.2.1.2 - s0) (locs := locs) hx hb hown hts hcl hK h (by rw [← o2]; exact oe) oln hL hP (fun ls' q => ?_)
      have := kk H locs ls' q (by rw [hLn]; exact hll) (by rw [hM]; exact hsz) (by rw [hM]; exact hn) (by rw [hM]; exact hP) hS hFo'
      rw [hM] at this
      exact this
    · rcases oln with q | q
      · cases q
      dsimp only [mm_ln] at q
      subst q
      have g2 := hFo.1 a h1 h2
      have : mm_ad base fo a = fo a := if_neg (by omega)
      show W p l e R s m args below meth c H locs _ _ Q (F0 m pc ls (.ref (mm_ad base fo a) :: r.map (mm_rn (mm_ad base fo))))
      rw [this]
      exact va_tlen hx hb g2 hS rfl hdg0 (kk H locs ls hL hll hsz hn hP hS hFo)
  · -- getstatic
    rename_i idx
    rcases oln with q | q
    · cases q
    dsimp only [mm_ln] at q
    subst q
    obtain ⟨q, h1, rfl⟩ := h
    have hZ := hZs _ _ h1
    have hS2 : va_S (fun q => base ≤ q) s.heap H locs := hS
    exact va_gets hx hb hZ hS2 hown (hts _ (ox _ h1)) (fun _ z => z) hdg0 (kk H locs ls hL hll hsz hn hP hS hFo)
  · -- invokestatic
    rename_i idx
    rcases oln with q | q
    · cases q
    dsimp only [mm_ln] at q
    subst q
    dsimp only at ox
    split at h
    · rename_i r24
      rw [if_pos r24] at ox
      obtain ⟨a0, a, sp, dp, n, r, rfl, hcat, h1, h2, h3, h4, h5, h6, h7, h8, h9, rfl⟩ := h
      obtain ⟨x1, x2, x3, x4⟩ := ox
      exact mm_copy hx hb (by rw [hL.1]; exact hll.symm) hown (hts _ x1) (hts _ x2) (hts _ x3) (hts _ x4) hK hP hn hS h1 h2 h3 h4 h5 h6 h7 h8 h9 (by have := hR.1; omega) (by
          rw [mm_cat_map]
          have := hR.2
          have e9 : nativeFrameWords "java/lang/System" "arraycopy" 5 ≤ 30 := by decide
          omega) hdg0 (fun H1 locs1 q1 q2 q3 => kk H1 locs1 ls hL hll (by rw [q1]; exact hsz) hn q2 q3 hFo')
    · rename_i r24
      rw [if_neg r24] at ox
      split at h
      · rename_i r25
        rw [if_pos r25] at ox
        obtain ⟨x, y, v, r, rfl, hcat, h8, rfl, rfl⟩ := h
        obtain ⟨x1, x2, x3, x4⟩ := ox
        have hf1 : 1 ≤ R.frames := by have := hR.1; omega
        have hf2 : ((r.map (mm_rn (mm_ad base fo))).map fun v => v.category).sum + 13 ≤ R.locals := by
          rw [mm_cat_map]
          have := hR.2
          omega
        have k9 := kk H locs ls hL hll hsz hn hP hS hFo
        rcases (by omega : r2 = 5 ∨ r2 = 6 ∨ r2 = 7) with rfl | rfl | rfl
        · exact va_mmax hx hb (by rw [hL.1]; exact hll.symm) hown (hts _ x1) (hts _ x2) (hts _ x3) (hts _ x4) hf1 hf2 hc1 hc2 hdg0 k9
        · exact va_mmin hx hb (by rw [hL.1]; exact hll.symm) hown (hts _ x1) (hts _ x2) (hts _ x3) (hts _ x4) hf1 hf2 hc1 hc2 hdg0 k9
        · exact va_mabs hx hb (by rw [hL.1]; exact hll.symm) hown (hts _ x1) (hts _ x2) (hts _ x3) (hts _ x4) hf1 hf2 hc1 hc2 hdg0 k9
      rename_i r25
      rw [if_neg r25] at ox
      obtain ⟨As, r, rfl, h⟩ := h
      exact mm_snd_ca hx hb hml hown hts hTb hK hnw hZs hb0 hE hR h hn0 hs0 hc1 hc2 ox.2 (Or.inl ⟨rfl, hdg0, ox.1⟩) kk hL hll hsz hn hP hS hFo
  · -- invokevirtual
    rename_i idx
    rcases oln with q | q
    · cases q
    dsimp only [mm_ln] at q
    subst q
    dsimp only at ox
    split at h
    · rename_i r28
      rw [if_pos r28] at ox
      obtain ⟨x1, x2⟩ := ox
      obtain ⟨a, r, h1, hcat, h⟩ := h
      obtain ⟨-, ⟨v, g2⟩, ⟨g3, g4⟩, g5⟩ := hFo.2 a h1
      have had : mm_ad base fo a = fo a := if_neg (by omega)
      have hts2 : ∀ w ∈ vz_W, w.before args s = true := fun w hw => hts w (x1 w hw)
      have hcat2 : 2 * (F0 m pc ls (st.map (mm_rn (mm_ad base fo)))).monitorRoom + ((r.map (mm_rn (mm_ad base fo))).map fun v => v.category).sum ≤ 8 := by
        rw [mm_cat_map]
        exact lv_room (rest := st.map (mm_rn (mm_ad base fo))) hcat
      have hw : ∀ U : State, U.heap = H → s.WarmedH U.vm → vz_S (fo a) v (mm_sl a) (mm_sb a) U U.heap := fun U hU hW => by
        rw [hU]
        exact (((vz_SA.moved hW.alike g2).kept hS.2.1).narrow (fun q z => z.elim))
      obtain ⟨cell, hc9, hc8, hc7⟩ : ∃ cell : Cell, H[fo a]? = some cell ∧ cell.vm.isStatics = false ∧ s.vm.findClass "java/lang/String" = some cell.cls := by
        obtain ⟨cell, q1, q2, q3, -⟩ := (vz_SA.kept g2 hS.2.1).1
        exact ⟨cell, q1, q2, q3⟩
      have hrm : (vz_rm 3).frames + 1 ≤ R.frames ∧ 8 + (2 + 11) + (vz_rm 3).locals ≤ R.locals := by
        have := hR.1
        have := hR.2
        exact ⟨by show 3 + 1 ≤ R.frames; omega, by show 8 + (2 + 11) + 30 * 3 ≤ R.locals; omega⟩
      have hrm1 : (vz_rm 1).frames + 1 ≤ R.frames ∧ 8 + (1 + 11) + (vz_rm 1).locals ≤ R.locals := by
        have := hR.1
        have := hR.2
        exact ⟨by show 1 + 1 ≤ R.frames; omega, by show 8 + (1 + 11) + 30 * 1 ≤ R.locals; omega⟩
      have hsize : ls.size = (CM me).2.2.1 := by rw [hL.1, hll, hml]
      have hfix : CallFix p m c (CM me).2.1 (CM me).2.2.1 s args vz_W (CM me).1.cls := ⟨hx, hb, hml, hown, hts2⟩
      rcases h with ⟨rfl, e1, rfl⟩ | ⟨rfl, j, hj, e1, rfl⟩ | ⟨rfl, j, hj, e1, rfl⟩
      · subst e1
        refine vz_back (va_runV (C := "java/lang/String") (As := []) (rest := r.map (mm_rn (mm_ad base fo))) hfix (vz_m1 (q := fo a) (v := v) l g3 g4 g5) ⟨callB_of 0 hts2 (vz_good (List.mem_of_getElem? (i := 4) rfl)) rfl rfl rfl (hts2 _ (List.mem_of_getElem? (i := 0) rfl)) (hts _ x2) ⟨by decide, by decide, by decide +kernel⟩ hrm1, hts2 _ (List.mem_of_getElem? (i := 5) rfl), hts2 _ (List.mem_of_getElem? (i := 6) rfl)⟩ ⟨vz_blind, ⟨cell, hc9, hc8, hc7⟩, fun U hU hW => ⟨rfl, hw U hU hW⟩⟩ rfl rfl hsize (by show Value.ref (mm_ad base fo a) :: _ = _; rw [had]; rfl) hcat2 hdg0 ⟨hc1, hc2⟩) ?_
        exact kk H locs ls hL hll hsz hn hP hS hFo
      · subst e1
        refine vz_back (va_runV (C := "java/lang/String") (As := [.int (nI j)]) (rest := r.map (mm_rn (mm_ad base fo))) hfix (vz_m3 (q := fo a) (v := v) l g3 g4 g5 hj) ⟨callB_of 1 hts2 (vz_good (List.mem_of_getElem? (i := 10) rfl)) rfl rfl rfl (hts2 _ (List.mem_of_getElem? (i := 0) rfl)) (hts _ x2) ⟨by decide, by decide, by decide +kernel⟩ hrm, hts2 _ (List.mem_of_getElem? (i := 11) rfl), hts2 _ (List.mem_of_getElem? (i := 12) rfl)⟩ ⟨vz_blind, ⟨cell, hc9, hc8, hc7⟩, fun U hU hW => ⟨rfl, hw U hU hW⟩⟩ rfl rfl hsize (by show Value.int (nI j) :: Value.ref (mm_ad base fo a) :: _ = _; rw [had]; rfl) hcat2 hdg0 ⟨hc1, hc2⟩) ?_
        exact kk H locs ls hL hll hsz hn hP hS hFo
      · subst e1
        refine vz_back (va_runV (C := "java/lang/String") (As := [.int (nI j)]) (rest := r.map (mm_rn (mm_ad base fo))) hfix (vz_m8 (q := fo a) (v := v) l g3 g4 g5 hj) ⟨callB_of 1 hts2 (vz_good (List.mem_of_getElem? (i := 22) rfl)) rfl rfl rfl (hts2 _ (List.mem_of_getElem? (i := 0) rfl)) (hts _ x2) ⟨by decide, by decide, by decide +kernel⟩ hrm, hts2 _ (List.mem_of_getElem? (i := 23) rfl), hts2 _ (List.mem_of_getElem? (i := 24) rfl)⟩ ⟨vz_blind, ⟨cell, hc9, hc8, hc7⟩, fun U hU hW => ⟨rfl, hw U hU hW⟩⟩ rfl rfl hsize (by show Value.int (nI j) :: Value.ref (mm_ad base fo a) :: _ = _; rw [had]; rfl) hcat2 hdg0 ⟨hc1, hc2⟩) ?_
        exact kk H locs ls hL hll hsz hn hP hS hFo
    rename_i r28
    rw [if_neg r28] at ox
    obtain ⟨As, r, b, rfl, h1, h2, h⟩ := h
    exact mm_snd_ca hx hb hml hown hts hTb hK hnw hZs hb0 hE hR h hn0 hs0 hc1 hc2 (Or.inl ox.2.2.1) (Or.inr (Or.inl ⟨b, rfl, hdg0, ox.2.2.1, ox.1, ox.2.1, h1, h2, ox.2.2.2⟩)) kk hL hll hsz hn hP hS hFo
  · -- invokespecial
    rename_i idx
    rcases oln with q | q
    · cases q
    dsimp only [mm_ln] at q
    subst q
    dsimp only at ox
    split at h
    · rename_i r23
      rw [if_pos r23] at ox
      obtain ⟨b, r, rfl, hcat, rfl⟩ := h
      obtain ⟨x1, x2, x3⟩ := ox
      have hms : 2 * (F0 m pc ls ((Value.ref b :: r).map (mm_rn (mm_ad base fo)))).monitorRoom + ((r.map (mm_rn (mm_ad base fo))).map fun v => v.category).sum ≤ 8 := by
        rw [mm_cat_map]
        exact lv_room (rest := (Value.ref b :: r).map (mm_rn (mm_ad base fo))) hcat
      refine W.objInit hx hb hown (hts _ x1) (hts _ x2) (hts _ x3) rfl (by rw [← hll]; exact hL.1) rfl hdg0 (by have := hR.1; omega) (by have := hR.2; omega) ?_
      exact kk H locs ls hL hll hsz hn hP hS hFo
    · rename_i r23
      rw [if_neg r23] at ox
      obtain ⟨As, r, b, rfl, h⟩ := h
      exact mm_snd_ca hx hb hml hown hts hTb hK hnw hZs hb0 hE hR h hn0 hs0 hc1 hc2 ox.2.2.2 (Or.inr (Or.inr ⟨b, rfl, hdg0, ox.1, ox.2.1, ox.2.2.1⟩)) kk hL hll hsz hn hP hS hFo
  · -- ldc
    rename_i idx
    rcases h with h | ⟨r21, h1, rfl⟩
    · have hM := mm_exe_M h
      have hLn := mm_exe_len h
      refine mm_snd_exe (cells := M.2.1.1 - n0) (slots := M.2.1.2 - s0) (locs := locs) hx hb hown hts hcl hK h (by rw [← o2]; exact oe) oln hL hP (fun ls' q => ?_)
      have := kk H locs ls' q (by rw [hLn]; exact hll) (by rw [hM]; exact hsz) (by rw [hM]; exact hn) (by rw [hM]; exact hP) hS hFo'
      rw [hM] at this
      exact this
    · rcases oln with q | q
      · cases q
      dsimp only [mm_ln] at q
      subst q
      dsimp only at ox
      obtain ⟨x1, x2⟩ := ox r21
      have g2 := (hFo.2 r1 h1).1
      rw [← x1, ← x2] at g2
      have had : mm_ad base fo r1 = fo r1 := if_neg (by omega)
      refine va_ldcS hx hb hown g2 hdg0 ?_
      have e9 : (Value.ref r1 :: st).map (mm_rn (mm_ad base fo)) = Value.ref (fo r1) :: st.map (mm_rn (mm_ad base fo)) := by
        show Value.ref (mm_ad base fo r1) :: _ = _
        rw [had]
      rw [← e9]
      exact kk H locs ls hL hll hsz hn hP hS hFo
  · -- the rest
    have hM := mm_exe_M h
    have hLn := mm_exe_len h
    refine mm_snd_exe (cells := M.2.1.1 - n0) (slots := M.2.1.2 - s0) (locs := locs) hx hb hown hts hcl hK h (by rw [← o2]; exact oe) oln hL hP (fun ls' q => ?_)
    have := kk H locs ls' q (by rw [hLn]; exact hll) (by rw [hM]; exact hsz) (by rw [hM]; exact hn) (by rw [hM]; exact hP) hS hFo'
    rw [hM] at this
    exact this
end MMT
