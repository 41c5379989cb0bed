/-! Steps that make cells. -/
theorem mm_al_E {cid ad : Nat → Nat} {M : mm_M} {kind len sl : Nat} {tm : List Nat} {b : Nat} (h : b ≠ M.2.1.1) : mm_E cid ad (mm_al M kind len sl tm) b = mm_E cid ad M b := mm_E_congr (mm_u1_ne h) (mm_u1_ne h) (mm_u1_ne h)
theorem mm_P_al {D : va_G} {cl : List vw_C} {cid ad : Nat → Nat} {M : mm_M} {kind len sl : Nat} {tm : List Nat} {H H1 : Heap} (hP : va_P D cl (mm_ws cid ad M) H) (hat : va_at D cl (ad M.2.1.1, mm_E cid ad (mm_al M kind len sl tm) M.2.1.1) H1) (oq : ∀ q : Nat, q < H.size → H1[q]? = H[q]?) : va_P D cl (mm_ws cid ad (mm_al M kind len sl tm)) H1 := by
  intro k q hk
  have hkn : k < M.2.1.1 + 1 := by
    have := (List.getElem?_eq_some_iff.mp hk).1
    unfold mm_ws mm_al at this
    simpa using this
  rw [mm_ws_at (show k < (mm_al M kind len sl tm).2.1.1 from hkn)] at hk
  cases hk
  by_cases e : k = M.2.1.1
  · subst e
    exact hat
  · have hx := hP k _ (mm_ws_at (show k < M.2.1.1 by omega))
    rw [mm_al_E e]
    exact hx.kept (oq _ hx.lt)
section MMZ
variable {p : Program} {l : Launch} {e : Env} {R : Room} {s : State} {m : MethodId} {args : Array Value} {below : List Frame} {meth : Method} {c : Code} {H : Heap} {locs : List Loc} {cells slots : Nat} {Q : State → Prop}
variable {cc : ByteArray} {ls : Array Slot} {D : va_G} {cl : List vw_C} {cid : Nat → Nat} {base : Nat} {fo : Nat → Nat} {WS : List Jvm.Cond} {own : String} {pc : Nat} {M : mm_M} {rest : List Value} {H0 : Heap}
theorem mm_new (hx : p.tables.exec = Jvm.exec) (hb : c.code = cc) (hown : s.vm.findClass own = some m.cls) (hts : ∀ w ∈ WS, w.before args s = true) (hK : va_K D cl (mm_tys cid) s) (hP : va_P D cl (mm_ws cid (mm_ad base fo) M) H) (hn : M.2.1.1 < 1000000) (hsz : H.size = base + M.2.1.1) (hS : va_S (fun q => base ≤ q) H0 H locs)
    {C : String} {T : u_T} {N ci idx : Nat} {tm : List Nat} (hc : cl[ci]? = some (C, T, N)) (hci : ci < 100) (hin : ∀ w ∈ u_ws C T N, w ∈ WS) (ty0 : Nat → FieldType) (hty : ∀ k, k < N → parseFieldDescriptor (T k).2.2.1 = some (ty0 k)) (hcl : Jvm.Cond.classLink own idx C ∈ WS) (hinst : Jvm.Cond.instantiable C N ∈ WS) (hini : Jvm.Cond.initialized C ∈ WS)
    (hdf : ∀ j, j < N → defaultValue (ty0 j) = mm_sv (mm_al M ci N N tm) M.2.1.1 j (tm.getD j 0)) (hcells : cells + 1 ≤ R.cells) (hslots : slots + N ≤ R.slots) (hdg : decode cc pc = .ok (.new idx, 3))
    (kk : ∀ (H1 : Heap), H1.size = base + M.2.1.1 + 1 → va_P D cl (mm_ws cid (mm_ad base fo) (mm_al M ci N N tm)) H1 → va_S (fun q => base ≤ q) H0 H1 locs → W p l e R s m args below meth c H1 locs (cells + 1) (slots + N) Q (F0 m (pc + 3) ls (.ref (mm_ad base fo M.2.1.1) :: rest))) : W p l e R s m args below meth c H locs cells slots Q (F0 m pc ls rest) := by
  have hKn := hK.1 ci _ hc
  have hA : mm_ad base fo M.2.1.1 = H.size := by rw [mm_ad_lt hn, hsz]
  refine W.newcK hx hb hown (hts _ hcl) (hts _ hinst) (hts _ hini) rfl hdg hcells hslots hKn.2.1 rfl fun H1 kC hkC e1 z1 o1 => ?_
  rw [hA] at kk
  refine kk H1 (by rw [z1, hsz]) (mm_P_al hP ?_ o1) ⟨Nat.le_trans hS.1 (by omega), fun x h1 h2 => (o1 x (Nat.lt_of_lt_of_le h1 hS.1)).trans (hS.2.1 x h1 h2), hS.2.2⟩
  rw [hA]
  have hE : mm_E cid (mm_ad base fo) (mm_al M ci N N tm) M.2.1.1 = .inr (ci, (List.range N).map (fun k => mm_rn (mm_ad base fo) (mm_sv (mm_al M ci N N tm) M.2.1.1 k (tm.getD k 0)))) := by
    unfold mm_E
    have e0 : (mm_al M ci N N tm).1 M.2.1.1 = (ci, N, tm) := mm_u1_eq
    rw [e0, if_pos hci]
  rw [hE]
  refine ⟨_, hc, (u_born ty0 hts hin hKn hkC e1 hty).to (fun j hj => ?_)⟩
  have hv : vp_V ((List.range N).map (fun k => mm_rn (mm_ad base fo) (mm_sv (mm_al M ci N N tm) M.2.1.1 k (tm.getD k 0)))) j = mm_rn (mm_ad base fo) (mm_sv (mm_al M ci N N tm) M.2.1.1 j (tm.getD j 0)) := by
    unfold vp_V
    rw [List.getD_eq_getElem?_getD, List.getElem?_map, List.getElem?_range hj]
    rfl
  refine Eq.trans ?_ hv.symm
  show defaultValue (ty0 j) = _
  rw [← hdf j hj]
  cases ty0 j <;> rfl
theorem mm_newa (hx : p.tables.exec = Jvm.exec) (hb : c.code = cc) (hK : va_K D cl (mm_tys cid) s) (hP : va_P D cl (mm_ws cid (mm_ad base fo) M) H) (hn : M.2.1.1 < 1000000) (hsz : H.size = base + M.2.1.1) (hS : va_S (fun q => base ≤ q) H0 H locs)
    {at' : ArrayType} {kd : Nat} (hkd : (at' = .int ∧ kd = 100) ∨ (at' = .long ∧ kd = 101) ∨ (at' = .boolean ∧ kd = 102)) (harr : (Jvm.Cond.arrayClass (newarray.typeOf at')).before args s = true) {x : Int32} {N : Nat} (hx0 : ¬ x < 0) (hN : x.toNatClampNeg = N) (hbytes : N ≤ 1000000) (hcells : cells + 1 ≤ R.cells) (hslots : slots + N ≤ R.slots) (hdg : decode cc pc = .ok (.newarray at', 2))
    (kk : ∀ (H1 : Heap), H1.size = base + M.2.1.1 + 1 → va_P D cl (mm_ws cid (mm_ad base fo) (mm_al M kd N N [])) H1 → va_S (fun q => base ≤ q) H0 H1 locs → W p l e R s m args below meth c H1 locs (cells + 1) (slots + N) Q (F0 m (pc + 2) ls (.ref (mm_ad base fo M.2.1.1) :: rest))) : W p l e R s m args below meth c H locs cells slots Q (F0 m pc ls (.int x :: rest)) := by
  have hA : mm_ad base fo M.2.1.1 = H.size := by rw [mm_ad_lt hn, hsz]
  refine va_newaK hx hb harr rfl hdg rfl hx0 hN (by rcases hkd with ⟨rfl, -⟩ | ⟨rfl, -⟩ | ⟨rfl, -⟩ <;> simp only [newarray.typeOf, componentBytes] <;> omega) hcells hslots rfl fun H1 cA e1 z1 o1 hAr hNm => ?_
  rw [hA] at kk
  refine kk H1 (by rw [z1, hsz]) (mm_P_al hP ?_ o1) ⟨Nat.le_trans hS.1 (by omega), fun y h1 h2 => (o1 y (Nat.lt_of_lt_of_le h1 hS.1)).trans (hS.2.1 y h1 h2), hS.2.2⟩
  rw [hA]
  have e0 : (mm_al M kd N N []).1 M.2.1.1 = (kd, N, []) := mm_u1_eq
  have g0 : (mm_al M kd N N []).2.2.1 M.2.1.1 = fun _ => 0 := mm_u1_eq
  have g1 : (mm_al M kd N N []).2.2.2 M.2.1.1 = fun _ => 0 := mm_u1_eq
  rcases hkd with ⟨rfl, rfl⟩ | ⟨rfl, rfl⟩ | ⟨rfl, rfl⟩
  · rw [mm_A100 (by show M.2.1.1 < M.2.1.1 + 1; omega) (by rw [e0])]
    have hc : cid 100 = cA := Option.some.inj ((hK.2 0 _ rfl).2.symm.trans hNm)
    rw [e0, g0, hc]
    exact e1
  · rw [mm_A101 (by show M.2.1.1 < M.2.1.1 + 1; omega) (by rw [e0])]
    have hc : cid 101 = cA := Option.some.inj ((hK.2 1 _ rfl).2.symm.trans hNm)
    rw [e0, g1, hc]
    exact e1
  · rw [mm_A102 (by show M.2.1.1 < M.2.1.1 + 1; omega) (by rw [e0])]
    have hc : cid 102 = cA := Option.some.inj ((hK.2 2 _ rfl).2.symm.trans hNm)
    rw [e0, g0, hc]
    exact e1
theorem mm_anew (hx : p.tables.exec = Jvm.exec) (hb : c.code = cc) (hown : s.vm.findClass own = some m.cls) (hts : ∀ w ∈ WS, w.before args s = true) (hK : va_K D cl (mm_tys cid) s) (hP : va_P D cl (mm_ws cid (mm_ad base fo) M) H) (hn : M.2.1.1 < 1000000) (hsz : H.size = base + M.2.1.1) (hS : va_S (fun q => base ≤ q) H0 H locs)
    {C : String} {k idx : Nat} (h1 : 104 ≤ k) (h2 : k < 106) (hC : mm_ty k = .object C) (hcl : Jvm.Cond.classLink own idx C ∈ WS) (hover : va_AO C s) {x : Int32} {N : Nat} (hx0 : ¬ x < 0) (hN : x.toNatClampNeg = N) (hbytes : N ≤ 1000000) (hcells : cells + 1 ≤ R.cells) (hslots : slots + N ≤ R.slots) (hdg : decode cc pc = .ok (.anewarray idx, 3))
    (kk : ∀ (H1 : Heap), H1.size = base + M.2.1.1 + 1 → va_P D cl (mm_ws cid (mm_ad base fo) (mm_al M k N N (List.replicate N 2))) H1 → va_S (fun q => base ≤ q) H0 H1 locs → W p l e R s m args below meth c H1 locs (cells + 1) (slots + N) Q (F0 m (pc + 3) ls (.ref (mm_ad base fo M.2.1.1) :: rest))) : W p l e R s m args below meth c H locs cells slots Q (F0 m pc ls (.int x :: rest)) := by
  have hA : mm_ad base fo M.2.1.1 = H.size := by rw [mm_ad_lt hn, hsz]
  subst hN
  refine W.anew hx hb hown (hts _ hcl) (va_AO.use hover) rfl hdg rfl hx0 (by omega) hcells hslots fun cA kA comp f1 f2 f3 f4 => ?_
  generalize hH1 : H.push ({ cls := cA, slots := Array.replicate x.toNatClampNeg .null, vm := .none } : Cell) = H1
  have z1 : H1.size = H.size + 1 := by rw [← hH1, Array.size_push]
  have e1 : H1[H.size]? = some (arrV cA x.toNatClampNeg (fun _ => .null)) := by rw [← hH1, Array.getElem?_push_size, ← arrV_new]
  have o1 : ∀ q : Nat, q < H.size → H1[q]? = H[q]? := fun q hq => by rw [← hH1, Array.getElem?_push, if_neg (Nat.ne_of_lt hq)]
  rw [hA] at kk
  refine kk H1 (by rw [z1, hsz]) (mm_P_al hP ?_ o1) ⟨Nat.le_trans hS.1 (by omega), fun y h1 h2 => (o1 y (Nat.lt_of_lt_of_le h1 hS.1)).trans (hS.2.1 y h1 h2), hS.2.2⟩
  rw [hA]
  have e0 : (mm_al M k x.toNatClampNeg x.toNatClampNeg (List.replicate x.toNatClampNeg 2)).1 M.2.1.1 = (k, x.toNatClampNeg, List.replicate x.toNatClampNeg 2) := mm_u1_eq
  rw [mm_Aq (by show M.2.1.1 < M.2.1.1 + 1; omega) (by rw [e0]; show 103 ≤ k; omega)]
  have htys := (hK.2 _ _ (mm_tys_at (cid := cid) (k := k) (by omega) h2)).2
  rw [hC] at htys
  obtain ⟨kA2, comp2, -, -, -, k4⟩ := htys
  have hc : cid k = cA := Option.some.inj (k4.symm.trans f1)
  rw [e0]
  show H1[_]? = some (vp_cell (cid k) _)
  rw [e1, hc, vp_cell_q]
  refine congrArg some (congrArg (arrV cA x.toNatClampNeg) (funext fun j => ?_))
  show Value.null = va_rf (mm_or _ ((List.replicate x.toNatClampNeg 2).getD j 2))
  rw [List.getD_eq_getElem?_getD, List.getElem?_replicate]
  split <;> rfl
end MMZ
