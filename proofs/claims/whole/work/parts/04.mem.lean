/-! Steps that change the memory. -/
def mm_ad (base : Nat) (fo : Nat → Nat) : Nat → Nat := fun a => if a < 1000000 then base + a else fo a
theorem mm_ad_lt {base : Nat} {fo : Nat → Nat} {a : Nat} (h : a < 1000000) : mm_ad base fo a = base + a := if_pos h
theorem mm_P_upd {D : va_G} {cl : List vw_C} {cid ad : Nat → Nat} {M M' : mm_M} {H H1 : Heap} {a : Nat} (hP : va_P D cl (mm_ws cid ad M) H) (hinj : ∀ b, b < M.2.1.1 → b ≠ a → ad b ≠ ad a) (hn : M'.2.1.1 = M.2.1.1) (he : ∀ b, b ≠ a → mm_E cid ad M' b = mm_E cid ad M b) (hat : va_at D cl (ad a, mm_E cid ad M' a) H1) (oq : ∀ q : Nat, q ≠ ad a → H1[q]? = H[q]?) : va_P D cl (mm_ws cid ad M') H1 := by
  intro k q hk
  have hkn : k < M.2.1.1 := by
    have := (List.getElem?_eq_some_iff.mp hk).1
    unfold mm_ws at this
    simp at this
    omega
  rw [mm_ws_at (by omega)] at hk
  cases hk
  by_cases e : k = a
  · subst e
    exact hat
  · rw [he k e]
    exact (hP k _ (mm_ws_at hkn)).kept (oq _ (hinj k hkn e))
theorem mm_inj {base : Nat} {fo : Nat → Nat} {n a : Nat} (hn : n ≤ 1000000) (ha : a < n) : ∀ b, b < n → b ≠ a → mm_ad base fo b ≠ mm_ad base fo a := by
  intro b hb hne
  rw [mm_ad_lt (by omega), mm_ad_lt (by omega)]
  omega
theorem mm_vin {M : mm_M} {a kind : Nat} {i : Int32} (h : mm_in M a kind i) : vp_in i (M.1 a).2.1 := by
  rintro (q | q)
  · exact h.2.2.1 q
  · have := h.2.2.2
    omega
theorem mm_A100 {cid ad : Nat → Nat} {M : mm_M} {a : Nat} (h : a < M.2.1.1) (hc : (M.1 a).1 = 100) : mm_E cid ad M a = .inl (cid 100, (M.1 a).2.1, .inl (M.2.2.1 a)) := by
  simp [mm_E, mm_ar, hc]
theorem mm_A101 {cid ad : Nat → Nat} {M : mm_M} {a : Nat} (h : a < M.2.1.1) (hc : (M.1 a).1 = 101) : mm_E cid ad M a = .inl (cid 101, (M.1 a).2.1, .inr (.inl (M.2.2.2 a))) := by
  simp [mm_E, mm_ar, hc]
theorem mm_A102 {cid ad : Nat → Nat} {M : mm_M} {a : Nat} (h : a < M.2.1.1) (hc : (M.1 a).1 = 102) : mm_E cid ad M a = .inl (cid 102, (M.1 a).2.1, .inl (M.2.2.1 a)) := by
  simp [mm_E, mm_ar, hc]
theorem mm_Aq {cid ad : Nat → Nat} {M : mm_M} {a : Nat} (h : a < M.2.1.1) (h1 : 103 ≤ (M.1 a).1) : mm_E cid ad M a = .inl (cid (M.1 a).1, (M.1 a).2.1, .inr (.inr (.inr (.inr (fun j => mm_or ad ((M.1 a).2.2.getD j 2)))))) := by
  unfold mm_E mm_ar
  rw [if_neg (by omega)]
  split
  · omega
  · omega
  · omega
  · rfl
theorem mm_rf_or (ad : Nat → Nat) (t : Nat) : va_rf (mm_or ad t) = mm_rn ad (mm_rv t) := by
  unfold mm_or mm_rv
  split <;> rfl
theorem mm_u2_ne {α : Type} {f : Nat → Nat → α} {a k b : Nat} {v : α} (h : b ≠ a) : mm_u2 f a k v b = f b := by
  funext j
  simp [mm_u2, h]
theorem mm_u1_ne {α : Type} {f : Nat → α} {a b : Nat} {v : α} (h : b ≠ a) : mm_u1 f a v b = f b := by simp [mm_u1, h]
theorem mm_u1_eq {α : Type} {f : Nat → α} {a : Nat} {v : α} : mm_u1 f a v a = v := by simp [mm_u1]
theorem mm_E_congr {cid ad : Nat → Nat} {M M' : mm_M} {b : Nat} (h1 : M'.1 b = M.1 b) (h2 : M'.2.2.1 b = M.2.2.1 b) (h3 : M'.2.2.2 b = M.2.2.2 b) : mm_E cid ad M' b = mm_E cid ad M b := by
  simp [mm_E, mm_ar, mm_sv, h1, h2, h3]
section MMY
variable {p : Program} {l : Launch} {e : Env} {R : Room} {s : State} {m : MethodId} {args : Array Value} {below : List Frame} {meth : Method} {c : Code} {H : Heap} {locs : List Loc} {cells slots : Nat} {Q : State → Prop}
variable {cc : ByteArray} {ls : Array Slot} {D : va_G} {cl : List vw_C} {cid : Nat → Nat} {base : Nat} {fo : Nat → Nat} {WS : List Jvm.Cond} {own : String} {pc : Nat} {M : mm_M} {rest : List Value} {A : Nat → Prop} {H0 : Heap}
theorem mm_iald (hx : p.tables.exec = Jvm.exec) (hb : c.code = cc) (hK : va_K D cl (mm_tys cid) s) (hP : va_P D cl (mm_ws cid (mm_ad base fo) M) H) {a : Nat} {i : Int32} (hi : mm_in M a 100 i) (hdg : decode cc pc = .ok (.iaload, 1))
    (kk : W p l e R s m args below meth c H locs cells slots Q (F0 m (pc + 1) ls (.int (M.2.2.1 a i.toNatClampNeg) :: rest))) : W p l e R s m args below meth c H locs cells slots Q (F0 m pc ls (.int i :: .ref (mm_ad base fo a) :: rest)) :=
  va_iald hx hb hK hP a 0 (by rw [mm_ws_at hi.2.1, mm_A100 hi.2.1 hi.1]) rfl (mm_vin hi) hdg kk
theorem mm_zald (hx : p.tables.exec = Jvm.exec) (hb : c.code = cc) (hK : va_K D cl (mm_tys cid) s) (hP : va_P D cl (mm_ws cid (mm_ad base fo) M) H) {a : Nat} {i : Int32} (hi : mm_in M a 102 i) (hdg : decode cc pc = .ok (.baload, 1))
    (kk : W p l e R s m args below meth c H locs cells slots Q (F0 m (pc + 1) ls (.int (M.2.2.1 a i.toNatClampNeg) :: rest))) : W p l e R s m args below meth c H locs cells slots Q (F0 m pc ls (.int i :: .ref (mm_ad base fo a) :: rest)) :=
  va_zald hx hb hK hP a 2 (by rw [mm_ws_at hi.2.1, mm_A102 hi.2.1 hi.1]) rfl (mm_vin hi) hdg kk
theorem mm_lald (hx : p.tables.exec = Jvm.exec) (hb : c.code = cc) (hK : va_K D cl (mm_tys cid) s) (hP : va_P D cl (mm_ws cid (mm_ad base fo) M) H) {a : Nat} {i : Int32} (hi : mm_in M a 101 i) (hdg : decode cc pc = .ok (.laload, 1))
    (kk : W p l e R s m args below meth c H locs cells slots Q (F0 m (pc + 1) ls (.long (M.2.2.2 a i.toNatClampNeg) :: rest))) : W p l e R s m args below meth c H locs cells slots Q (F0 m pc ls (.int i :: .ref (mm_ad base fo a) :: rest)) :=
  va_lald hx hb hK hP a 1 (by rw [mm_ws_at hi.2.1, mm_A101 hi.2.1 hi.1]) rfl (mm_vin hi) hdg kk
theorem mm_aald (hx : p.tables.exec = Jvm.exec) (hb : c.code = cc) (hK : va_K D cl (mm_tys cid) s) (hP : va_P D cl (mm_ws cid (mm_ad base fo) M) H) {a k : Nat} {i : Int32} (h1 : 103 ≤ k) (h2 : k < 106) (hi : mm_in M a k i) (hdg : decode cc pc = .ok (.aaload, 1))
    (kk : W p l e R s m args below meth c H locs cells slots Q (F0 m (pc + 1) ls (mm_rn (mm_ad base fo) (mm_rv ((M.1 a).2.2.getD i.toNatClampNeg 2)) :: rest))) : W p l e R s m args below meth c H locs cells slots Q (F0 m pc ls (.int i :: .ref (mm_ad base fo a) :: rest)) := by
  have hE := mm_Aq (cid := cid) (ad := mm_ad base fo) hi.2.1 (by rw [hi.1]; exact h1)
  have hc := hP a _ (mm_ws_at hi.2.1)
  rw [hE] at hc
  rw [← mm_rf_or] at kk
  have hlt : i.toNatClampNeg < (M.1 a).2.1 := hi.2.2.2
  refine W.aald (v := va_rf (mm_or (mm_ad base fo) ((M.1 a).2.2.getD i.toNatClampNeg 2))) (ty := mm_ty k) hx hb hc ((hK.2 (k - 100) _ (mm_tys_at (by omega) h2)).1 (M.1 a).2.1 (fun j => va_rf (mm_or (mm_ad base fo) ((M.1 a).2.2.getD j 2))) |> fun z => by rw [← hi.1] at z ⊢; exact z) ?_ (fun q => by cases q) (by show ¬ (i < 0 ∨ (arrV _ _ _).slots.size ≤ _); rw [arrV_size]; exact mm_vin hi) (by show (arrV _ _ _).slots[_]? = _; rw [arrV_read _ _ hlt]) rfl rfl hdg kk
  rcases (by omega : k = 103 ∨ k = 104 ∨ k = 105) with rfl | rfl | rfl <;> rfl
theorem mm_iast (hx : p.tables.exec = Jvm.exec) (hb : c.code = cc) (hK : va_K D cl (mm_tys cid) s) (hP : va_P D cl (mm_ws cid (mm_ad base fo) M) H) (hn : M.2.1.1 ≤ 1000000) (hS : va_S (fun q => base ≤ q) H0 H locs) {a : Nat} {i x : Int32} (hi : mm_in M a 100 i) (hdg : decode cc pc = .ok (.iastore, 1))
    (kk : ∀ (H1 : Heap) (locs1 : List Loc), H1.size = H.size → va_P D cl (mm_ws cid (mm_ad base fo) (M.1, M.2.1, mm_u2 M.2.2.1 a i.toNatClampNeg x, M.2.2.2)) H1 → va_S (fun q => base ≤ q) H0 H1 locs1 → W p l e R s m args below meth c H1 locs1 cells slots Q (F0 m (pc + 1) ls rest)) : W p l e R s m args below meth c H locs cells slots Q (F0 m pc ls (.int x :: .int i :: .ref (mm_ad base fo a) :: rest)) := by
  have hc := hP a _ (mm_ws_at hi.2.1)
  rw [mm_A100 hi.2.1 hi.1] at hc
  refine W.iast hx hb hc ((hK.2 0 _ rfl).1 (M.1 a).2.1 (fun j => .int (M.2.2.1 a j))) (fun q => by cases q) (by show ¬ (i < 0 ∨ (arrV _ _ _).slots.size ≤ _); rw [arrV_size]; exact mm_vin hi) rfl rfl hdg fun H1 e z oq => ?_
  refine kk H1 _ z (mm_P_upd hP (mm_inj hn hi.2.1) rfl (fun b hb => mm_E_congr rfl (mm_u2_ne hb) rfl) ?_ oq) (hS.put z oq (by rw [mm_ad_lt (by have := hi.2.1; omega)]; exact Nat.le_add_right _ _))
  rw [mm_A100 (M := (M.1, M.2.1, mm_u2 M.2.2.1 a i.toNatClampNeg x, M.2.2.2)) hi.2.1 hi.1]
  show H1[_]? = some (vp_cell _ _)
  rw [e, vp_cell_i, vp_cell_i, arrV_store]
  congr 2
  funext q
  by_cases hq : q = i.toNatClampNeg
  · subst hq
    simp [updV, mm_u2]
  · simp [updV, mm_u2, hq]
theorem mm_zast (hx : p.tables.exec = Jvm.exec) (hb : c.code = cc) (hK : va_K D cl (mm_tys cid) s) (hP : va_P D cl (mm_ws cid (mm_ad base fo) M) H) (hn : M.2.1.1 ≤ 1000000) (hS : va_S (fun q => base ≤ q) H0 H locs) {a : Nat} {i x : Int32} (hi : mm_in M a 102 i) (hdg : decode cc pc = .ok (.bastore, 1))
    (kk : ∀ (H1 : Heap) (locs1 : List Loc), H1.size = H.size → va_P D cl (mm_ws cid (mm_ad base fo) (M.1, M.2.1, mm_u2 M.2.2.1 a i.toNatClampNeg (vp_nar .boolean x), M.2.2.2)) H1 → va_S (fun q => base ≤ q) H0 H1 locs1 → W p l e R s m args below meth c H1 locs1 cells slots Q (F0 m (pc + 1) ls rest)) : W p l e R s m args below meth c H locs cells slots Q (F0 m pc ls (.int x :: .int i :: .ref (mm_ad base fo a) :: rest)) := by
  have hc := hP a _ (mm_ws_at hi.2.1)
  rw [mm_A102 hi.2.1 hi.1] at hc
  refine W.zast hx hb hc ((hK.2 2 _ rfl).1 (M.1 a).2.1 (fun j => .int (M.2.2.1 a j))) (fun q => by cases q) (by show ¬ (i < 0 ∨ (arrV _ _ _).slots.size ≤ _); rw [arrV_size]; exact mm_vin hi) rfl rfl hdg fun H1 e z oq => ?_
  refine kk H1 _ z (mm_P_upd hP (mm_inj hn hi.2.1) rfl (fun b hb => mm_E_congr rfl (mm_u2_ne hb) rfl) ?_ oq) (hS.put z oq (by rw [mm_ad_lt (by have := hi.2.1; omega)]; exact Nat.le_add_right _ _))
  rw [mm_A102 (M := (M.1, M.2.1, mm_u2 M.2.2.1 a i.toNatClampNeg (vp_nar .boolean x), M.2.2.2)) hi.2.1 hi.1]
  show H1[_]? = some (vp_cell _ _)
  rw [e, vp_cell_i, vp_cell_i, arrV_store]
  congr 2
  funext q
  by_cases hq : q = i.toNatClampNeg
  · subst hq
    simp [updV, mm_u2, vp_nar]
    try rfl
  · simp [updV, mm_u2, hq]
theorem mm_last (hx : p.tables.exec = Jvm.exec) (hb : c.code = cc) (hK : va_K D cl (mm_tys cid) s) (hP : va_P D cl (mm_ws cid (mm_ad base fo) M) H) (hn : M.2.1.1 ≤ 1000000) (hS : va_S (fun q => base ≤ q) H0 H locs) {a : Nat} {i : Int32} {x : Int64} (hi : mm_in M a 101 i) (hdg : decode cc pc = .ok (.lastore, 1))
    (kk : ∀ (H1 : Heap) (locs1 : List Loc), H1.size = H.size → va_P D cl (mm_ws cid (mm_ad base fo) (M.1, M.2.1, M.2.2.1, mm_u2 M.2.2.2 a i.toNatClampNeg x)) H1 → va_S (fun q => base ≤ q) H0 H1 locs1 → W p l e R s m args below meth c H1 locs1 cells slots Q (F0 m (pc + 1) ls rest)) : W p l e R s m args below meth c H locs cells slots Q (F0 m pc ls (.long x :: .int i :: .ref (mm_ad base fo a) :: rest)) := by
  have hc := hP a _ (mm_ws_at hi.2.1)
  rw [mm_A101 hi.2.1 hi.1] at hc
  refine W.last hx hb hc ((hK.2 1 _ rfl).1 (M.1 a).2.1 (fun j => .long (M.2.2.2 a j))) (fun q => by cases q) (by show ¬ (i < 0 ∨ (arrV _ _ _).slots.size ≤ _); rw [arrV_size]; exact mm_vin hi) rfl rfl hdg fun H1 e z oq => ?_
  refine kk H1 _ z (mm_P_upd hP (mm_inj hn hi.2.1) rfl (fun b hb => mm_E_congr rfl rfl (mm_u2_ne hb)) ?_ oq) (hS.put z oq (by rw [mm_ad_lt (by have := hi.2.1; omega)]; exact Nat.le_add_right _ _))
  rw [mm_A101 (M := (M.1, M.2.1, M.2.2.1, mm_u2 M.2.2.2 a i.toNatClampNeg x)) hi.2.1 hi.1]
  show H1[_]? = some (vp_cell _ _)
  rw [e, vp_cell_l, vp_cell_l, arrV_store]
  congr 2
  funext q
  by_cases hq : q = i.toNatClampNeg
  · subst hq
    simp [updV, mm_u2]
  · simp [updV, mm_u2, hq]
theorem mm_aast (hx : p.tables.exec = Jvm.exec) (hb : c.code = cc) (hK : va_K D cl (mm_tys cid) s) (hP : va_P D cl (mm_ws cid (mm_ad base fo) M) H) (hn : M.2.1.1 ≤ 1000000) (hS : va_S (fun q => base ≤ q) H0 H locs) {a v k : Nat} {i : Int32} {r : vw_C} (h1 : 104 ≤ k) (h2 : k < 106) (hi : mm_in M a k i) (hv : v < M.2.1.1) (hvc : (M.1 v).1 < 100) (hcl : cl[(M.1 v).1]? = some r) (hty : mm_ty k = .object r.1) (htl : i.toNatClampNeg < (M.1 a).2.2.length) (hdg : decode cc pc = .ok (.aastore, 1))
    (kk : ∀ (H1 : Heap) (locs1 : List Loc), H1.size = H.size → va_P D cl (mm_ws cid (mm_ad base fo) (mm_u1 M.1 a ((M.1 a).1, (M.1 a).2.1, (M.1 a).2.2.set i.toNatClampNeg (v + 3)), M.2)) H1 → va_S (fun q => base ≤ q) H0 H1 locs1 → W p l e R s m args below meth c H1 locs1 cells slots Q (F0 m (pc + 1) ls rest)) : W p l e R s m args below meth c H locs cells slots Q (F0 m pc ls (.ref (mm_ad base fo v) :: .int i :: .ref (mm_ad base fo a) :: rest)) := by
  have hE := mm_Aq (cid := cid) (ad := mm_ad base fo) hi.2.1 (by rw [hi.1]; omega)
  have hc := hP a _ (mm_ws_at hi.2.1)
  rw [hE] at hc
  have hva : a ≠ v := by
    intro q
    rw [← q, hi.1] at hvc
    omega
  have hcv := hP v _ (mm_ws_at hv)
  have hEv : mm_E cid (mm_ad base fo) M v = .inr ((M.1 v).1, (List.range (M.1 v).2.1).map (fun k => mm_rn (mm_ad base fo) (mm_sv M v k ((M.1 v).2.2.getD k 0)))) := by
    unfold mm_E
    rw [if_pos hvc]
  rw [hEv] at hcv
  obtain ⟨r', hr', cellV, g1, g2, g3, -⟩ := hcv
  have hcls := (hK.1 _ r hcl).2
  have htys := mm_tys_at (cid := cid) (k := k) (by omega) h2
  rw [hty] at htys
  obtain ⟨kA, comp, k1, k2, k3, -⟩ := (hK.2 _ _ htys).2
  have hcomp : comp = D.1 (M.1 v).1 := Option.some.inj (k3.symm.trans hcls.1)
  subst hcomp
  obtain ⟨kC, hkC, -⟩ := hcls.2
  have hlt : i.toNatClampNeg < (M.1 a).2.1 := hi.2.2.2
  refine W.aast hx hb hc (fun q h => by cases h) (fun h => by cases h) (by rw [hi.1]; exact k1) k2 rfl hkC ⟨hi.2.2.1, by show _ < (arrV _ _ _).slots.size; rw [arrV_size]; exact hlt⟩ g1 (fun q h => by rw [g3] at h; cases h) (by rw [g2]; exact hkC) (by rw [g2]; exact va_assign hcls) rfl rfl hdg fun H1 e z oq => ?_
  refine kk H1 _ z (mm_P_upd hP (mm_inj hn hi.2.1) rfl (fun b hb => mm_E_congr (mm_u1_ne hb) rfl rfl) ?_ oq) (hS.put z oq (by rw [mm_ad_lt (by have := hi.2.1; omega)]; exact Nat.le_add_right _ _))
  rw [mm_Aq (M := (mm_u1 M.1 a ((M.1 a).1, (M.1 a).2.1, (M.1 a).2.2.set i.toNatClampNeg (v + 3)), M.2)) hi.2.1 (by simp only [mm_u1_eq]; rw [hi.1]; omega)]
  simp only [mm_u1_eq]
  show H1[_]? = some (vp_cell _ _)
  rw [e, vp_cell_q, vp_cell_q, arrV_store]
  congr 2
  funext q
  by_cases hq : q = i.toNatClampNeg
  · subst hq
    simp [updV, List.getD_eq_getElem?_getD, List.getElem?_set_self htl, mm_or, va_rf]
  · simp [updV, hq, List.getD_eq_getElem?_getD, List.getElem?_set_ne (Ne.symm hq)]
theorem mm_fs_set {M M' : mm_M} {ad : Nat → Nat} {a k N : Nat} {v : Value} (hk : k < N) (h1 : mm_rn ad (mm_sv M' a k ((M'.1 a).2.2.getD k 0)) = v) (h2 : ∀ j, j ≠ k → mm_sv M' a j ((M'.1 a).2.2.getD j 0) = mm_sv M a j ((M.1 a).2.2.getD j 0)) : (List.range N).map (fun k => mm_rn ad (mm_sv M' a k ((M'.1 a).2.2.getD k 0))) = ((List.range N).map (fun k => mm_rn ad (mm_sv M a k ((M.1 a).2.2.getD k 0)))).set k v := by
  apply List.ext_getElem?
  intro j
  by_cases e : j = k
  · subst e
    rw [List.getElem?_set_self (by simpa using hk), List.getElem?_map, List.getElem?_range hk]
    exact congrArg some h1
  · rw [List.getElem?_set_ne (Ne.symm e), List.getElem?_map, List.getElem?_map]
    by_cases hj : j < N
    · rw [List.getElem?_range hj]
      exact congrArg (fun z => some (mm_rn ad z)) (h2 j e)
    · rw [List.getElem?_eq_none (by simpa using hj)]
      rfl
theorem mm_put_E {M M' : mm_M} {a ci k : Nat} {v : Value} (h : mm_put M a ci k v = some M') (htl : k < (M.1 a).2.2.length) : ((M.1 a).1 = ci ∧ a < M.2.1.1 ∧ k < (M.1 a).2.1) ∧ M'.2.1 = M.2.1 ∧ (M'.1 a).1 = ci ∧ (M'.1 a).2.1 = (M.1 a).2.1 ∧ (∀ ad : Nat → Nat, mm_rn ad (mm_sv M' a k ((M'.1 a).2.2.getD k 0)) = mm_rn ad v) ∧ (∀ j, j ≠ k → mm_sv M' a j ((M'.1 a).2.2.getD j 0) = mm_sv M a j ((M.1 a).2.2.getD j 0)) ∧ (∀ b, b ≠ a → M'.1 b = M.1 b ∧ M'.2.2.1 b = M.2.2.1 b ∧ M'.2.2.2 b = M.2.2.2 b) := by
  unfold mm_put at h
  split at h
  · rename_i g
    refine ⟨g, ?_⟩
    split at h
    · rename_i x e0
      cases h
      refine ⟨rfl, g.1, rfl, fun ad => ?_, fun j hj => ?_, fun b hb => ⟨rfl, mm_u2_ne hb, rfl⟩⟩
      · show mm_rn ad (mm_sv (M.1, M.2.1, mm_u2 M.2.2.1 a k x, M.2.2.2) a k ((M.1 a).2.2.getD k 0)) = _
        rw [e0]
        simp [mm_sv, mm_u2]
      · simp only [mm_sv]
        split <;> simp [mm_u2, hj]
    · rename_i x e0
      cases h
      refine ⟨rfl, g.1, rfl, fun ad => ?_, fun j hj => ?_, fun b hb => ⟨rfl, rfl, mm_u2_ne hb⟩⟩
      · show mm_rn ad (mm_sv (M.1, M.2.1, M.2.2.1, mm_u2 M.2.2.2 a k x) a k ((M.1 a).2.2.getD k 0)) = _
        rw [e0]
        simp [mm_sv, mm_u2]
      · simp only [mm_sv]
        split <;> simp [mm_u2, hj]
    · rename_i r t e0
      cases h
      refine ⟨rfl, by simp only [mm_u1_eq]; exact g.1, by simp only [mm_u1_eq], fun ad => ?_, fun j hj => ?_, fun b hb => ⟨mm_u1_ne hb, rfl, rfl⟩⟩
      · simp only [mm_u1_eq, List.getD_eq_getElem?_getD, List.getElem?_set_self htl]
        rfl
      · simp only [mm_u1_eq, List.getD_eq_getElem?_getD, List.getElem?_set_ne (Ne.symm hj)]
        rfl
    · rename_i t e0
      cases h
      refine ⟨rfl, by simp only [mm_u1_eq]; exact g.1, by simp only [mm_u1_eq], fun ad => ?_, fun j hj => ?_, fun b hb => ⟨mm_u1_ne hb, rfl, rfl⟩⟩
      · simp only [mm_u1_eq, List.getD_eq_getElem?_getD, List.getElem?_set_self htl]
        rfl
      · simp only [mm_u1_eq, List.getD_eq_getElem?_getD, List.getElem?_set_ne (Ne.symm hj)]
        rfl
    · cases h
  · cases h
theorem mm_putf (hx : p.tables.exec = Jvm.exec) (hb : c.code = cc) (hown : s.vm.findClass own = some m.cls) (hts : ∀ w ∈ WS, w.before args s = true) (hK : va_K D cl (mm_tys cid) s) (hP : va_P D cl (mm_ws cid (mm_ad base fo) M) H) (hn : M.2.1.1 ≤ 1000000) (hS : va_S (fun q => base ≤ q) H0 H locs)
    {C : String} {T : u_T} {N ci k a idx : Nat} {v : Value} {M' : mm_M} {ty : FieldType} (hc : cl[ci]? = some (C, T, N)) (hci : ci < 100) (hin : ∀ w ∈ u_ws C T N, w ∈ WS) (ty0 : Nat → FieldType) (hty : ∀ k, k < N → parseFieldDescriptor (T k).2.2.1 = some (ty0 k)) (hnm : ∀ a, a < N → ∀ b, b < N → a ≠ b → (T a).2.1 ≠ (T b).2.1) (hk : k < N) (hlink : Jvm.Cond.fieldLink own idx (T k).1 (T k).2.1 (T k).2.2.1 ∈ WS) (hfin : (T k).2.2.2 = true → meth.name = "<init>" ∧ (T k).1 = own)
    (hd : parseFieldDescriptor (T k).2.2.1 = some ty) (hnr : narrow ty (mm_rn (mm_ad base fo) v) = mm_rn (mm_ad base fo) v) (hfit : fits ty (mm_rn (mm_ad base fo) v) = true) (hput : mm_put M a ci k v = some M') (htl : k < (M.1 a).2.2.length) (hdg : decode cc pc = .ok (.putfield idx, 3))
    (kk : ∀ (H1 : Heap) (locs1 : List Loc), H1.size = H.size → va_P D cl (mm_ws cid (mm_ad base fo) M') H1 → va_S (fun q => base ≤ q) H0 H1 locs1 → W p l e R s m args below meth c H1 locs1 cells slots Q (F0 m (pc + 3) ls rest)) : W p l e R s m args below meth c H locs cells slots Q (F0 m pc ls (mm_rn (mm_ad base fo) v :: .ref (mm_ad base fo a) :: rest)) := by
  obtain ⟨g, en, e1, e2, e3, e4, e5⟩ := mm_put_E hput htl
  have hE : mm_E cid (mm_ad base fo) M a = .inr (ci, (List.range (M.1 a).2.1).map (fun k => mm_rn (mm_ad base fo) (mm_sv M a k ((M.1 a).2.2.getD k 0)))) := by
    unfold mm_E
    rw [if_pos (by rw [g.1]; exact hci), g.1]
  have hE' : mm_E cid (mm_ad base fo) M' a = .inr (ci, ((List.range (M.1 a).2.1).map (fun k => mm_rn (mm_ad base fo) (mm_sv M a k ((M.1 a).2.2.getD k 0)))).set k (mm_rn (mm_ad base fo) v)) := by
    unfold mm_E
    rw [if_pos (by rw [e1]; exact hci), e1, e2, mm_fs_set (M := M) g.2.2 (e3 _) e4]
  have he := hP a _ (mm_ws_at g.2.1)
  rw [hE] at he
  generalize hfs : (List.range (M.1 a).2.1).map (fun k => mm_rn (mm_ad base fo) (mm_sv M a k ((M.1 a).2.2.getD k 0))) = fs at hE hE' he
  have hl : k < fs.length := by rw [← hfs]; simpa using g.2.2
  have hap := va_apart (own := own) hts hin ty0 hty hnm hK hc
  obtain ⟨r, h1, cell, q1, q2, q3, q4⟩ := he
  have hr : r = (C, T, N) := Option.some.inj (h1.symm.trans hc)
  subst hr
  obtain ⟨hSl, hfc, kC, hkC, hkind⟩ := hK.1 ci _ hc
  obtain ⟨cf, kf, fi, f, hi, hsl⟩ := hSl k hk
  have hlay := hts _ (hin _ (u_in_lay hk))
  unfold u_lay at hlay
  have hst := (u_facts hfc hkC (u_lays hts hin hk) hi).1
  have fin : ∀ (H' : Heap), H'[mm_ad base fo a]? = some (cell.setSlot f.slot (mm_rn (mm_ad base fo) v)) → H'.size = H.size → (∀ q : Nat, q ≠ mm_ad base fo a → H'[q]? = H[q]?) → va_P D cl (mm_ws cid (mm_ad base fo) M') H' ∧ va_S (fun q => base ≤ q) H0 H' (locs ++ [⟨mm_ad base fo a, f.slot⟩]) := by
    intro H' e1' e2' e3'
    rw [hsl] at e1' ⊢
    refine ⟨mm_P_upd hP (mm_inj hn g.2.1) (by rw [en]) (fun b hb => mm_E_congr (e5 b hb).1 (e5 b hb).2.1 (e5 b hb).2.2) ?_ e3', hS.put e2' e3' (by rw [mm_ad_lt (by have := g.2.1; omega)]; exact Nat.le_add_right _ _)⟩
    rw [hE']
    exact ⟨_, hc, t_OB.to (V := updV (vp_V fs) k (mm_rn (mm_ad base fo) v)) ⟨_, e1', q2, q3, t_set q4 hap hk (mm_rn (mm_ad base fo) v)⟩ (fun j _ => vp_updV_set hl (mm_rn (mm_ad base fo) v) j)⟩
  by_cases hf : (T k).2.2.2 = true
  · rw [if_pos hf] at hlay
    obtain ⟨hin2, hdecl⟩ := hfin hf
    have hcf : m.cls = cf := by
      obtain ⟨_, _, c', _, _, _, -, -, hf', -, -, -, hown2, -⟩ := Cond.laysFinal_spec hlay
      have e1 : c' = cf := by have := hi.symm.trans hf'; simp at this; exact this.1.symm
      rw [hdecl] at hown2
      rw [← e1]; exact Option.some.inj (hown.symm.trans hown2)
    have h6 := u_fits hfc hkC hkind (Or.inr hlay) hi hd hnr hfit
    refine W.putFinK hx hb hown (hts _ hlink) hi hst hcf hin2 (by rw [q2]; exact h6) q1 q3 (by rw [hsl]; exact k2_hasslot (q4 k hk)) rfl rfl hdg fun H' e1 e2 e3 => ?_
    exact kk H' _ e2 (fin H' e1 e2 e3).1 (fin H' e1 e2 e3).2
  · rw [if_neg hf] at hlay
    have h6 := u_store hfc hkC hkind hlay hi hd hnr hfit
    refine W.putK hx hb (f := f) ⟨hown, hts _ hlink, ⟨_, _, _, hi⟩, hst⟩ (by rw [q2]; exact h6) q1 q3 (by rw [hsl]; exact k2_hasslot (q4 k hk)) rfl rfl hdg fun H' e1 e2 e3 => ?_
    exact kk H' _ e2 (fin H' e1 e2 e3).1 (fin H' e1 e2 e3).2
end MMY
