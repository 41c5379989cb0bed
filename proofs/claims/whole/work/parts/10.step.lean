/-! One step, sound. -/
set_option maxHeartbeats 4000000 in
theorem mm_exe_len {i : Instr} {ln r1 r2 pc : Nat} {L : List (Option Value)} {st : List Value} {M : mm_M} {z : mm_St} (h : mm_exe i ln r1 r2 pc L st M = some z) : z.2.1.length = L.length := by
  have s1 : ∀ (k : Nat) (v : Value), (mm_s1 L k v).length = L.length := fun k v => by unfold mm_s1; rw [List.length_set, mm_kl_len]
  have s2 : ∀ (k : Nat) (v : Value), (mm_s2 L k v).length = L.length := fun k v => by unfold mm_s2; rw [List.length_set, List.length_set, mm_kl_len]
  unfold mm_exe at h
  split at h <;> first
    | (cases h; done)
    | (cases h; rfl)
    | (unfold mm_ld at h; split at h <;> cases h <;> rfl)
    | (unfold mm_sto at h; split at h <;> (try split at h) <;> cases h <;> first | exact s1 _ _ | exact s2 _ _)
    | (unfold mm_ii at h; split at h <;> cases h <;> rfl)
    | (unfold mm_ll at h; split at h <;> cases h <;> rfl)
    | (unfold mm_li at h; split at h <;> cases h <;> rfl)
    | (unfold mm_br at h; split at h
       · cases h
         rcases mm_if_or _ _ _ _ with q | q <;> rw [q]
       · cases h)
    | (unfold mm_bb at h; split at h
       · cases h
         rcases mm_ic_or _ _ _ _ _ with q | q <;> rw [q]
       · cases h)
    | (split at h
       · cases h
         rw [mm_swl_L]
       · cases h)
    | (split at h
       · cases h
         exact s1 _ _
       · cases h)
    | (split at h <;> cases h <;> rfl)
    | (split at h <;> (try split at h) <;> cases h <;> rfl)
theorem mm_rl {x d : Nat} (h : x ≤ 41) : 8 + (x + 11) + 60 * (d + 4) ≤ 60 * (d + 5) := by omega
def mm_WP (p : Program) (l : Launch) (e : Env) (R : Room) (s : State) (m : MethodId) (args : Array Value) (below : List Frame) (meth : Method) (c : Code) (D : va_G) (cl : List vw_C) (cid : Nat → Nat) (base : Nat) (fo : Nat → Nat) (n0 s0 : Nat) (Q : State → Prop) (z : mm_St) : Prop :=
  ∀ (H : Heap) (locs : List Loc) (ls : Array Slot), mm_Lc (mm_ad base fo) z.2.1 ls → z.2.1.length = c.maxLocals → H.size = base + z.2.2.2.2.1.1 → z.2.2.2.2.1.1 ≤ 1000000 → va_P D cl (mm_ws cid (mm_ad base fo) z.2.2.2) H → va_S (fun q => base ≤ q) s.heap H locs → mm_Fo fo base z.2.2.2 s s.heap →
    W p l e R s m args below meth c H locs (z.2.2.2.2.1.1 - n0) (z.2.2.2.2.1.2 - s0) Q (F0 m z.1 ls (z.2.2.1.map (mm_rn (mm_ad base fo))))
theorem mm_Fo_kp {fo : Nat → Nat} {base : Nat} {M M' : mm_M} {U : State} {H : Heap} (h : mm_Fo fo base M U H) (g : mm_Kp M M') (hn : M.2.1.1 ≤ 1000000) : mm_Fo fo base M' U H := by
  refine ⟨fun a ha hc => ?_, h.2⟩
  obtain ⟨k1, k2⟩ := g.2.2.2 a ha hn
  rw [k1] at hc ⊢
  rw [k2]
  exact h.1 a ha hc
section MMS
variable {p : Program} {l : Launch} {e : Env} {R : Room} {s : State} {m : MethodId} {args : Array Value} {below : List Frame} {meth : Method} {c : Code} {Q : State → Prop}
variable {D : va_G} {cl : List vw_C} {cid : Nat → Nat} {base : Nat} {fo : Nat → Nat} {WS NW : List Jvm.Cond} {ct : mm_CT} {CM : Nat → mm_Me} {E : mm_EV} {me d n0 s0 : Nat}
/-- a call in a step -/
theorem mm_snd_ca (hx : p.tables.exec = Jvm.exec) (hb : c.code = (CM me).2.1) (hml : c.maxLocals = (CM me).2.2.1) (hown : s.vm.findClass (CM me).1.cls = some m.cls) (hts : ∀ w ∈ WS, w.before args s = true) (hTb : mm_Tb ct CM cl WS NW) (hK : va_K D cl (mm_tys cid) s) (hnw : ∀ w ∈ NW, va_Nw w s) (hZs : mm_Zs ct.2.2.2 (mm_ad base fo) base s s.heap) (hb0 : base ≤ s.heap.size)
    (hE : ∀ k vs M res, E k vs M res → mm_MO ct CM cl WS NW (CM k) ∧ mm_Kp M res.2 ∧ Met l (CM k).1 (mm_wsl WS (CM k)) (mm_rm d (res.2.2.1.1 - M.2.1.1) (res.2.2.1.2 - M.2.1.2)) (mm_Pc base fo D cl cid NW ct.2.2.2 vs M) (mm_Qc base fo D cl cid res) (res.2.2.1.1 - M.2.1.1) (res.2.2.1.2 - M.2.1.2) (fun q => base ≤ q))
    (hR : d + 5 ≤ R.frames ∧ 60 * (d + 5) ≤ R.locals) {pc r1 idx : Nat} {L : List (Option Value)} {M : mm_M} {As r : List Value} {self : Option Nat} {z' : mm_St} (h : mm_ca CM E r1 pc L M As r self z') (hn0 : n0 ≤ M.2.1.1) (hs0 : s0 ≤ M.2.1.2) (hc1 : z'.2.2.2.2.1.1 - n0 ≤ R.cells) (hc2 : z'.2.2.2.2.1.2 - s0 ≤ R.slots)
    (hlink : Jvm.Cond.methodLink (CM me).1.cls idx (CM r1).1 ∈ WS ∨ ∃ h, Jvm.Cond.methodLinkNest (CM me).1.cls idx (CM r1).1 h ∈ NW)
    (hkind : (self = none ∧ decode (CM me).2.1 pc = .ok (.invokestatic idx, 3) ∧ Jvm.Cond.static (CM r1).1 ∈ WS) ∨ (∃ b, self = some b ∧ decode (CM me).2.1 pc = .ok (.invokevirtual idx, 3) ∧ Jvm.Cond.methodLink (CM me).1.cls idx (CM r1).1 ∈ WS ∧ Jvm.Cond.instanceMethod (CM r1).1 ∈ WS ∧ Jvm.Cond.selects (CM r1).1.cls (CM r1).1 (CM r1).1 ∈ WS ∧ b < M.2.1.1 ∧ (M.1 b).1 = (CM r1).2.2.2.2.2.2.1 ∧ ∃ T N, cl[(CM r1).2.2.2.2.2.2.1]? = some ((CM r1).1.cls, T, N)) ∨ (∃ b, self = some b ∧ decode (CM me).2.1 pc = .ok (.invokespecial idx, 3) ∧ (CM r1).1.name = "<init>" ∧ (CM r1).2.2.2.1 = none ∧ Jvm.Cond.instanceMethod (CM r1).1 ∈ WS))
    (kk : mm_WP p l e R s m args below meth c D cl cid base fo n0 s0 Q z') {H : Heap} {locs : List Loc} {ls : Array Slot} (hL : mm_Lc (mm_ad base fo) L ls) (hll : L.length = c.maxLocals) (hsz : H.size = base + M.2.1.1) (hn : M.2.1.1 ≤ 1000000) (hP : va_P D cl (mm_ws cid (mm_ad base fo) M) H) (hS : va_S (fun q => base ≤ q) s.heap H locs) (hFo : mm_Fo fo base M s s.heap) :
    W p l e R s m args below meth c H locs (M.2.1.1 - n0) (M.2.1.2 - s0) Q (F0 m pc ls ((As.reverse ++ ((self.map (fun b => Value.ref b)).toList ++ r)).map (mm_rn (mm_ad base fo)))) := by
  obtain ⟨res, hlen, hcat, hev, rfl⟩ := h
  obtain ⟨tb1, tb2, tb3, -, hTb'⟩ := hTb
  have hev' : ∃ vs, E r1 vs M res ∧ vs = (self.map (fun b => Value.ref b)).toList ++ As := by
    cases self with
    | none => exact ⟨_, hev, rfl⟩
    | some b => exact ⟨_, hev, rfl⟩
  obtain ⟨vs, hev', hvs⟩ := hev'
  obtain ⟨⟨o1, o3, o4, o5, ⟨o61, o62, o63⟩, -⟩, kp, hM⟩ := hE _ _ _ _ hev'
  have hfix : CallFix p m c (CM me).2.1 (CM me).2.2.1 s args WS (CM me).1.cls := ⟨hx, hb, hml, hown, hts⟩
  have hnl : (CM r1).2.2.2.2.2.1 = (As.map (mm_rn (mm_ad base fo))).length := by rw [List.length_map, hlen]
  have hrm : (mm_rm d (res.2.2.1.1 - M.2.1.1) (res.2.2.1.2 - M.2.1.2)).frames + 1 ≤ R.frames ∧ 8 + ((CM r1).2.2.1 + 11) + (mm_rm d (res.2.2.1.1 - M.2.1.1) (res.2.2.1.2 - M.2.1.2)).locals ≤ R.locals := by
    refine ⟨hR.1, ?_⟩
    exact Nat.le_trans (mm_rl o5) hR.2
  have hGood := mm_good (CM := CM) tb1 o3
  have hNWt : ∀ w ∈ NW, ∀ u U : State, u.vm = U.vm → va_Nw w u → va_Nw w U := fun w hw => (tb2 w hw).1
  have hpre := mm_pre tb2 hK hP hsz hn hS hb0 hnw hFo hZs vs
  have hsize : ls.size = (CM me).2.2.1 := by rw [hL.1, hll, hml]
  have hcat2 : 2 * (F0 m pc ls ((As.reverse ++ ((self.map (fun b => Value.ref b)).toList ++ r)).map (mm_rn (mm_ad base fo)))).monitorRoom + ((r.map (mm_rn (mm_ad base fo))).map fun v => v.category).sum ≤ 8 := by
    rw [mm_cat_map]
    exact lv_room (rest := (As.reverse ++ ((self.map (fun b => Value.ref b)).toList ++ r)).map (mm_rn (mm_ad base fo))) hcat
  obtain ⟨k1, k2, k3, k4⟩ := kp
  have hc1' : M.2.1.1 - n0 + (res.2.2.1.1 - M.2.1.1) = res.2.2.1.1 - n0 := by omega
  have hc2' : M.2.1.2 - s0 + (res.2.2.1.2 - M.2.1.2) = res.2.2.1.2 - s0 := by omega
  have hf : M.2.1.1 - n0 + (res.2.2.1.1 - M.2.1.1) ≤ R.cells ∧ M.2.1.2 - s0 + (res.2.2.1.2 - M.2.1.2) ≤ R.slots := by
    rw [hc1', hc2']
    exact ⟨hc1, hc2⟩
  have key : ∀ va : Array Value, va_Run p l e R s m args below meth c H locs (M.2.1.1 - n0) (M.2.1.2 - s0) (res.2.2.1.1 - M.2.1.1) (res.2.2.1.2 - M.2.1.2) (F0 m pc ls ((As.reverse ++ ((self.map (fun b => Value.ref b)).toList ++ r)).map (mm_rn (mm_ad base fo)))) (r.map (mm_rn (mm_ad base fo))) (mm_Qc base fo D cl cid res va) (fun q => base ≤ q) → W p l e R s m args below meth c H locs (M.2.1.1 - n0) (M.2.1.2 - s0) Q (F0 m pc ls ((As.reverse ++ ((self.map (fun b => Value.ref b)).toList ++ r)).map (mm_rn (mm_ad base fo)))) := by
    intro va hr
    refine mm_back (g := F0 m pc ls []) hr hS (fun H1 locs1 q1 q2 q3 => ?_)
    have := kk H1 locs1 ls hL hll q1 (k3 hn) q2 q3 (mm_Fo_kp hFo ⟨k1, k2, k3, k4⟩ hn)
    rw [hc1', hc2']
    exact this
  have hstk : ∀ x : List Value, ((As.reverse ++ (x ++ r)).map (mm_rn (mm_ad base fo))) = (As.map (mm_rn (mm_ad base fo))).reverse ++ (x.map (mm_rn (mm_ad base fo)) ++ r.map (mm_rn (mm_ad base fo))) := fun x => by
    rw [mm_map_rev, List.map_append]
  rcases hkind with ⟨rfl, hdg, w1⟩ | ⟨b, rfl, hdg, w0, w1, w2, w3, w4, T, N, w5⟩ | ⟨b, rfl, hdg, w1, w2, w3⟩
  · have hvs : vs = As := hvs
    subst hvs
    refine key (vs.map (mm_rn (mm_ad base fo))).toArray ?_
    have hst : (F0 m pc ls ((vs.reverse ++ (((none : Option Nat).map (fun b => Value.ref b)).toList ++ r)).map (mm_rn (mm_ad base fo)))).stack = (vs.map (mm_rn (mm_ad base fo))).reverse ++ r.map (mm_rn (mm_ad base fo)) := hstk []
    rcases hlink with hl | ⟨h, hl⟩
    · exact va_runS (As := vs.map (mm_rn (mm_ad base fo))) hfix hM ⟨callB_of (CM r1).2.2.2.2.2.1 hts hGood rfl rfl rfl (hts _ o4) (hts _ hl) ⟨o61, o62, o63⟩ hrm, hts _ w1⟩ ⟨mm_blind hNWt, hpre⟩ rfl hnl.symm hsize hst hcat2 hdg hf
    · exact va_runSN (As := vs.map (mm_rn (mm_ad base fo))) hfix hM ⟨va_cnB (CM r1).2.2.2.2.2.1 hts hGood rfl rfl rfl (hnw _ hl) (hts _ o4) ⟨o61, o62, o63⟩ hrm, hts _ w1, trivial⟩ ⟨mm_blind hNWt, hpre⟩ rfl hnl.symm hsize hst hcat2 hdg hf
  · have hvs : vs = .ref b :: As := hvs
    subst hvs
    refine key (Value.ref (mm_ad base fo b) :: As.map (mm_rn (mm_ad base fo))).toArray ?_
    have hst : (F0 m pc ls ((As.reverse ++ (((some b : Option Nat).map (fun b => Value.ref b)).toList ++ r)).map (mm_rn (mm_ad base fo)))).stack = (As.map (mm_rn (mm_ad base fo))).reverse ++ .ref (mm_ad base fo b) :: r.map (mm_rn (mm_ad base fo)) := hstk [.ref b]
    have hcl100 : (M.1 b).1 < 100 := by
      rw [w4]
      have := (List.getElem?_eq_some_iff.mp w5).1
      have := hTb'
      omega
    have hEb : (mm_ws cid (mm_ad base fo) M)[b]? = some (mm_ad base fo b, .inr ((M.1 b).1, (List.range (M.1 b).2.1).map (fun k => mm_rn (mm_ad base fo) (mm_sv M b k ((M.1 b).2.2.getD k 0))))) := by
      rw [mm_ws_at w3]
      unfold mm_E
      rw [if_pos hcl100]
    exact va_runV (As := As.map (mm_rn (mm_ad base fo))) (C := (CM r1).1.cls) hfix hM ⟨callB_of (CM r1).2.2.2.2.2.1 hts hGood rfl rfl rfl (hts _ o4) (hts _ w0) ⟨o61, o62, o63⟩ hrm, hts _ w1, hts _ w2⟩ ⟨mm_blind hNWt, va_recv hK hP (ci := (M.1 b).1) (q0 := b) (by rw [w4]; exact w5) hEb, hpre⟩ rfl hnl.symm hsize hst hcat2 hdg hf
  · have hvs : vs = .ref b :: As := hvs
    subst hvs
    refine key (Value.ref (mm_ad base fo b) :: As.map (mm_rn (mm_ad base fo))).toArray ?_
    have hst : (F0 m pc ls ((As.reverse ++ (((some b : Option Nat).map (fun b => Value.ref b)).toList ++ r)).map (mm_rn (mm_ad base fo)))).stack = (As.map (mm_rn (mm_ad base fo))).reverse ++ .ref (mm_ad base fo b) :: r.map (mm_rn (mm_ad base fo)) := hstk [.ref b]
    rw [show mm_wsl WS (CM r1) = Jvm.Cond.code (CM r1).1 (CM r1).2.1 (CM r1).2.2.1 none :: WS by unfold mm_wsl; rw [w2]] at hM hGood
    rcases hlink with hl | ⟨h, hl⟩
    · exact va_runI (As := As.map (mm_rn (mm_ad base fo))) (bytes := (CM r1).2.1) (maxL := (CM r1).2.2.1) hfix hM ⟨callB_of (CM r1).2.2.2.2.2.1 hts hGood rfl rfl rfl (hts _ o4) (hts _ hl) ⟨o61, o62, o63⟩ hrm, w1, hts _ w3⟩ ⟨mm_blind hNWt, hpre⟩ rfl hnl.symm hsize hst hcat2 hdg hf
    · exact va_runIN (As := As.map (mm_rn (mm_ad base fo))) (bytes := (CM r1).2.1) (maxL := (CM r1).2.2.1) hfix hM ⟨va_cnB (CM r1).2.2.2.2.2.1 hts hGood rfl rfl rfl (hnw _ hl) (hts _ o4) ⟨o61, o62, o63⟩ hrm, w1, hts _ w3⟩ ⟨mm_blind hNWt, hpre⟩ rfl hnl.symm hsize hst hcat2 hdg hf
end MMS
