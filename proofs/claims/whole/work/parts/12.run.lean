/-! Runs and calls. -/
theorem mm_ent_at {ad : Nat → Nat} : ∀ (vs : List Value) (k i : Nat) (v : Value), mm_nth (mm_lay vs) i = some (some v) → (k + i, mm_rn ad v) ∈ lv_args k (vs.map (mm_rn ad))
  | [], _, _, _, h => by cases h
  | w :: vs, k, i, v, h => by
    simp only [List.map_cons, lv_args, mm_rn_cat]
    unfold mm_lay at h
    by_cases hc : w.category = 2
    · rw [if_pos hc] at h ⊢
      match i, h with
      | 0, h => cases h; exact List.mem_cons_self
      | 1, h => cases h
      | j + 2, h =>
        have := mm_ent_at (ad := ad) vs (k + 2) j v h
        rw [show k + 2 + j = k + (j + 2) by omega] at this
        exact List.mem_cons_of_mem _ this
    · rw [if_neg hc] at h ⊢
      match i, h with
      | 0, h => cases h; exact List.mem_cons_self
      | j + 1, h =>
        have := mm_ent_at (ad := ad) vs (k + 1) j v h
        rw [show k + 1 + j = k + (j + 1) by omega] at this
        exact List.mem_cons_of_mem _ this
theorem mm_lay_len (ad : Nat → Nat) : ∀ vs : List Value, (lg_sl (vs.map (mm_rn ad))).length = (mm_lay vs).length
  | [] => rfl
  | w :: vs => by
    have ih := mm_lay_len ad vs
    unfold mm_lay
    by_cases hc : w.category = 2
    · rw [if_pos hc]
      simp only [lg_sl, List.map_cons, List.flatMap_cons, mm_rn_cat, hc, if_true, List.length_append, List.length_cons, List.length_nil] at ih ⊢
      omega
    · rw [if_neg hc]
      simp only [lg_sl, List.map_cons, List.flatMap_cons, mm_rn_cat, hc, if_false, List.length_append, List.length_cons, List.length_nil] at ih ⊢
      omega
theorem mm_ent_len {n : Nat} {vs : List Value} (h : (mm_lay vs).length ≤ n) : (mm_ent n vs).length = n := by
  unfold mm_ent
  rw [List.length_append, List.length_replicate]
  omega
theorem mm_ent_ok {ad : Nat → Nat} {n : Nat} {vs : List Value} (h : (mm_lay vs).length ≤ n) : mm_Lc ad (mm_ent n vs) ((lg_sl (vs.map (mm_rn ad)) ++ List.replicate (n - (lg_sl (vs.map (mm_rn ad))).length) Slot.unset).toArray) := by
  have hl := lv_entry (vs.map (mm_rn ad)) (n := n) (by rw [mm_lay_len]; exact h)
  refine ⟨by rw [hl.1, mm_ent_len h], hl.2.1, fun i v hi => hl.2.2 (i, mm_rn ad v) ?_⟩
  unfold mm_ent at hi
  rw [mm_nth_eq] at hi
  by_cases hlt : i < (mm_lay vs).length
  · rw [List.getElem?_append_left hlt, ← mm_nth_eq] at hi
    have := mm_ent_at (ad := ad) vs 0 i v hi
    rw [Nat.zero_add] at this
    exact this
  · rw [List.getElem?_append_right (by omega), List.getElem?_replicate] at hi
    split at hi <;> cases hi
section MMU
variable {l : Launch} {D : va_G} {cl : List vw_C} {cid : Nat → Nat} {base : Nat} {fo : Nat → Nat} {WS NW : List Jvm.Cond} {ct : mm_CT} {CM : Nat → mm_Me}
theorem mm_snd_rt {p : Program} {e : Env} {R : Room} {s : State} {m : MethodId} {args : Array Value} {below : List Frame} {meth : Method} {c : Code} {me n0 s0 : Nat} (hx : p.tables.exec = Jvm.exec) (hb : c.code = (CM me).2.1) (hr : meth.sig.returnType = (CM me).2.2.2.1) (hlk : meth.locks = false) (hMO : mm_MC ct CM cl WS NW (CM me)) {z : mm_St} {res : mm_Rs} (h : mm_Ret CM me z res) :
    mm_WP p l e R s m args below meth c D cl cid base fo n0 s0 (MQ below (mm_Qc base fo D cl cid res) args s (z.2.2.2.2.1.1 - n0) (z.2.2.2.2.1.2 - s0) (fun q => base ≤ q)) z := by
  obtain ⟨i, ln, r1, r2, hcode, hM, h⟩ := h
  obtain ⟨o2, oc⟩ := hMO
  obtain ⟨oe, oln, -⟩ := oc _ _ hcode
  have hdg := oe.1
  obtain ⟨v, M2⟩ := res
  dsimp only at hM h hdg oln
  subst hM
  intro H locs ls hL hll hsz hn hP hS hFo
  have hq : ∀ (w : Option Value), w = v.map (mm_rn (mm_ad base fo)) → ∀ t : State, t.heap = H → s.WarmedH t.vm → mm_Qc base fo D cl cid (v, z.2.2.2) args s (.returned w) t := fun w hw t ht _ => ⟨by rw [hw], by rw [ht]; exact hsz, by rw [ht]; exact hP, hS.F ht⟩
  split at h
  · rcases oln with q | q
    · cases q
    dsimp only [mm_ln] at q
    subst q
    obtain ⟨x, ty, h1, h2, h3, h4⟩ := h
    rw [h1]
    exact W.zret (v := x) hx hb (by rw [hr, h3]) h4 (hq _ (by rw [h2]; rfl)) hS.2.2 hdg hlk
  · rcases oln with q | q
    · cases q
    dsimp only [mm_ln] at q
    subst q
    obtain ⟨x, h1, h2, h3⟩ := h
    rw [h1]
    exact W.lret (v := x) hx hb (by rw [hr, h3]) (hq _ (by rw [h2]; rfl)) hS.2.2 hdg hlk
  · rcases oln with q | q
    · cases q
    dsimp only [mm_ln] at q
    subst q
    obtain ⟨x, n, h1, h2, h3, h4⟩ := h
    rw [h1]
    exact W.aret (v := mm_rn (mm_ad base fo) x) hx hb (by rw [hr, h3]) (Or.inl ⟨_, rfl⟩) (by rcases h4 with rfl | ⟨a, rfl⟩; exact Or.inl rfl; exact Or.inr ⟨_, rfl⟩) (hq _ (by rw [h2]; rfl)) hS.2.2 hdg hlk
  · rcases oln with q | q
    · cases q
    dsimp only [mm_ln] at q
    subst q
    obtain ⟨h1, h2, h3⟩ := h
    rw [h1]
    exact W.vret hx hb (by rw [hr, h3]) (hq _ (by rw [h2]; rfl)) hS.2.2 hdg hlk
  · exact h.elim
/-- a method whose code stands is known -/
def mm_AllM (ct : mm_CT) (CM : Nat → mm_Me) (cl : List vw_C) (WS NW : List Jvm.Cond) : Prop := ∀ k, (CM k).2.2.2.2.2.2.1 ≠ 98 → (∃ (pc : Nat) (t : mm_In), (CM k).2.2.2.2.2.2.2 pc = some t) → mm_MO ct CM cl WS NW (CM k)
theorem mm_rn_code {E : mm_EV} {me n : Nat} {z : mm_St} {res : mm_Rs} (h : mm_Rn ct CM E me n z res) : ∃ (pc : Nat) (t : mm_In), (CM me).2.2.2.2.2.2.2 pc = some t := by
  cases n with
  | zero => exact h.elim
  | succ n =>
    rcases h with ⟨i, ln, r1, r2, h, -⟩ | ⟨z', ⟨i, ln, r1, r2, h, -⟩, -⟩
    · exact ⟨_, _, h⟩
    · exact ⟨_, _, h⟩
theorem mm_snd_rn {p : Program} {e : Env} {R : Room} {s : State} {m : MethodId} {args : Array Value} {below : List Frame} {meth : Method} {c : Code} {E : mm_EV} {me d n0 s0 : Nat} (hx : p.tables.exec = Jvm.exec) (hb : c.code = (CM me).2.1) (hml : c.maxLocals = (CM me).2.2.1) (hr : meth.sig.returnType = (CM me).2.2.2.1) (hlk : meth.locks = false) (hown : s.vm.findClass (CM me).1.cls = some m.cls) (hnm : (CM me).1.name = "<init>" → meth.name = "<init>") (hts : ∀ w ∈ WS, w.before args s = true) (hTb : mm_Tb ct CM cl WS NW) (hMO : mm_MC ct CM cl WS NW (CM me)) (hK : va_K D cl (mm_tys cid) s) (hnw : ∀ w ∈ NW, va_Nw w s) (hZs : mm_Zs ct.2.2.2 (mm_ad base fo) base s s.heap) (hb0 : base ≤ s.heap.size)
    (hE : ∀ k vs M res, E k vs M res → mm_MO ct CM cl WS NW (CM k) ∧ mm_Kp M res.2 ∧ Met l (CM k).1 (mm_wsl WS (CM k)) (mm_rm d (res.2.2.1.1 - M.2.1.1) (res.2.2.1.2 - M.2.1.2)) (mm_Pc base fo D cl cid NW ct.2.2.2 vs M) (mm_Qc base fo D cl cid res) (res.2.2.1.1 - M.2.1.1) (res.2.2.1.2 - M.2.1.2) (fun q => base ≤ q))
    (hR : d + 5 ≤ R.frames ∧ 60 * (d + 5) ≤ R.locals) {res : mm_Rs} (hc1 : res.2.2.1.1 - n0 ≤ R.cells) (hc2 : res.2.2.1.2 - s0 ≤ R.slots) :
    ∀ (n : Nat) (z : mm_St), n0 ≤ z.2.2.2.2.1.1 → s0 ≤ z.2.2.2.2.1.2 → mm_Rn ct CM E me n z res →
      mm_WP p l e R s m args below meth c D cl cid base fo n0 s0 (MQ below (mm_Qc base fo D cl cid res) args s (res.2.2.1.1 - n0) (res.2.2.1.2 - s0) (fun q => base ≤ q)) z
  | 0, _, _, _, h => h.elim
  | n + 1, z, h1, h2, h => by
    rcases h with h | ⟨z', h, g⟩
    · have e : res.2 = z.2.2.2 := h.choose_spec.choose_spec.choose_spec.choose_spec.2.1
      rw [e]
      exact mm_snd_rt hx hb hr hlk hMO h
    · have kp0 : ∀ me vs M res, E me vs M res → mm_Kp M res.2 := fun k vs M res q => (hE k vs M res q).2.1
      have kp1 : mm_Kp z.2.2.2 z'.2.2.2 := by
        obtain ⟨i, ln, r1, r2, -, h⟩ := h
        exact mm_Kp_st kp0 h
      have kp2 := mm_Kp_rn kp0 n z' res g
      have a1 := kp1.1
      have a2 := kp1.2.1
      have a3 := kp2.1
      have a4 := kp2.2.1
      exact mm_snd_st hx hb hml hown hnm hts hTb hMO hK hnw hZs hb0 hE hR h h1 h2 (by omega) (by omega) (mm_snd_rn hx hb hml hr hlk hown hnm hts hTb hMO hK hnw hZs hb0 hE hR hc1 hc2 n z' (by omega) (by omega) g)
def mm_Pt (ct : mm_CT) (CM : Nat → mm_Me) (E : mm_EV) (me : Nat) : Nat → mm_St → mm_St → Prop
  | 0, z, z' => z = z'
  | n + 1, z, z' => ∃ z1 : mm_St, mm_Stp ct CM E me z z1 ∧ mm_Pt ct CM E me n z1 z'
theorem mm_Kp_pt {E : mm_EV} (hE : ∀ me vs M res, E me vs M res → mm_Kp M res.2) {me : Nat} : ∀ (n : Nat) (z z' : mm_St), mm_Pt ct CM E me n z z' → mm_Kp z.2.2.2 z'.2.2.2
  | 0, _, _, h => by cases h; exact mm_Kp.rf
  | n + 1, z, z', h => by
    obtain ⟨z1, ⟨i, ln, r1, r2, -, h⟩, g⟩ := h
    exact (mm_Kp_st hE h).tr (mm_Kp_pt hE n z1 z' g)
theorem mm_snd_pt {p : Program} {e : Env} {R : Room} {s : State} {m : MethodId} {args : Array Value} {below : List Frame} {meth : Method} {c : Code} {Q : State → Prop} {E : mm_EV} {me d n0 s0 : Nat} (hx : p.tables.exec = Jvm.exec) (hb : c.code = (CM me).2.1) (hml : c.maxLocals = (CM me).2.2.1) (hown : s.vm.findClass (CM me).1.cls = some m.cls) (hnm : (CM me).1.name = "<init>" → meth.name = "<init>") (hts : ∀ w ∈ WS, w.before args s = true) (hTb : mm_Tb ct CM cl WS NW) (hMO : mm_MC ct CM cl WS NW (CM me)) (hK : va_K D cl (mm_tys cid) s) (hnw : ∀ w ∈ NW, va_Nw w s) (hZs : mm_Zs ct.2.2.2 (mm_ad base fo) base s s.heap) (hb0 : base ≤ s.heap.size)
    (hE : ∀ k vs M res, E k vs M res → mm_MO ct CM cl WS NW (CM k) ∧ mm_Kp M res.2 ∧ Met l (CM k).1 (mm_wsl WS (CM k)) (mm_rm d (res.2.2.1.1 - M.2.1.1) (res.2.2.1.2 - M.2.1.2)) (mm_Pc base fo D cl cid NW ct.2.2.2 vs M) (mm_Qc base fo D cl cid res) (res.2.2.1.1 - M.2.1.1) (res.2.2.1.2 - M.2.1.2) (fun q => base ≤ q))
    (hR : d + 5 ≤ R.frames ∧ 60 * (d + 5) ≤ R.locals) :
    ∀ (n : Nat) (z z' : mm_St), n0 ≤ z.2.2.2.2.1.1 → s0 ≤ z.2.2.2.2.1.2 → mm_Pt ct CM E me n z z' → z'.2.2.2.2.1.1 - n0 ≤ R.cells → z'.2.2.2.2.1.2 - s0 ≤ R.slots →
      mm_WP p l e R s m args below meth c D cl cid base fo n0 s0 Q z' → mm_WP p l e R s m args below meth c D cl cid base fo n0 s0 Q z
  | 0, z, z', h1, h2, h, _, _, kk => by cases h; exact kk
  | n + 1, z, z', h1, h2, h, c1, c2, kk => by
    obtain ⟨z1, h, g⟩ := h
    have kp0 : ∀ me vs M res, E me vs M res → mm_Kp M res.2 := fun k vs M res q => (hE k vs M res q).2.1
    have kp1 : mm_Kp z.2.2.2 z1.2.2.2 := by
      obtain ⟨i, ln, r1, r2, -, h⟩ := h
      exact mm_Kp_st kp0 h
    have kp2 := mm_Kp_pt kp0 n z1 z' g
    have a1 := kp1.1
    have a2 := kp1.2.1
    have a3 := kp2.1
    have a4 := kp2.2.1
    exact mm_snd_st hx hb hml hown hnm hts hTb hMO hK hnw hZs hb0 hE hR h h1 h2 (by omega) (by omega) (mm_snd_pt hx hb hml hown hnm hts hTb hMO hK hnw hZs hb0 hE hR n z1 z' (by omega) (by omega) g c1 c2 kk)
set_option maxHeartbeats 1000000 in
/-- a call of the small machine is a contract -/
theorem mm_met (hTb : mm_Tb ct CM cl WS NW) (hAll : mm_AllM ct CM cl WS NW) : ∀ (d k : Nat) (vs : List Value) (M : mm_M) (res : mm_Rs), mm_Ev ct CM d k vs M res → mm_MO ct CM cl WS NW (CM k) ∧ mm_Kp M res.2 ∧ Met l (CM k).1 (mm_wsl WS (CM k)) (mm_rm d (res.2.2.1.1 - M.2.1.1) (res.2.2.1.2 - M.2.1.2)) (mm_Pc base fo D cl cid NW ct.2.2.2 vs M) (mm_Qc base fo D cl cid res) (res.2.2.1.1 - M.2.1.1) (res.2.2.1.2 - M.2.1.2) (fun q => base ≤ q)
  | 0, _, _, _, _, h => h.elim
  | d + 1, k, vs, M, res, h => by
    have kp := mm_Kp_ev (d + 1) k vs M res h
    obtain ⟨h98, hlay, n, hrn⟩ := h
    have hMO := hAll k h98 (mm_rn_code hrn)
    refine ⟨hMO, kp, ?_⟩
    have hMO2 := hMO
    obtain ⟨o1, o3, o4, o5, o6, oc⟩ := hMO2
    refine Met.ofW (cc := (CM k).2.1) (maxL := (CM k).2.2.1) (ret := (CM k).2.2.2.1) o1 rfl ?_
    intro p e s m args below meth c s₁ B hml hv
    obtain ⟨rfl, hsz, hn, hP, hK, hNw, hFo, hZs⟩ := hv
    have hx := B.exec
    have hb := B.bytes
    have hr := B.returns
    have hts0 := atoms_spec (ws := mm_wsl WS (CM k)) B.pre
    have hts : ∀ w ∈ WS, w.before (vs.map (mm_rn (mm_ad base fo))).toArray s = true := fun w hw => hts0 w (List.mem_cons_of_mem _ hw)
    have hown : s.vm.findClass (CM k).1.cls = some m.cls := findClass_of_methodNamed B.named
    have hlocks := B.notSynchronized
    have hnm : (CM k).1.name = "<init>" → meth.name = "<init>" := fun q => ((name_of_methodNamed B.named B.method).1).trans q
    have hrn' := mm_snd_rn (p := p) (e := e) (R := (headSpec (mm_wsl WS (CM k)) (mm_rm (d + 1) (res.2.2.1.1 - M.2.1.1) (res.2.2.1.2 - M.2.1.2))).room) (s := s) (m := m) (args := (vs.map (mm_rn (mm_ad base fo))).toArray) (below := below) (meth := meth) (c := c) (n0 := M.2.1.1) (s0 := M.2.1.2) hx hb hml hr hlocks hown hnm hts hTb oc hK hNw hZs (by rw [hsz]; exact Nat.le_add_right _ _) (mm_met hTb hAll d) ⟨Nat.le_refl _, Nat.le_refl _⟩ (res := res) (Nat.le_refl _) (Nat.le_refl _) n _ (Nat.le_refl _) (Nat.le_refl _) hrn
    have hw := hrn' s.heap [] ((lg_sl (vs.map (mm_rn (mm_ad base fo))) ++ List.replicate ((CM k).2.2.1 - (lg_sl (vs.map (mm_rn (mm_ad base fo)))).length) Slot.unset).toArray) (mm_ent_ok hlay) (by rw [hml]; exact mm_ent_len hlay) hsz hn hP va_S.rf hFo
    dsimp only at hw
    rw [Nat.sub_self, Nat.sub_self] at hw
    rw [lg_entry_eq]
    exact hw
end MMU
