/-! THE SMALL MACHINE IS SOUND: a run of it is a contract of the machine. -/
/-- a String constant's world -/
def mm_Fz (base a q len : Nat) (f : Nat → Int32) (U : State) (H : Heap) : Prop := vk_R (mm_sk a).1 (mm_sk a).2.1 (mm_sk a).2.2 q U ∧ (∃ v, vz_SA (fun q => base ≤ q) q v len f U H) ∧ (0 < len ∧ len < 2 ^ 31) ∧ ∀ j, j < len → ∃ z, z < 128 ∧ f j = nI z
def mm_Fo (fo : Nat → Nat) (base : Nat) (M : mm_M) (U : State) (H : Heap) : Prop := (∀ a, 1000000 ≤ a → (M.1 a).1 = 110 → va_T .int (fo a) (M.1 a).2.1 (fun j => .int (M.2.2.1 a j)) (fun q => base ≤ q) U H) ∧ ∀ a, a = 1000002 ∨ a = 1000003 → mm_Fz base a (fo a) (mm_sl a) (mm_sb a) U H
def mm_Zs (zs : List (String × String × String × Value)) (ad : Nat → Nat) (base : Nat) (U : State) (H : Heap) : Prop := ∀ (k : Nat) (q : String × String × String × Value), zs[k]? = some q → va_Z q.1 q.2.1 q.2.2.1 (mm_rn ad q.2.2.2) (fun a => base ≤ a) U H
def mm_Wd (base : Nat) (fo : Nat → Nat) (D : va_G) (cl : List vw_C) (cid : Nat → Nat) (NW : List Jvm.Cond) (zs : List (String × String × String × Value)) (M : mm_M) (U : State) : Prop :=
  U.heap.size = base + M.2.1.1 ∧ M.2.1.1 ≤ 1000000 ∧ va_P D cl (mm_ws cid (mm_ad base fo) M) U.heap ∧ va_K D cl (mm_tys cid) U ∧ (∀ w ∈ NW, va_Nw w U) ∧ mm_Fo fo base M U U.heap ∧ mm_Zs zs (mm_ad base fo) base U U.heap
def mm_Pc (base : Nat) (fo : Nat → Nat) (D : va_G) (cl : List vw_C) (cid : Nat → Nat) (NW : List Jvm.Cond) (zs : List (String × String × String × Value)) (vs : List Value) (M : mm_M) : Array Value → State → Prop := va_Pc (vs.map (mm_rn (mm_ad base fo))) (mm_Wd base fo D cl cid NW zs M)
def mm_Qc (base : Nat) (fo : Nat → Nat) (D : va_G) (cl : List vw_C) (cid : Nat → Nat) (res : mm_Rs) : Array Value → State → Outcome → State → Prop := fun _ st oc t =>
  oc = .returned (res.1.map (mm_rn (mm_ad base fo))) ∧ t.heap.size = base + res.2.2.1.1 ∧ va_P D cl (mm_ws cid (mm_ad base fo) res.2) t.heap ∧ va_F (fun q => base ≤ q) st t
def mm_rm (d mc ms : Nat) : Room := { frames := d + 4, cells := mc, slots := ms, locals := 60 * (d + 4) }
/-- what is known of the tables: the good words, the others, the classes, the methods -/
def mm_Tb (ct : mm_CT) (CM : Nat → mm_Me) (cl : List vw_C) (WS NW : List Jvm.Cond) : Prop :=
  (∀ w ∈ WS, ((w.onTables && w.keeps) = true ∨ ∃ ty, w = .arrayClass ty)) ∧
  (∀ w ∈ NW, (∀ u U : State, u.vm = U.vm → va_Nw w u → va_Nw w U) ∧ (∀ s U : State, s.WarmedH U.vm → va_Nw w s → va_Nw w U) ∧ ∀ (A : Array Value) (U : State), va_Nw w U → w.before A U = true) ∧
  (∀ (ci : Nat) (C : String) (T : u_T) (N : Nat), cl[ci]? = some (C, T, N) → (∀ w ∈ u_ws C T N, w ∈ WS) ∧ (∀ k, k < N → parseFieldDescriptor (T k).2.2.1 = some (ct.2.1 ci k)) ∧ (∀ a, a < N → ∀ b, b < N → a ≠ b → (T a).2.1 ≠ (T b).2.1) ∧ (∀ k, k < N → (T k).2.2.2 = ct.2.2.1 ci k) ∧ (∀ k, k < N → (T k).1 = C) ∧ (∀ k, k < N → ∀ (M : mm_M) (sl : Nat), defaultValue (ct.2.1 ci k) = mm_sv (mm_al M ci N sl (ct.1 ci)) M.2.1.1 k ((ct.1 ci).getD k 0))) ∧
  (∀ r : vw_C, (cl[5]? = some r → mm_ty 104 = .object r.1) ∧ (cl[6]? = some r → mm_ty 105 = .object r.1)) ∧ cl.length ≤ 100
/-- one method's code -/
def mm_MC (ct : mm_CT) (CM : Nat → mm_Me) (cl : List vw_C) (WS NW : List Jvm.Cond) (q : mm_Me) : Prop :=
  q.2.2.2.2.1 = q.1.cls ∧
  ∀ (pc : Nat) (t : mm_In), q.2.2.2.2.2.2.2 pc = some t → mm_EOk cl WS q.2.2.2.2.1 q.2.1 pc t ∧ (mm_sw t.1 = true ∨ t.2.1 = mm_ln t.1) ∧ match t.1 with
    | .putfield _ => ∀ r : vw_C, cl[t.2.2.1]? = some r → ct.2.2.1 t.2.2.1 t.2.2.2 = true → q.1.name = "<init>" → r.1 = q.1.cls
    | .anewarray _ => ∀ C : String, mm_ty t.2.2.1 = .object C → Jvm.Cond.arrayOver (.object C) ∈ NW
    | .multianewarray _ _ => Jvm.Cond.arrayOver (.array .int) ∈ NW
    | .getstatic idx => ∀ z : String × String × String × Value, ct.2.2.2[t.2.2.1]? = some z → Jvm.Cond.fieldLink q.1.cls idx z.1 z.2.1 z.2.2.1 ∈ WS
    | .invokestatic idx => if t.2.2.2 = 4 then Jvm.Cond.methodLink q.1.cls idx arraycopyName ∈ WS ∧ Jvm.Cond.native arraycopyName ∈ WS ∧ Jvm.Cond.static arraycopyName ∈ WS ∧ Jvm.Cond.initialized "java/lang/System" ∈ WS
      else if 5 ≤ t.2.2.2 then Jvm.Cond.methodLink q.1.cls idx (mm_mn' t.2.2.2) ∈ WS ∧ Jvm.Cond.static (mm_mn' t.2.2.2) ∈ WS ∧ Jvm.Cond.initialized "java/lang/Math" ∈ WS ∧ mm_mc t.2.2.2 ∈ WS
      else Jvm.Cond.static (CM t.2.2.1).1 ∈ WS ∧ (Jvm.Cond.methodLink q.1.cls idx (CM t.2.2.1).1 ∈ WS ∨ ∃ h, Jvm.Cond.methodLinkNest q.1.cls idx (CM t.2.2.1).1 h ∈ NW)
    | .invokevirtual idx => if t.2.2.2 = 8 then (∀ w ∈ vz_W, w ∈ WS) ∧ Jvm.Cond.methodLink q.1.cls idx (mm_sn t.2.2.1) ∈ WS
      else Jvm.Cond.instanceMethod (CM t.2.2.1).1 ∈ WS ∧ Jvm.Cond.selects (CM t.2.2.1).1.cls (CM t.2.2.1).1 (CM t.2.2.1).1 ∈ WS ∧ Jvm.Cond.methodLink q.1.cls idx (CM t.2.2.1).1 ∈ WS ∧ ∃ T N, cl[(CM t.2.2.1).2.2.2.2.2.2.1]? = some ((CM t.2.2.1).1.cls, T, N)
    | .invokespecial idx => if t.2.2.2 = 3 then Jvm.Cond.methodLink q.1.cls idx Lib.objectInit ∈ WS ∧ Jvm.Cond.instanceMethod Lib.objectInit ∈ WS ∧ Jvm.Cond.code Lib.objectInit ⟨#[0xb1]⟩ 1 none ∈ WS
      else (CM t.2.2.1).1.name = "<init>" ∧ (CM t.2.2.1).2.2.2.1 = none ∧ Jvm.Cond.instanceMethod (CM t.2.2.1).1 ∈ WS ∧ (Jvm.Cond.methodLink q.1.cls idx (CM t.2.2.1).1 ∈ WS ∨ ∃ h, Jvm.Cond.methodLinkNest q.1.cls idx (CM t.2.2.1).1 h ∈ NW)
    | .ldc idx => t.2.2.2 = 1 → q.1.cls = (mm_sk t.2.2.1).1 ∧ idx = (mm_sk t.2.2.1).2.1
    | _ => True
/-- one method -/
def mm_MO (ct : mm_CT) (CM : Nat → mm_Me) (cl : List vw_C) (WS NW : List Jvm.Cond) (q : mm_Me) : Prop :=
  plainName q.1.cls = true ∧ Jvm.Cond.code q.1 q.2.1 q.2.2.1 q.2.2.2.1 ∈ WS ∧ Jvm.Cond.initialized q.1.cls ∈ WS ∧ q.2.2.1 ≤ 41 ∧ (q.1.cls ≠ "java/lang/invoke/MethodHandle" ∧ q.1.cls ≠ "java/lang/invoke/VarHandle" ∧ (parseMethodDescriptor q.1.desc).map (fun d => d.parameters.length) = some q.2.2.2.2.2.1) ∧ mm_MC ct CM cl WS NW q
/-- a call's methods are all known -/
def mm_wsl (WS : List Jvm.Cond) (q : mm_Me) : List Jvm.Cond := Jvm.Cond.code q.1 q.2.1 q.2.2.1 q.2.2.2.1 :: WS
theorem mm_map_rev (f : Value → Value) (As r : List Value) : (As.reverse ++ r).map f = (As.map f).reverse ++ r.map f := by
  rw [List.map_append, List.map_reverse]
theorem mm_cat_map (ad : Nat → Nat) (r : List Value) : ((r.map (mm_rn ad)).map fun v => v.category) = r.map fun v => v.category := by
  rw [List.map_map]
  apply List.map_congr_left
  intro v _
  exact mm_rn_cat ad v
theorem mm_good {CM : Nat → mm_Me} {WS : List Jvm.Cond} (h : ∀ w ∈ WS, ((w.onTables && w.keeps) = true ∨ ∃ ty, w = .arrayClass ty)) {q : mm_Me} (hq : Jvm.Cond.code q.1 q.2.1 q.2.2.1 q.2.2.2.1 ∈ WS) : GoodIn WS (mm_wsl WS q) := by
  intro w hw
  rcases List.mem_cons.mp hw with rfl | hw
  · exact ⟨hq, Or.inl rfl⟩
  · exact ⟨hw, h w hw⟩
theorem mm_blind {base : Nat} {fo : Nat → Nat} {D : va_G} {cl : List vw_C} {cid : Nat → Nat} {NW : List Jvm.Cond} {zs : List (String × String × String × Value)} {vs : List Value} {M : mm_M} (hNW : ∀ w ∈ NW, ∀ u U : State, u.vm = U.vm → va_Nw w u → va_Nw w U) : FrameBlind (mm_Pc base fo D cl cid NW zs vs M) := by
  intro a U g mk q
  obtain ⟨h0, h1, h2, h3, h4, h5, h6, h7⟩ := q
  refine ⟨h0, h1, h2, h3, va_K.moved (u := U) (U := U.calling g mk a) (Vm.Alike.refl U.vm) h4, fun w hw => hNW w hw U _ rfl (h5 w hw), ⟨fun b hb hc => ?_, fun b hb => ?_⟩, fun k z hz => ?_⟩
  · exact va_T.moved (u := U) (U := U.calling g mk a) (Vm.Alike.refl U.vm) (h6.1 b hb hc)
  · obtain ⟨g1, ⟨v, g2⟩, g3⟩ := h6.2 b hb
    exact ⟨vk_R.same (u := U) (U := U.calling g mk a) rfl g1, ⟨v, vz_SA.moved (u := U) (U := U.calling g mk a) (Vm.Alike.refl U.vm) g2⟩, g3⟩
  · exact va_Z.moved (u := U) (U := U.calling g mk a) (Vm.Alike.refl U.vm) (h7 k z hz)
section MMC
variable {p : Program} {l : Launch} {e : Env} {R : Room} {s : State} {m : MethodId} {args : Array Value} {below : List Frame} {meth : Method} {c : Code} {H : Heap} {locs : List Loc} {cells slots : Nat} {Q : State → Prop}
variable {cc : ByteArray} {ls : Array Slot} {D : va_G} {cl : List vw_C} {cid : Nat → Nat} {base : Nat} {fo : Nat → Nat} {WS NW : List Jvm.Cond} {pc : Nat} {M : mm_M} {zs : List (String × String × String × Value)}
/-- what a callee may take as given -/
theorem mm_pre (hNW : ∀ w ∈ NW, (∀ u U : State, u.vm = U.vm → va_Nw w u → va_Nw w U) ∧ (∀ s U : State, s.WarmedH U.vm → va_Nw w s → va_Nw w U) ∧ ∀ (A : Array Value) (U : State), va_Nw w U → w.before A U = true) (hK : va_K D cl (mm_tys cid) s) (hP : va_P D cl (mm_ws cid (mm_ad base fo) M) H) (hsz : H.size = base + M.2.1.1) (hn : M.2.1.1 ≤ 1000000) (hS : va_S (fun q => base ≤ q) s.heap H locs) (hb0 : base ≤ s.heap.size) (hnw : ∀ w ∈ NW, va_Nw w s) (hFo : mm_Fo fo base M s s.heap) (hZs : mm_Zs zs (mm_ad base fo) base s s.heap) (vs : List Value) :
    ∀ U : State, U.heap = H → s.WarmedH U.vm → mm_Pc base fo D cl cid NW zs vs M (vs.map (mm_rn (mm_ad base fo))).toArray U := by
  intro U hU hW
  have hk : ∀ a : Nat, a < base → H[a]? = s.heap[a]? := fun a ha => hS.2.1 a (by omega) (by omega)
  refine ⟨rfl, by rw [hU]; exact hsz, hn, by rw [hU]; exact hP, va_K.moved hW.alike hK, fun w hw => (hNW w hw).2.1 s U hW (hnw w hw), ⟨fun a ha hc => ?_, fun a ha => ?_⟩, fun k z hz => ?_⟩
  · rw [hU]
    exact va_T.kept (va_T.moved hW.alike (hFo.1 a ha hc)) (fun a ha hA => hk a (by omega))
  · obtain ⟨g1, ⟨v, g2⟩, g3⟩ := hFo.2 a ha
    rw [hU]
    exact ⟨vk_R.warm hW g1, ⟨v, vz_SA.kept (vz_SA.moved hW.alike g2) (fun a ha hA => hk a (by omega))⟩, g3⟩
  · have := va_Z.moved hW.alike (hZs k z hz)
    rw [hU]
    exact va_Z.kept this (fun a ha hA => hk a (by omega))
/-- behind a call -/
theorem mm_back {mc ms : Nat} {r : List Value} {g : JFrame} {res : mm_Rs} {va : Array Value} {pc : Nat} {st0 : List Value} (hr : va_Run p l e R s m args below meth c H locs cells slots mc ms (F0 m pc ls st0) (r.map (mm_rn (mm_ad base fo))) (mm_Qc base fo D cl cid res va) (fun q => base ≤ q)) (hS : va_S (fun q => base ≤ q) s.heap H locs)
    (kk : ∀ (H1 : Heap) (locs1 : List Loc), H1.size = base + res.2.2.1.1 → va_P D cl (mm_ws cid (mm_ad base fo) res.2) H1 → va_S (fun q => base ≤ q) s.heap H1 locs1 → W p l e R s m args below meth c H1 locs1 (cells + mc) (slots + ms) Q (F0 m (pc + 3) ls ((res.1.toList ++ r).map (mm_rn (mm_ad base fo))))) : W p l e R s m args below meth c H locs cells slots Q (F0 m pc ls st0) := by
  intro T hT X
  obtain ⟨v, st₀, t, T', L, h0, X', hL, e1, e2, ⟨hv, q1, q2, q3⟩, st⟩ := hr T hT X
  have hv : v = res.1.map (mm_rn (mm_ad base fo)) := Outcome.returned.inj hv
  subst hv
  obtain ⟨t2, a1, b1⟩ := kk t.heap (locs ++ L) q1 q2 ⟨Nat.le_trans hS.1 (by rw [← h0]; exact q3.1), fun a h1 h2 => by
      rw [q3.2 a (by rw [h0]; exact Nat.lt_of_lt_of_le h1 hS.1) h2, h0]
      exact hS.2.1 a h1 h2, fun q hq => by
      rcases List.mem_append.mp hq with h | h
      · exact hS.2.2 q h
      · exact hL q h⟩ T' e1 X'
  refine ⟨t2, st t2 ?_, b1⟩
  have e9 : (res.1.toList ++ r).map (mm_rn (mm_ad base fo)) = (res.1.map (mm_rn (mm_ad base fo))).toList ++ r.map (mm_rn (mm_ad base fo)) := by
    rw [List.map_append]
    cases res.1 <;> rfl
  rw [e9] at a1
  exact a1
end MMC
