/-! New arrays of arrays, in one run of addresses; copying between int arrays. -/
def mm_mn (M : mm_M) (N K : Nat) : mm_M := (fun b => if b = M.2.1.1 then (103, N, (List.range N).map (fun j => M.2.1.1 + 1 + j + 3)) else if M.2.1.1 < b ∧ b < M.2.1.1 + 1 + N then (100, K, []) else M.1 b, (M.2.1.1 + 1 + N, M.2.1.2 + N + N * K), fun b => if M.2.1.1 ≤ b ∧ b < M.2.1.1 + 1 + N then (fun _ => 0) else M.2.2.1 b, fun b => if M.2.1.1 ≤ b ∧ b < M.2.1.1 + 1 + N then (fun _ => 0) else M.2.2.2 b)
theorem mm_outer (c : ClassId) (N h0 : Nat) : ∀ i : Nat, Jvm.Free.Multi.outerC c N h0 i = arrV c N (fun j => va_rf (if j < i then some (h0 + 1 + j) else none))
  | 0 => by
    show ({ cls := c, slots := Array.replicate N .null, vm := .none } : Cell) = _
    rw [arrV_new]
    refine congrArg (arrV c N) (funext fun j => ?_)
    simp [va_rf]
  | i + 1 => by
    show (Jvm.Free.Multi.outerC c N h0 i).setSlot i (.ref (h0 + 1 + i)) = _
    rw [mm_outer c N h0 i, arrV_store]
    refine congrArg (arrV c N) (funext fun j => ?_)
    by_cases e : j = i
    · subst e
      simp [updV, va_rf]
    · by_cases h : j < i
      · simp [updV, e, h, Nat.lt_succ_of_lt h]
      · simp [updV, e, h, show ¬ j < i + 1 by omega]
theorem mm_arrV_congr {c : ClassId} {N : Nat} {f g : Nat → Value} (h : ∀ j, j < N → f j = g j) : arrV c N f = arrV c N g := by
  unfold arrV
  congr 1
  apply Array.ext
  · simp
  · intro i h1 h2
    simp at h1
    simp [h i h1]
section MMN
variable {p : Program} {l : Launch} {e : Env} {R : Room} {s : State} {m : MethodId} {args : Array Value} {below : List Frame} {meth : Method} {c : Code} {H : Heap} {locs : List Loc} {cells slots : Nat} {Q : State → Prop}
variable {cc : ByteArray} {ls : Array Slot} {D : va_G} {cl : List vw_C} {cid : Nat → Nat} {base : Nat} {fo : Nat → Nat} {WS : List Jvm.Cond} {own : String} {pc : Nat} {M : mm_M} {rest : List Value} {H0 : Heap}
theorem mm_mna (hx : p.tables.exec = Jvm.exec) (hb : c.code = cc) (hown : s.vm.findClass own = some m.cls) (hK : va_K D cl (mm_tys cid) s) (hP : va_P D cl (mm_ws cid (mm_ad base fo) M) H) (hsz : H.size = base + M.2.1.1) (hS : va_S (fun q => base ≤ q) H0 H locs)
    {idx : Nat} (hclink : (Jvm.Cond.classLink own idx ("[" ++ (FieldType.array .int).toString)).before args s = true) (hover : (Jvm.Cond.arrayOver (.array .int)).before args s = true) (harr : (Jvm.Cond.arrayClass .int).before args s = true) {n k : Int32} {N K : Nat} (hn0 : ¬ n < 0) (hk0 : ¬ k < 0) (hN : n.toNatClampNeg = N) (hKK : k.toNatClampNeg = K) (hn : M.2.1.1 + 1 + N < 1000000) (hKb : K ≤ 1000000) (hcells : cells + (1 + N) ≤ R.cells) (hslots : slots + (N + N * K) ≤ R.slots) (hdg : decode cc pc = .ok (.multianewarray idx 2, 4))
    (kk : ∀ (H1 : Heap), H1.size = base + M.2.1.1 + 1 + N → va_P D cl (mm_ws cid (mm_ad base fo) (mm_mn M N K)) H1 → va_S (fun q => base ≤ q) H0 H1 locs → W p l e R s m args below meth c H1 locs (cells + 1 + N) (slots + N + N * K) Q (F0 m (pc + 4) ls (.ref (mm_ad base fo M.2.1.1) :: rest))) : W p l e R s m args below meth c H locs cells slots Q (F0 m pc ls (.int k :: .int n :: rest)) := by
  subst hN
  subst hKK
  intro T hT Xs
  obtain ⟨vm₁, cA, comp, -, fA, fC, -, -, X', step⟩ := Xs.multianewarray2F hx hown hclink hover harr (g := F0 m pc ls (.int k :: .int n :: rest)) rfl (by rw [hb]; exact hdg) rfl hn0 hk0 (by omega) (by simp only [componentBytes]; omega) (by omega) rfl rfl hcells hslots
  generalize hF : Jvm.Free.Multi.fill (T.setVm vm₁) cA comp n.toNatClampNeg k.toNatClampNeg (defaultValue .int) n.toNatClampNeg = F at X' step
  have hTh : (T.setVm vm₁).heap = H := hT
  obtain ⟨f1, f2, -, -⟩ := Jvm.Free.Multi.fill_facts (T.setVm vm₁) cA comp n.toNatClampNeg k.toNatClampNeg (defaultValue .int) n.toNatClampNeg
  rw [hF, hTh] at f1 f2
  have hold : ∀ x : Nat, x < H.size → F.heap[x]? = H[x]? := fun x hx => by
    have := Jvm.Free.Multi.fill_old (T.setVm vm₁) cA comp n.toNatClampNeg k.toNatClampNeg (defaultValue .int) (a := x) (by rw [hTh]; exact hx) n.toNatClampNeg
    rw [hF, hTh] at this
    exact this
  have hrow : ∀ j : Nat, j < n.toNatClampNeg → F.heap[H.size + 1 + j]? = some (arrV comp k.toNatClampNeg (fun _ => .int 0)) := fun j hj => by
    have := Jvm.Free.Multi.fill_inner (T.setVm vm₁) cA comp n.toNatClampNeg k.toNatClampNeg (defaultValue .int) n.toNatClampNeg j hj
    rw [hF, hTh] at this
    rw [this]
    exact congrArg some (arrV_new comp k.toNatClampNeg (.int 0))
  have hcomp : cid 100 = comp := Option.some.inj ((hK.2 0 _ rfl).2.symm.trans fC)
  have hcA : cid 103 = cA := Option.some.inj ((hK.2 3 _ rfl).2.symm.trans fA)
  have hA0 : mm_ad base fo M.2.1.1 = H.size := by rw [mm_ad_lt (by omega), hsz]
  have hPn : va_P D cl (mm_ws cid (mm_ad base fo) (mm_mn M n.toNatClampNeg k.toNatClampNeg)) F.heap := by
    intro j q hj
    have hjn : j < M.2.1.1 + 1 + n.toNatClampNeg := by
      have := (List.getElem?_eq_some_iff.mp hj).1
      unfold mm_ws mm_mn at this
      simpa using this
    rw [mm_ws_at (show j < (mm_mn M n.toNatClampNeg k.toNatClampNeg).2.1.1 from hjn)] at hj
    cases hj
    rcases (by omega : j < M.2.1.1 ∨ j = M.2.1.1 ∨ M.2.1.1 < j) with h | h | h
    · have hx := hP j _ (mm_ws_at h)
      rw [mm_E_congr (M := M) (M' := mm_mn M n.toNatClampNeg k.toNatClampNeg) (by simp [mm_mn, show j ≠ M.2.1.1 by omega, show ¬ M.2.1.1 < j by omega]) (by simp [mm_mn, show ¬ M.2.1.1 ≤ j by omega]) (by simp [mm_mn, show ¬ M.2.1.1 ≤ j by omega])]
      exact hx.kept (hold _ hx.lt)
    · subst h
      have e0 : (mm_mn M n.toNatClampNeg k.toNatClampNeg).1 M.2.1.1 = (103, n.toNatClampNeg, (List.range n.toNatClampNeg).map (fun j => M.2.1.1 + 1 + j + 3)) := by simp [mm_mn]
      rw [mm_Aq (show M.2.1.1 < (mm_mn M n.toNatClampNeg k.toNatClampNeg).2.1.1 from hjn) (by rw [e0]; exact Nat.le_refl 103), e0]
      show F.heap[_]? = some (vp_cell (cid 103) _)
      rw [hA0, f2, vp_cell_q, hcA, mm_outer]
      refine congrArg some (mm_arrV_congr fun j hj => ?_)
      rw [if_pos hj, List.getD_eq_getElem?_getD, List.getElem?_map, List.getElem?_range hj]
      show va_rf (some (H.size + 1 + j)) = va_rf (some (mm_ad base fo (M.2.1.1 + 1 + j)))
      rw [mm_ad_lt (by omega), hsz]
      congr 2
      omega
    · obtain ⟨d, rfl⟩ : ∃ d, j = M.2.1.1 + 1 + d := ⟨j - M.2.1.1 - 1, by omega⟩
      have e0 : (mm_mn M n.toNatClampNeg k.toNatClampNeg).1 (M.2.1.1 + 1 + d) = (100, k.toNatClampNeg, []) := by
        simp only [mm_mn]
        rw [if_neg (by omega), if_pos (by omega)]
      have g0 : (mm_mn M n.toNatClampNeg k.toNatClampNeg).2.2.1 (M.2.1.1 + 1 + d) = fun _ => 0 := by
        simp only [mm_mn]
        rw [if_pos (by omega)]
      rw [mm_A100 hjn (by rw [e0]), e0, g0]
      show F.heap[_]? = some (vp_cell (cid 100) _)
      rw [mm_ad_lt (by omega), show base + (M.2.1.1 + 1 + d) = H.size + 1 + d by omega, hrow d (by omega), hcomp]
      rfl
  obtain ⟨t, a1, b1⟩ := kk F.heap (by rw [f1, hsz]) hPn ⟨by rw [f1]; have := hS.1; omega, fun x h1 h2 => (hold x (Nat.lt_of_lt_of_le h1 hS.1)).trans (hS.2.1 x h1 h2), hS.2.2⟩ F rfl X'
  refine ⟨t, step t ?_, b1⟩
  have e : T.heap.size = H.size := by rw [hT]
  rw [e, ← hA0]
  exact a1
theorem mm_copy (hx : p.tables.exec = Jvm.exec) (hb : c.code = cc) (hml : c.maxLocals = ls.size) (hown : s.vm.findClass own = some m.cls) {idx : Nat} (hlink : (Jvm.Cond.methodLink own idx arraycopyName).before args s = true) (hnat : (Jvm.Cond.native arraycopyName).before args s = true) (hstat : (Jvm.Cond.static arraycopyName).before args s = true) (hini : (Jvm.Cond.initialized "java/lang/System").before args s = true)
    (hK : va_K D cl (mm_tys cid) s) (hP : va_P D cl (mm_ws cid (mm_ad base fo) M) H) (hn : M.2.1.1 ≤ 1000000) (hS : va_S (fun q => base ≤ q) H0 H locs) {a0 a : Nat} (ha0 : a0 < M.2.1.1) (hc0 : (M.1 a0).1 = 100) (ha : a < M.2.1.1) (hc1 : (M.1 a).1 = 100) {sp dp n : Int32} (h1 : ¬ sp < 0) (h2 : ¬ dp < 0) (h3 : ¬ n < 0) (h4 : sp.toNatClampNeg + n.toNatClampNeg ≤ (M.1 a0).2.1) (h5 : dp.toNatClampNeg + n.toNatClampNeg ≤ (M.1 a).2.1)
    (hframes : 1 ≤ R.frames) (hlocals : (rest.map fun v => v.category).sum + (nativeFrameWords "java/lang/System" "arraycopy" 5 + 11) ≤ R.locals) (hdg : decode cc pc = .ok (.invokestatic idx, 3))
    (kk : ∀ (H1 : Heap) (locs1 : List Loc), H1.size = H.size → va_P D cl (mm_ws cid (mm_ad base fo) (M.1, M.2.1, mm_u1 M.2.2.1 a (va_cpy (M.2.2.1 a0) (M.2.2.1 a) sp.toNatClampNeg dp.toNatClampNeg n.toNatClampNeg), M.2.2.2)) H1 → va_S (fun q => base ≤ q) H0 H1 locs1 → W p l e R s m args below meth c H1 locs1 cells slots Q (F0 m (pc + 3) ls rest)) : W p l e R s m args below meth c H locs cells slots Q (F0 m pc ls (.int n :: .int dp :: .ref (mm_ad base fo a) :: .int sp :: .ref (mm_ad base fo a0) :: rest)) := by
  have nn : ∀ z : Int32, ¬ z < 0 → z.toInt = (z.toNatClampNeg : Int) := by
    intro z hz
    have hz0 : (0 : Int) ≤ z.toInt := by
      have := Int32.not_lt.mp hz
      simpa using Int32.le_iff_toInt_le.mp this
    show z.toInt = ((z.toInt.toNat : Nat) : Int)
    omega
  intro T hT X
  have hcell0 := hP a0 _ (mm_ws_at ha0)
  rw [mm_A100 ha0 hc0] at hcell0
  have hcell1 := hP a _ (mm_ws_at ha)
  rw [mm_A100 ha hc1] at hcell1
  have hcell0 : H[mm_ad base fo a0]? = some (vp_cell (cid 100) ((M.1 a0).2.1, .inl (M.2.2.1 a0))) := hcell0
  have hcell1 : H[mm_ad base fo a]? = some (vp_cell (cid 100) ((M.1 a).2.1, .inl (M.2.2.1 a))) := hcell1
  generalize hn0 : (M.1 a0).2.1 = n0 at hcell0 h4
  generalize hn1 : (M.1 a).2.1 = n1 at hcell1 h5
  generalize hf : M.2.2.1 a0 = f at hcell0 kk
  generalize hg : M.2.2.1 a = g at hcell1 kk
  obtain ⟨-, k0, hk0, cm0, hkk0⟩ := (hK.2 0 _ rfl).1 n0 (fun j => .int (f j))
  obtain ⟨-, k1, hk1, cm1, hkk1⟩ := (hK.2 0 _ rfl).1 n1 (fun j => .int (g j))
  obtain ⟨vm', X', step⟩ := X.arraycopy hx hown hlink hnat hstat hini (src := mm_ad base fo a0) (dst := mm_ad base fo a) (cs := vp_cell (cid 100) (n0, .inl f)) (cd := vp_cell (cid 100) (n1, .inl g)) (srcPos := sp) (destPos := dp) (n := n) (by rw [hT]; exact hcell0) (by rw [hT]; exact hcell1)
    (fun _ h => by cases h) (fun _ h => by cases h) (fun h => by cases h) (fun h => by cases h) hk0 hk1 hkk0 hkk1 (by simp [mm_ty, refKind]) h1 h2 h3
    (by rw [nn sp h1, nn n h3]; show ¬ _ > ((arrV (cid 100) n0 (fun j => .int (f j))).slots.size : Int); rw [arrV_size]; omega)
    (by rw [nn dp h2, nn n h3]; show ¬ _ > ((arrV (cid 100) n1 (fun j => .int (g j))).slots.size : Int); rw [arrV_size]; omega)
    (fun vm₁ _ i hi => by
      have e : (vp_cell (cid 100) (n0, .inl f)).slots.getD (sp.toNatClampNeg + i) .null = .int (f (sp.toNatClampNeg + i)) := by
        show (arrV (cid 100) n0 (fun j => .int (f j))).slots.getD _ _ = _
        rw [Array.getD_eq_getD_getElem?, arrV_read _ _ (by omega)]
        rfl
      refine ⟨?_, ?_⟩
      · rw [e]
        rfl
      · rw [e]
        exact trivial)
    (g := F0 m pc ls (.int n :: .int dp :: .ref (mm_ad base fo a) :: .int sp :: .ref (mm_ad base fo a0) :: rest)) rfl (by rw [hml]) (rest := rest) rfl (by rw [hb]; exact hdg) hframes (by show 2 * 0 + _ + _ ≤ _; omega)
  have e1 : copied (vp_cell (cid 100) (n0, .inl f)) (vp_cell (cid 100) (n1, .inl g)) sp dp n = vp_cell (cid 100) (n1, .inl (va_cpy f g sp.toNatClampNeg dp.toNatClampNeg n.toNatClampNeg)) := va_copied (fun z => .int z) (cid 100) (cid 100) f g h4
  rw [e1] at X' step
  have hl : mm_ad base fo a < H.size := (Array.getElem?_eq_some_iff.mp hcell1).1
  generalize hcl1 : vp_cell (cid 100) (n1, .inl (va_cpy f g sp.toNatClampNeg dp.toNatClampNeg n.toNatClampNeg)) = nc at X' step
  have hheap : ((T.setVm vm').setCell (mm_ad base fo a) nc).heap = H.setIfInBounds (mm_ad base fo a) nc := by rw [← hT]; rfl
  have oq : ∀ q : Nat, q ≠ mm_ad base fo a → (H.setIfInBounds (mm_ad base fo a) nc)[q]? = H[q]? := fun q hq => by simp [Array.getElem?_setIfInBounds, Ne.symm hq]
  have hAa : base ≤ mm_ad base fo a := by
    rw [mm_ad_lt (by omega)]
    exact Nat.le_add_right _ _
  obtain ⟨t, a1, b1⟩ := kk _ _ (by simp) (mm_P_upd (a := a) hP (mm_inj hn ha) rfl (fun b hb => mm_E_congr rfl (mm_u1_ne hb) rfl) (by
      rw [mm_A100 (M := (M.1, M.2.1, mm_u1 M.2.2.1 a (va_cpy f g sp.toNatClampNeg dp.toNatClampNeg n.toNatClampNeg), M.2.2.2)) ha hc1]
      show (H.setIfInBounds (mm_ad base fo a) nc)[mm_ad base fo a]? = some (vp_cell (cid 100) ((M.1 a).2.1, .inl (mm_u1 M.2.2.1 a (va_cpy f g sp.toNatClampNeg dp.toNatClampNeg n.toNatClampNeg) a)))
      rw [mm_u1_eq, hn1, hcl1]
      simp [Array.getElem?_setIfInBounds, hl]) oq) ⟨by simp; exact hS.1, fun q g1 g2 => by
      rw [oq q (fun e => g2 (by rw [e]; exact hAa))]
      exact hS.2.1 q g1 g2, fun q hq => by
      rcases List.mem_append.mp hq with h | h
      · exact hS.2.2 q h
      · obtain ⟨z, -, hz⟩ := List.mem_map.mp h
        rw [← hz]
        exact hAa⟩ _ hheap X'
  exact ⟨t, step t a1, b1⟩
end MMN
