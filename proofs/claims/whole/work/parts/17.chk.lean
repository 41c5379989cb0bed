/-! The code lists are the code. -/
def mm_b1 (cc : ByteArray) (pc : Nat) (t : mm_In) : Bool := decide (decode cc pc = .ok (t.1, t.2.1)) && (mm_sw t.1 || decide (t.2.1 = mm_ln t.1)) && (match t.1 with
  | .ifCond _ off => decide ((pc : Int) + off = (t.2.2.1 : Int))
  | .if_icmp _ off => decide ((pc : Int) + off = (t.2.2.1 : Int))
  | .goto off => decide ((pc : Int) + off = (t.2.2.1 : Int))
  | .ifnull off => decide ((pc : Int) + off = (t.2.2.1 : Int))
  | .ifnonnull off => decide ((pc : Int) + off = (t.2.2.1 : Int))
  | .tableswitch d lo hi os => decide ((0 : Int) ≤ (pc : Int) + d) && decide ((os.size : Int) = hi - lo + 1) && os.toList.all (fun o => decide ((0 : Int) ≤ (pc : Int) + o))
  | _ => true)
def mm_sp (i : Instr) : Bool := match i with
  | .getfield _ => true
  | .putfield _ => true
  | .ldc _ => true
  | .ldc_w _ => true
  | .ldc2_w _ => true
  | .new _ => true
  | .newarray _ => true
  | .anewarray _ => true
  | .multianewarray _ _ => true
  | .getstatic _ => true
  | .invokestatic _ => true
  | .invokevirtual _ => true
  | .invokespecial _ => true
  | _ => false
def mm_cks (cc : ByteArray) : Nat → List (Option mm_In) → Bool
  | _, [] => true
  | k, none :: l => mm_cks cc (k + 1) l
  | k, some t :: l => mm_b1 cc k t && mm_cks cc (k + 1) l
def mm_spf : List (Option mm_In) → List mm_In
  | [] => []
  | none :: l => mm_spf l
  | some t :: l => if mm_sp t.1 = true then t :: mm_spf l else mm_spf l
def mm_Pq (ct : mm_CT) (CM : Nat → mm_Me) (cl : List vw_C) (WS NW : List Jvm.Cond) (cls name : String) (t : mm_In) : Prop := match t.1 with
  | .getfield idx => ∃ r : vw_C, cl[t.2.2.1]? = some r ∧ t.2.2.1 < 100 ∧ t.2.2.2 < r.2.2 ∧ Jvm.Cond.fieldLink cls idx (r.2.1 t.2.2.2).1 (r.2.1 t.2.2.2).2.1 (r.2.1 t.2.2.2).2.2.1 ∈ WS
  | .putfield idx => (∃ r : vw_C, cl[t.2.2.1]? = some r ∧ t.2.2.1 < 100 ∧ t.2.2.2 < r.2.2 ∧ Jvm.Cond.fieldLink cls idx (r.2.1 t.2.2.2).1 (r.2.1 t.2.2.2).2.1 (r.2.1 t.2.2.2).2.2.1 ∈ WS) ∧ (∀ r : vw_C, cl[t.2.2.1]? = some r → ct.2.2.1 t.2.2.1 t.2.2.2 = true → r.1 = cls)
  | .ldc idx => (t.2.1 = 2 ∧ (t.2.2.2 = 0 → Jvm.Cond.constant cls idx (Int32.ofNat t.2.2.1) ∈ WS)) ∧ (t.2.2.2 = 1 → cls = (mm_sk t.2.2.1).1 ∧ idx = (mm_sk t.2.2.1).2.1)
  | .ldc_w idx => t.2.1 = 3 ∧ Jvm.Cond.constant cls idx (Int32.ofNat t.2.2.1) ∈ WS
  | .ldc2_w idx => t.2.1 = 3 ∧ Jvm.Cond.constantLong cls idx (Int64.ofNat t.2.2.1) ∈ WS
  | .new idx => ∃ r : vw_C, cl[t.2.2.1]? = some r ∧ t.2.2.1 < 100 ∧ r.2.2 = t.2.2.2 ∧ Jvm.Cond.classLink cls idx r.1 ∈ WS ∧ Jvm.Cond.instantiable r.1 r.2.2 ∈ WS ∧ Jvm.Cond.initialized r.1 ∈ WS
  | .newarray ty => Jvm.Cond.arrayClass (newarray.typeOf ty) ∈ WS
  | .anewarray idx => (∃ C : String, mm_ty t.2.2.1 = .object C ∧ 104 ≤ t.2.2.1 ∧ t.2.2.1 < 106 ∧ Jvm.Cond.classLink cls idx C ∈ WS) ∧ (∀ C : String, mm_ty t.2.2.1 = .object C → Jvm.Cond.arrayOver (.object C) ∈ NW)
  | .multianewarray idx k => (k = 2 ∧ Jvm.Cond.classLink cls idx "[[I" ∈ WS ∧ Jvm.Cond.arrayClass .int ∈ WS) ∧ Jvm.Cond.arrayOver (.array .int) ∈ NW
  | .getstatic idx => ∀ z : String × String × String × Value, ct.2.2.2[t.2.2.1]? = some z → Jvm.Cond.fieldLink cls idx z.1 z.2.1 z.2.2.1 ∈ WS
  | .invokestatic idx => if t.2.2.2 = 4 then Jvm.Cond.methodLink cls idx arraycopyName ∈ WS ∧ Jvm.Cond.native arraycopyName ∈ WS ∧ Jvm.Cond.static arraycopyName ∈ WS ∧ Jvm.Cond.initialized "java/lang/System" ∈ WS
      else if 5 ≤ t.2.2.2 then Jvm.Cond.methodLink cls idx (mm_mn' t.2.2.2) ∈ WS ∧ Jvm.Cond.static (mm_mn' t.2.2.2) ∈ WS ∧ Jvm.Cond.initialized "java/lang/Math" ∈ WS ∧ mm_mc t.2.2.2 ∈ WS
      else Jvm.Cond.static (CM t.2.2.1).1 ∈ WS ∧ (Jvm.Cond.methodLink cls idx (CM t.2.2.1).1 ∈ WS ∨ ∃ h, Jvm.Cond.methodLinkNest cls idx (CM t.2.2.1).1 h ∈ NW)
  | .invokevirtual idx => if t.2.2.2 = 8 then (∀ w ∈ vz_W, w ∈ WS) ∧ Jvm.Cond.methodLink cls idx (mm_sn t.2.2.1) ∈ WS
      else Jvm.Cond.instanceMethod (CM t.2.2.1).1 ∈ WS ∧ Jvm.Cond.selects (CM t.2.2.1).1.cls (CM t.2.2.1).1 (CM t.2.2.1).1 ∈ WS ∧ Jvm.Cond.methodLink cls idx (CM t.2.2.1).1 ∈ WS ∧ ∃ T N, cl[(CM t.2.2.1).2.2.2.2.2.2.1]? = some ((CM t.2.2.1).1.cls, T, N)
  | .invokespecial idx => if t.2.2.2 = 3 then Jvm.Cond.methodLink cls idx Lib.objectInit ∈ WS ∧ Jvm.Cond.instanceMethod Lib.objectInit ∈ WS ∧ Jvm.Cond.code Lib.objectInit ⟨#[0xb1]⟩ 1 none ∈ WS
      else (CM t.2.2.1).1.name = "<init>" ∧ (CM t.2.2.1).2.2.2.1 = none ∧ Jvm.Cond.instanceMethod (CM t.2.2.1).1 ∈ WS ∧ (Jvm.Cond.methodLink cls idx (CM t.2.2.1).1 ∈ WS ∨ ∃ h, Jvm.Cond.methodLinkNest cls idx (CM t.2.2.1).1 h ∈ NW)
  | _ => True
theorem mm_cks_at {cc : ByteArray} : ∀ (l : List (Option mm_In)) (k pc : Nat) (t : mm_In), mm_cks cc k l = true → mm_nth l pc = some (some t) → mm_b1 cc (k + pc) t = true
  | [], _, _, _, _, h => by cases h
  | none :: l, k, pc, t, hc, h => by
    cases pc with
    | zero => cases h
    | succ pc =>
      have := mm_cks_at l (k + 1) pc t hc h
      rw [show k + 1 + pc = k + (pc + 1) by omega] at this
      exact this
  | some u :: l, k, pc, t, hc, h => by
    rw [mm_cks, Bool.and_eq_true] at hc
    cases pc with
    | zero => cases h; exact hc.1
    | succ pc =>
      have := mm_cks_at l (k + 1) pc t hc.2 h
      rw [show k + 1 + pc = k + (pc + 1) by omega] at this
      exact this
theorem mm_cks_app {cc : ByteArray} {a b : List (Option mm_In)} {k k2 : Nat} (h1 : mm_cks cc k a = true) (hl : k + a.length = k2) (h2 : mm_cks cc k2 b = true) : mm_cks cc k (a ++ b) = true := by
  subst hl
  induction a generalizing k with
  | nil => exact h2
  | cons o a ih =>
    have e : k + (a.length + 1) = k + 1 + a.length := by omega
    cases o with
    | none =>
      show mm_cks cc (k + 1) (a ++ b) = true
      exact ih h1 (by rw [← e]; exact h2)
    | some t =>
      rw [mm_cks, Bool.and_eq_true] at h1
      show mm_cks cc k (some t :: (a ++ b)) = true
      rw [mm_cks, Bool.and_eq_true]
      exact ⟨h1.1, ih h1.2 (by rw [← e]; exact h2)⟩
theorem mm_spf_at : ∀ (l : List (Option mm_In)) (pc : Nat) (t : mm_In), mm_nth l pc = some (some t) → mm_sp t.1 = true → t ∈ mm_spf l
  | [], _, _, h, _ => by cases h
  | none :: l, pc, t, h, hs => by
    cases pc with
    | zero => cases h
    | succ pc => exact mm_spf_at l pc t h hs
  | some u :: l, pc, t, h, hs => by
    unfold mm_spf
    cases pc with
    | zero =>
      cases h
      rw [if_pos hs]
      exact List.mem_cons_self
    | succ pc =>
      have := mm_spf_at l pc t h hs
      split
      · exact List.mem_cons_of_mem _ this
      · exact this
set_option maxHeartbeats 1000000 in
theorem mm_MC_of {ct : mm_CT} {CM : Nat → mm_Me} {cl : List vw_C} {WS NW : List Jvm.Cond} {q : mm_Me} {cd : List (Option mm_In)} (ho : q.2.2.2.2.1 = q.1.cls) (hc : q.2.2.2.2.2.2.2 = mm_cf cd) (hb : mm_cks q.2.1 0 cd = true) (hs : ∀ t ∈ mm_spf cd, mm_Pq ct CM cl WS NW q.1.cls q.1.name t) : mm_MC ct CM cl WS NW q := by
  refine ⟨ho, fun pc t h => ?_⟩
  rw [hc] at h
  have hn : mm_nth cd pc = some (some t) := by
    unfold mm_cf at h
    split at h
    · rename_i u e
      cases h
      exact e
    · cases h
  have h1 := mm_cks_at cd 0 pc t hb hn
  rw [Nat.zero_add] at h1
  unfold mm_b1 at h1
  rw [Bool.and_eq_true, Bool.and_eq_true] at h1
  obtain ⟨⟨h2, h3⟩, h4⟩ := h1
  have h2 := of_decide_eq_true h2
  have h3 : mm_sw t.1 = true ∨ t.2.1 = mm_ln t.1 := by
    rcases (Bool.or_eq_true _ _).mp h3 with g | g
    · exact Or.inl g
    · exact Or.inr (of_decide_eq_true g)
  have h5 : mm_sp t.1 = true → mm_Pq ct CM cl WS NW q.1.cls q.1.name t := fun g => hs t (mm_spf_at cd pc t hn g)
  obtain ⟨i, ln, r1, r2⟩ := t
  rw [← ho] at h5
  refine ⟨⟨h2, ?_⟩, h3, ?_⟩
  · dsimp only at h3 h4 h5 ⊢
    split
    · exact h5 rfl
    · exact (h5 rfl).1
    · exact ⟨of_decide_eq_true h4, by rcases h3 with g | g; cases g; exact g⟩
    · exact ⟨of_decide_eq_true h4, by rcases h3 with g | g; cases g; exact g⟩
    · exact ⟨of_decide_eq_true h4, by rcases h3 with g | g; cases g; exact g⟩
    · exact ⟨of_decide_eq_true h4, by rcases h3 with g | g; cases g; exact g⟩
    · exact ⟨of_decide_eq_true h4, by rcases h3 with g | g; cases g; exact g⟩
    · exact (h5 rfl).1
    · exact h5 rfl
    · exact h5 rfl
    · dsimp only at h4
      rw [Bool.and_eq_true, Bool.and_eq_true] at h4
      exact ⟨of_decide_eq_true h4.1.1, of_decide_eq_true h4.1.2, fun o ho => of_decide_eq_true (List.all_eq_true.mp h4.2 o ho)⟩
    · exact h5 rfl
    · exact h5 rfl
    · exact (h5 rfl).1
    · exact (h5 rfl).1
    · trivial
  · dsimp only at h5 ⊢
    rw [ho] at h5
    split
    · exact fun r g1 g2 _ => (h5 rfl).2 r g1 g2
    · exact (h5 rfl).2
    · exact (h5 rfl).2
    · exact h5 rfl
    · exact h5 rfl
    · exact h5 rfl
    · exact h5 rfl
    · exact (h5 rfl).2
    · trivial
theorem mm_dch {ty : FieldType} {t : Nat} (h : (ty = .int ∧ t = 0) ∨ (ty = .boolean ∧ t = 0) ∨ (ty = .long ∧ t = 1) ∨ (ty.isReference = true ∧ t = 2)) (M : mm_M) (ci N sl k : Nat) (tm : List Nat) : defaultValue ty = mm_sv (mm_al M ci N sl tm) M.2.1.1 k t := by
  rcases h with ⟨rfl, rfl⟩ | ⟨rfl, rfl⟩ | ⟨rfl, rfl⟩ | ⟨h, rfl⟩
  · simp [mm_sv, mm_al, mm_u1, defaultValue]
  · simp [mm_sv, mm_al, mm_u1, defaultValue]
  · simp [mm_sv, mm_al, mm_u1, defaultValue]
  · cases ty <;> first | rfl | cases h
theorem mm_AOA_moved {t : FieldType} {u U : State} (hvm : u.vm.Alike U.vm) (h : va_Nw (.arrayOver (.array t)) u) : va_Nw (.arrayOver (.array t)) U := by
  obtain ⟨comp, c, k, h1, h2, h3, h4, h5⟩ := arrayOverA_spec h
  obtain ⟨k', hk', he⟩ := hvm.2.2 _ _ h3
  have hi : (U.vm.classes.findIdx? fun (x : Class) => match x.kind with | .array component _ => component == comp | _ => false) = some c := by
    have e1 := va_idx_bare U.vm comp
    have e2 := va_idx_bare u.vm comp
    first | rw [hvm.bare_eq] at e2 | rw [← hvm.bare_eq] at e2
    exact e1.symm.trans (e2.trans h2)
  have hkind : k'.kind = .array comp (.array t) := by rw [he]; exact h4
  have f1 : U.vm.findClass (FieldType.array t).toString = some comp := by rw [hvm.findClass]; exact h1
  have f2 : U.vm.findClass ("[" ++ (FieldType.array t).toString) = some c := by rw [hvm.findClass]; exact h5
  unfold va_Nw Cond.before Cond.holds
  simp only [Cond.value]
  rw [f1, Option.bind_some]
  refine (congrArg (fun o : Option Nat => (o.bind (fun c => (U.vm.classes[c]?).map fun (k : Class) => match k.kind with | .array _ ty => decide (ty = FieldType.array t) && decide (U.vm.findClass ("[" ++ (FieldType.array t).toString) = some c) | _ => false) == some true)) hi).trans ?_
  simp [hk', hkind, f2]
