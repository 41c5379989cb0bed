/-! The small machine's locals and memory over the machine's, and its silent steps. -/
def mm_Lc (ad : Nat → Nat) (L : List (Option Value)) (ls : Array Slot) : Prop := ls.size = L.length ∧ lv_wf ls ∧ ∀ (i : Nat) (v : Value), mm_nth L i = some (some v) → ls[i]? = some (.val (mm_rn ad v))
def mm_as (ad : Nat → Nat) (L : List (Option Value)) : List (Nat × Value) := (List.range L.length).filterMap (fun i => match mm_nth L i with
  | some (some v) => some (i, mm_rn ad v)
  | _ => none)
theorem mm_as_mem {ad : Nat → Nat} {L : List (Option Value)} {q : Nat × Value} : q ∈ mm_as ad L ↔ ∃ v, mm_nth L q.1 = some (some v) ∧ q.2 = mm_rn ad v := by
  unfold mm_as
  rw [List.mem_filterMap]
  constructor
  · rintro ⟨i, -, h⟩
    revert h
    cases hq : mm_nth L i with
    | none => intro h; cases h
    | some o =>
      cases o with
      | none => intro h; cases h
      | some v => intro h; cases h; exact ⟨v, hq, rfl⟩
  · rintro ⟨v, h, e⟩
    refine ⟨q.1, ?_, ?_⟩
    · rw [mm_nth_eq] at h
      exact List.mem_range.mpr (List.getElem?_eq_some_iff.mp h).1
    · rw [h]
      show some (q.1, mm_rn ad v) = some q
      rw [← e]
theorem mm_Lc_has {ad : Nat → Nat} {L : List (Option Value)} {ls : Array Slot} (h : mm_Lc ad L ls) : lv_has ls L.length (mm_as ad L) := by
  refine ⟨h.1, h.2.1, fun q hq => ?_⟩
  obtain ⟨v, h1, h2⟩ := mm_as_mem.mp hq
  rw [h2]
  exact h.2.2 _ _ h1
theorem mm_rn_cat (ad : Nat → Nat) (v : Value) : (mm_rn ad v).category = v.category := by cases v <;> rfl
theorem mm_kl_len (L : List (Option Value)) (i : Nat) : (mm_kl L i).length = L.length := by
  unfold mm_kl
  split
  · rfl
  · split <;> simp
theorem mm_kl_get {L : List (Option Value)} {i j : Nat} {v : Value} (h : mm_nth (mm_kl L i) j = some (some v)) : mm_nth L j = some (some v) ∧ ¬ (j + 1 = i ∧ v.category = 2) := by
  have set' : ∀ k, mm_nth (L.set k none) j = some (some v) → k ≠ j ∧ mm_nth L j = some (some v) := by
    intro k hk
    rw [mm_nth_eq] at hk
    by_cases e : k = j
    · subst e
      rw [List.getElem?_set] at hk
      simp at hk
    · rw [List.getElem?_set_ne e] at hk
      exact ⟨e, by rw [mm_nth_eq]; exact hk⟩
  unfold mm_kl at h
  split at h
  · exact ⟨h, by rintro ⟨a, -⟩; omega⟩
  · rename_i k
    split at h
    · obtain ⟨a, b⟩ := set' k h
      exact ⟨b, by rintro ⟨c, -⟩; omega⟩
    · obtain ⟨a, b⟩ := set' k h
      exact ⟨b, by rintro ⟨c, -⟩; omega⟩
    · rename_i n1 n2
      refine ⟨h, ?_⟩
      rintro ⟨c, d⟩
      have : k = j := by omega
      subst this
      cases v <;> simp [Value.category] at d
      · exact n1 _ h
      · exact n2 _ h
theorem mm_s1_ok {ad : Nat → Nat} {L : List (Option Value)} {i : Nat} {v : Value} {ls' : Array Slot} (hi : i < L.length) (h : lv_has ls' L.length ((i, mm_rn ad v) :: (mm_as ad L).filter (fun q => !(q.1 == i) && !(q.1 + 1 == i && q.2.category == 2)))) : mm_Lc ad (mm_s1 L i v) ls' := by
  refine ⟨?_, h.2.1, fun j w hj => ?_⟩
  · rw [h.1]
    unfold mm_s1
    rw [List.length_set, mm_kl_len]
  · unfold mm_s1 at hj
    by_cases e : i = j
    · subst e
      rw [mm_nth_eq, List.getElem?_set_self (by rw [mm_kl_len]; exact hi)] at hj
      cases hj
      exact h.2.2 (i, mm_rn ad v) List.mem_cons_self
    · rw [mm_nth_eq, List.getElem?_set_ne e, ← mm_nth_eq] at hj
      obtain ⟨a, b⟩ := mm_kl_get hj
      refine h.2.2 (j, mm_rn ad w) (List.mem_cons_of_mem _ (List.mem_filter.mpr ⟨mm_as_mem.mpr ⟨w, a, rfl⟩, ?_⟩))
      simp only [mm_rn_cat, Bool.and_eq_true, Bool.not_eq_true', beq_eq_false_iff_ne, ne_eq, Bool.and_eq_false_iff]
      refine ⟨fun q => e q.symm, ?_⟩
      by_cases g : j + 1 = i
      · exact Or.inr (fun q => b ⟨g, q⟩)
      · exact Or.inl g
theorem mm_s2_ok {ad : Nat → Nat} {L : List (Option Value)} {i : Nat} {v : Value} {ls' : Array Slot} (hi : i + 1 < L.length) (h : lv_has ls' L.length ((i, mm_rn ad v) :: (mm_as ad L).filter (fun q => !(q.1 == i) && (!(q.1 == i + 1) && !(q.1 + 1 == i && q.2.category == 2))))) : mm_Lc ad (mm_s2 L i v) ls' := by
  refine ⟨?_, h.2.1, fun j w hj => ?_⟩
  · rw [h.1]
    unfold mm_s2
    rw [List.length_set, List.length_set, mm_kl_len]
  · unfold mm_s2 at hj
    by_cases e2 : i + 1 = j
    · subst e2
      rw [mm_nth_eq, List.getElem?_set_self (by rw [List.length_set, mm_kl_len]; exact hi)] at hj
      cases hj
    · rw [mm_nth_eq, List.getElem?_set_ne e2] at hj
      by_cases e : i = j
      · subst e
        rw [List.getElem?_set_self (by rw [mm_kl_len]; omega)] at hj
        cases hj
        exact h.2.2 (i, mm_rn ad v) List.mem_cons_self
      · rw [List.getElem?_set_ne e, ← mm_nth_eq] at hj
        obtain ⟨a, b⟩ := mm_kl_get hj
        refine h.2.2 (j, mm_rn ad w) (List.mem_cons_of_mem _ (List.mem_filter.mpr ⟨mm_as_mem.mpr ⟨w, a, rfl⟩, ?_⟩))
        simp only [mm_rn_cat, Bool.and_eq_true, Bool.not_eq_true', beq_eq_false_iff_ne, ne_eq, Bool.and_eq_false_iff]
        refine ⟨fun q => e q.symm, fun q => e2 q.symm, ?_⟩
        by_cases g : j + 1 = i
        · exact Or.inr (fun q => b ⟨g, q⟩)
        · exact Or.inl g
/-- the cells -/
def mm_ar (ad : Nat → Nat) (M : mm_M) (a : Nat) : vp_A := match (M.1 a).1 with
  | 100 => ((M.1 a).2.1, .inl (M.2.2.1 a))
  | 101 => ((M.1 a).2.1, .inr (.inl (M.2.2.2 a)))
  | 102 => ((M.1 a).2.1, .inl (M.2.2.1 a))
  | _ => ((M.1 a).2.1, .inr (.inr (.inr (.inr (fun j => mm_or ad ((M.1 a).2.2.getD j 2))))))
def mm_E (cid : Nat → ClassId) (ad : Nat → Nat) (M : mm_M) (a : Nat) : va_E := if (M.1 a).1 < 100 then .inr ((M.1 a).1, (List.range (M.1 a).2.1).map (fun k => mm_rn ad (mm_sv M a k ((M.1 a).2.2.getD k 0)))) else .inl (cid (M.1 a).1, mm_ar ad M a)
def mm_ws (cid : Nat → ClassId) (ad : Nat → Nat) (M : mm_M) : va_W := (List.range M.2.1.1).map (fun a => (ad a, mm_E cid ad M a))
def mm_ty (k : Nat) : FieldType := match k with
  | 100 => .int
  | 101 => .long
  | 102 => .boolean
  | 103 => .array .int
  | 104 => .object "SelfSorting$Scene"
  | _ => .object "SelfSorting$Text"
def mm_tys (cid : Nat → ClassId) : List (ClassId × FieldType) := [(cid 100, mm_ty 100), (cid 101, mm_ty 101), (cid 102, mm_ty 102), (cid 103, mm_ty 103), (cid 104, mm_ty 104), (cid 105, mm_ty 105)]
theorem mm_ws_at {cid : Nat → ClassId} {ad : Nat → Nat} {M : mm_M} {a : Nat} (h : a < M.2.1.1) : (mm_ws cid ad M)[a]? = some (ad a, mm_E cid ad M a) := by
  unfold mm_ws
  rw [List.getElem?_map, List.getElem?_range h]
  rfl
theorem mm_tys_at {cid : Nat → ClassId} {k : Nat} (h1 : 100 ≤ k) (h2 : k < 106) : (mm_tys cid)[k - 100]? = some (cid k, mm_ty k) := by
  rcases (by omega : k = 100 ∨ k = 101 ∨ k = 102 ∨ k = 103 ∨ k = 104 ∨ k = 105) with rfl | rfl | rfl | rfl | rfl | rfl <;> rfl
theorem mm_E_fld {cid : Nat → ClassId} {ad : Nat → Nat} {M : mm_M} {a ci k : Nat} {v : Value} (h : mm_fld M a ci k = some v) (hc : ci < 100) : (mm_ws cid ad M)[a]? = some (ad a, .inr (ci, (List.range (M.1 a).2.1).map (fun k => mm_rn ad (mm_sv M a k ((M.1 a).2.2.getD k 0))))) ∧ ((List.range (M.1 a).2.1).map (fun k => mm_rn ad (mm_sv M a k ((M.1 a).2.2.getD k 0))))[k]? = some (mm_rn ad v) := by
  unfold mm_fld at h
  split at h
  · rename_i g
    cases h
    refine ⟨?_, ?_⟩
    · rw [mm_ws_at g.2.1]
      unfold mm_E
      rw [if_pos (by rw [g.1]; exact hc), g.1]
    · rw [List.getElem?_map, List.getElem?_range g.2.2]
      rfl
  · cases h
theorem mm_E_arr {cid : Nat → ClassId} {ad : Nat → Nat} {M : mm_M} {a : Nat} (h : a < M.2.1.1) (hc : 100 ≤ (M.1 a).1) : (mm_ws cid ad M)[a]? = some (ad a, .inl (cid (M.1 a).1, mm_ar ad M a)) := by
  rw [mm_ws_at h]
  unfold mm_E
  rw [if_neg (by omega)]
theorem mm_ar_len {ad : Nat → Nat} {M : mm_M} {a : Nat} : (mm_ar ad M a).1 = (M.1 a).2.1 := by
  unfold mm_ar
  split <;> rfl
/-- what the tables say of one entry of a code list -/
def mm_EOk (cl : List vw_C) (WS : List Jvm.Cond) (own : String) (cc : ByteArray) (pc : Nat) (q : mm_In) : Prop := decode cc pc = .ok (q.1, q.2.1) ∧ match q.1 with
  | .getfield idx => ∃ r : vw_C, cl[q.2.2.1]? = some r ∧ q.2.2.1 < 100 ∧ q.2.2.2 < r.2.2 ∧ Jvm.Cond.fieldLink own idx (r.2.1 q.2.2.2).1 (r.2.1 q.2.2.2).2.1 (r.2.1 q.2.2.2).2.2.1 ∈ WS
  | .putfield idx => ∃ r : vw_C, cl[q.2.2.1]? = some r ∧ q.2.2.1 < 100 ∧ q.2.2.2 < r.2.2 ∧ Jvm.Cond.fieldLink own idx (r.2.1 q.2.2.2).1 (r.2.1 q.2.2.2).2.1 (r.2.1 q.2.2.2).2.2.1 ∈ WS
  | .ifCond _ off => (pc : Int) + off = (q.2.2.1 : Int) ∧ q.2.1 = 3
  | .if_icmp _ off => (pc : Int) + off = (q.2.2.1 : Int) ∧ q.2.1 = 3
  | .goto off => (pc : Int) + off = (q.2.2.1 : Int) ∧ q.2.1 = 3
  | .ifnull off => (pc : Int) + off = (q.2.2.1 : Int) ∧ q.2.1 = 3
  | .ifnonnull off => (pc : Int) + off = (q.2.2.1 : Int) ∧ q.2.1 = 3
  | .ldc idx => q.2.1 = 2 ∧ (q.2.2.2 = 0 → Jvm.Cond.constant own idx (Int32.ofNat q.2.2.1) ∈ WS)
  | .ldc_w idx => q.2.1 = 3 ∧ Jvm.Cond.constant own idx (Int32.ofNat q.2.2.1) ∈ WS
  | .ldc2_w idx => q.2.1 = 3 ∧ Jvm.Cond.constantLong own idx (Int64.ofNat q.2.2.1) ∈ WS
  | .tableswitch d lo hi os => (0 : Int) ≤ (pc : Int) + d ∧ (os.size : Int) = hi - lo + 1 ∧ ∀ o ∈ os.toList, (0 : Int) ≤ (pc : Int) + o
  | .new idx => ∃ r : vw_C, cl[q.2.2.1]? = some r ∧ q.2.2.1 < 100 ∧ r.2.2 = q.2.2.2 ∧ Jvm.Cond.classLink own idx r.1 ∈ WS ∧ Jvm.Cond.instantiable r.1 r.2.2 ∈ WS ∧ Jvm.Cond.initialized r.1 ∈ WS
  | .newarray t => Jvm.Cond.arrayClass (newarray.typeOf t) ∈ WS
  | .anewarray idx => ∃ C : String, mm_ty q.2.2.1 = .object C ∧ 104 ≤ q.2.2.1 ∧ q.2.2.1 < 106 ∧ Jvm.Cond.classLink own idx C ∈ WS
  | .multianewarray idx k => k = 2 ∧ Jvm.Cond.classLink own idx "[[I" ∈ WS ∧ Jvm.Cond.arrayClass .int ∈ WS
  | _ => True
/-- an instruction's length, where it isn't a switch's -/
def mm_ln (i : Instr) : Nat := match i with
  | .bipush _ => 2
  | .sipush _ => 3
  | .iload _ => 2
  | .lload _ => 2
  | .aload _ => 2
  | .istore _ => 2
  | .lstore _ => 2
  | .astore _ => 2
  | .ldc _ => 2
  | .ldc_w _ => 3
  | .ldc2_w _ => 3
  | .iinc _ _ => 3
  | .goto _ => 3
  | .ifCond _ _ => 3
  | .if_icmp _ _ => 3
  | .ifnull _ => 3
  | .ifnonnull _ => 3
  | .getfield _ => 3
  | .putfield _ => 3
  | .getstatic _ => 3
  | .new _ => 3
  | .anewarray _ => 3
  | .newarray _ => 2
  | .multianewarray _ _ => 4
  | .invokevirtual _ => 3
  | .invokestatic _ => 3
  | .invokespecial _ => 3
  | _ => 1
def mm_sw (i : Instr) : Bool := match i with
  | .tableswitch .. => true
  | _ => false
