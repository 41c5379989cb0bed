/-! String.length, charAt, indexOf at a constant: contracts of the machine. -/
def vz_y1 : MethodName := ⟨"java/lang/String", "length", "()I"⟩
def vz_y2 : MethodName := ⟨"java/lang/String", "coder", "()B"⟩
def vz_y3 : MethodName := ⟨"java/lang/String", "charAt", "(I)C"⟩
def vz_y4 : MethodName := ⟨"java/lang/String", "isLatin1", "()Z"⟩
def vz_y5 : MethodName := ⟨"java/lang/StringLatin1", "charAt", "([BI)C"⟩
def vz_y6 : MethodName := ⟨"java/lang/String", "checkIndex", "(II)V"⟩
def vz_y7 : MethodName := ⟨"jdk/internal/util/Preconditions", "checkIndex", "(IILjava/util/function/BiFunction;)I"⟩
def vz_y8 : MethodName := ⟨"java/lang/String", "indexOf", "(I)I"⟩
def vz_y9 : MethodName := ⟨"java/lang/String", "indexOf", "(II)I"⟩
def vz_y10 : MethodName := ⟨"java/lang/StringLatin1", "indexOf", "([BIII)I"⟩
def vz_y11 : MethodName := ⟨"java/lang/StringLatin1", "canEncode", "(I)Z"⟩
def vz_y12 : MethodName := ⟨"java/lang/StringLatin1", "indexOfChar", "([BIII)I"⟩
def vz_W : List Jvm.Cond := [Jvm.Cond.initialized "java/lang/String", Jvm.Cond.initialized "java/lang/StringLatin1", Jvm.Cond.initialized "jdk/internal/util/Preconditions", Jvm.Cond.initialized "java/lang/Math", Jvm.Cond.code vz_y1 prog_14_method_54_code 1 (some .int), Jvm.Cond.instanceMethod vz_y1, Jvm.Cond.selects "java/lang/String" vz_y1 vz_y1, Jvm.Cond.code vz_y2 prog_14_method_152_code 1 (some .byte), Jvm.Cond.instanceMethod vz_y2, Jvm.Cond.selects "java/lang/String" vz_y2 vz_y2, Jvm.Cond.code vz_y3 prog_14_method_56_code 2 (some .char), Jvm.Cond.instanceMethod vz_y3, Jvm.Cond.selects "java/lang/String" vz_y3 vz_y3, Jvm.Cond.code vz_y4 prog_14_method_154_code 1 (some .boolean), Jvm.Cond.instanceMethod vz_y4, Jvm.Cond.selects "java/lang/String" vz_y4 vz_y4, Jvm.Cond.code vz_y5 prog_15_method_2_code 2 (some .char), Jvm.Cond.static vz_y5, Jvm.Cond.code vz_y6 prog_14_method_155_code 2 none, Jvm.Cond.static vz_y6, Jvm.Cond.code vz_y7 prog_18_method_11_code 3 (some .int), Jvm.Cond.static vz_y7, Jvm.Cond.code vz_y8 prog_14_method_79_code 2 (some .int), Jvm.Cond.instanceMethod vz_y8, Jvm.Cond.selects "java/lang/String" vz_y8 vz_y8, Jvm.Cond.code vz_y9 prog_14_method_80_code 3 (some .int), Jvm.Cond.instanceMethod vz_y9, Jvm.Cond.selects "java/lang/String" vz_y9 vz_y9, Jvm.Cond.code vz_y10 prog_15_method_22_code 4 (some .int), Jvm.Cond.static vz_y10, Jvm.Cond.code vz_y11 prog_15_method_4_code 1 (some .boolean), Jvm.Cond.static vz_y11, Jvm.Cond.code vz_y12 prog_15_method_23_code 6 (some .int), Jvm.Cond.static vz_y12, Jvm.Cond.methodLink "java/lang/String" 335 vz_y2, Jvm.Cond.methodLink "java/lang/String" 492 vz_y4, Jvm.Cond.methodLink "java/lang/String" 495 vz_y5, Jvm.Cond.methodLink "java/lang/StringLatin1" 9 vz_y6, Jvm.Cond.methodLink "java/lang/String" 1059 vz_y7, Jvm.Cond.methodLink "java/lang/String" 633 vz_y9, Jvm.Cond.methodLink "java/lang/String" 505 vz_y1, Jvm.Cond.methodLink "java/lang/String" 637 vz_y10, Jvm.Cond.methodLink "java/lang/StringLatin1" 88 vz_y11, Jvm.Cond.methodLink "java/lang/StringLatin1" 95 vz_y12, Jvm.Cond.methodLink "java/lang/StringLatin1" 92 Lib.Math.max.name, Jvm.Cond.static Lib.Math.max.name, Jvm.Cond.code Lib.Math.max.name Lib.Math.max.code 2 (some .int), Jvm.Cond.methodLink "java/lang/StringLatin1" 38 Lib.Math.min.name, Jvm.Cond.static Lib.Math.min.name, Jvm.Cond.code Lib.Math.min.name Lib.Math.min.code 2 (some .int), Jvm.Cond.fieldLink "java/lang/String" 38 "java/lang/String" "COMPACT_STRINGS" "Z", Jvm.Cond.fieldLink "java/lang/String" 1053 "jdk/internal/util/Preconditions" "SIOOBE_FORMATTER" "Ljava/util/function/BiFunction;", Jvm.Cond.fieldLink "java/lang/String" 9 "java/lang/String" "value" "[B", Jvm.Cond.fieldLink "java/lang/String" 15 "java/lang/String" "coder" "B"]
theorem vz_ok : ∀ w ∈ vz_W, (w.onTables && w.keeps) = true := by decide +kernel
theorem vz_good {y : MethodName} {b : ByteArray} {n : Nat} {r : Option FieldType} (h : Jvm.Cond.code y b n r ∈ vz_W) : GoodIn vz_W (Jvm.Cond.code y b n r :: vz_W) := fun w hw => by
  rcases List.mem_cons.mp hw with rfl | hw
  · exact ⟨h, Or.inl rfl⟩
  · exact ⟨hw, Or.inl (vz_ok w hw)⟩
def vz_F : Nat → Prop := fun _ => False
/-- the world: a constant at q, its bytes at v; the two statics -/
def vz_S (q v len : Nat) (f : Nat → Int32) (U : State) (H : Heap) : Prop := va_O "java/lang/String" q vz_F U H ∧ va_OF "java/lang/String" "coder" "B" (.int 0) q vz_F U H ∧ va_OF "java/lang/String" "value" "[B" (.ref v) q vz_F U H ∧ va_T .byte v len (fun j => .int (f j)) vz_F U H ∧ va_Z "java/lang/String" "COMPACT_STRINGS" "Z" (.int 1) vz_F U H ∧ va_Zq "jdk/internal/util/Preconditions" "SIOOBE_FORMATTER" "Ljava/util/function/BiFunction;" vz_F U H
theorem vz_S.moved {q v len : Nat} {f : Nat → Int32} {u U : State} {H : Heap} (hvm : u.vm.Alike U.vm) (h : vz_S q v len f u H) : vz_S q v len f U H :=
  ⟨va_O.moved hvm h.1, va_OF.moved hvm h.2.1, va_OF.moved hvm h.2.2.1, va_T.moved hvm h.2.2.2.1, va_Z.moved hvm h.2.2.2.2.1, va_Zq.moved hvm h.2.2.2.2.2⟩
def vz_SA (A : Nat → Prop) (q v len : Nat) (f : Nat → Int32) (U : State) (H : Heap) : Prop := va_O "java/lang/String" q A U H ∧ va_OF "java/lang/String" "coder" "B" (.int 0) q A U H ∧ va_OF "java/lang/String" "value" "[B" (.ref v) q A U H ∧ va_T .byte v len (fun j => .int (f j)) A U H ∧ va_Z "java/lang/String" "COMPACT_STRINGS" "Z" (.int 1) A U H ∧ va_Zq "jdk/internal/util/Preconditions" "SIOOBE_FORMATTER" "Ljava/util/function/BiFunction;" A U H
theorem vz_SA.moved {A : Nat → Prop} {q v len : Nat} {f : Nat → Int32} {u U : State} {H : Heap} (hvm : u.vm.Alike U.vm) (h : vz_SA A q v len f u H) : vz_SA A q v len f U H :=
  ⟨va_O.moved hvm h.1, va_OF.moved hvm h.2.1, va_OF.moved hvm h.2.2.1, va_T.moved hvm h.2.2.2.1, va_Z.moved hvm h.2.2.2.2.1, va_Zq.moved hvm h.2.2.2.2.2⟩
theorem vz_SA.kept {A : Nat → Prop} {q v len : Nat} {f : Nat → Int32} {U : State} {H H1 : Heap} (h : vz_SA A q v len f U H) (hq : ∀ a : Nat, a < H.size → ¬ A a → H1[a]? = H[a]?) : vz_SA A q v len f U H1 :=
  ⟨h.1.kept hq, h.2.1.kept hq, h.2.2.1.kept hq, h.2.2.2.1.kept hq, h.2.2.2.2.1.kept hq, h.2.2.2.2.2.kept hq⟩
theorem vz_SA.narrow {A : Nat → Prop} {q v len : Nat} {f : Nat → Int32} {U : State} {H : Heap} (h : vz_SA A q v len f U H) (hAB : ∀ q, vz_F q → A q) : vz_S q v len f U H :=
  ⟨h.1.narrow hAB, h.2.1.narrow hAB, h.2.2.1.narrow hAB, h.2.2.2.1.narrow hAB, h.2.2.2.2.1.narrow hAB, h.2.2.2.2.2.narrow hAB⟩
theorem vz_recv {q v len : Nat} {f : Nat → Int32} {s : State} (h : vz_S q v len f s s.heap) : ∃ cell : Cell, s.heap[q]? = some cell ∧ cell.vm.isStatics = false ∧ s.vm.findClass "java/lang/String" = some cell.cls := by
  obtain ⟨cell, h1, h2, h3, -⟩ := h.1
  exact ⟨cell, h1, h2, h3⟩
def vz_Q (v : Option Value) : Array Value → State → Outcome → State → Prop := fun _ st oc t => oc = .returned v ∧ t.heap = st.heap
def vz_P (q v len : Nat) (f : Nat → Int32) (av : List Value) : Array Value → State → Prop := va_Pc av (fun U => vz_S q v len f U U.heap)
def vz_rm (k : Nat) : Room := { frames := k, cells := 0, slots := 0, locals := 30 * k }
theorem vz_blind {q v len : Nat} {f : Nat → Int32} {av : List Value} : FrameBlind (vz_P q v len f av) := fun a U g mk h => ⟨h.1, vz_S.moved (u := U) (U := U.calling g mk a) (Vm.Alike.refl U.vm) h.2⟩
theorem vz_pre {q v len : Nat} {f : Nat → Int32} {av : List Value} {s : State} (h : vz_S q v len f s s.heap) : ∀ U : State, U.heap = s.heap → s.WarmedH U.vm → vz_P q v len f av av.toArray U := fun U hU hW => ⟨rfl, by show vz_S q v len f U U.heap; rw [hU]; exact vz_S.moved hW.alike h⟩
section VZ
variable {p : Program} {l : Launch} {e : Env} {R : Room} {s : State} {m : MethodId} {args : Array Value} {below : List Frame} {meth : Method} {c : Code} {H : Heap} {locs : List Loc} {cells slots : Nat} {Q : State → Prop}
theorem vz_back {pc : Nat} {ls : Array Slot} {v : Option Value} {r st0 : List Value} {va : Array Value} (hr : va_Run p l e R s m args below meth c H locs cells slots 0 0 (F0 m pc ls st0) r (vz_Q v va) vz_F) (kk : W p l e R s m args below meth c H locs cells slots Q (F0 m (pc + 3) ls (v.toList ++ r))) : W p l e R s m args below meth c H locs cells slots Q (F0 m pc ls st0) := by
  intro T hT X
  obtain ⟨v', st₀, t, T', L, h0, X', hL, e1, e2, ⟨hv, q1⟩, st⟩ := hr T hT X
  have hv : v' = v := Outcome.returned.inj hv
  subst hv
  have hL0 : L = [] := List.eq_nil_iff_forall_not_mem.mpr (fun q hq => hL q hq)
  subst hL0
  rw [List.append_nil] at X'
  obtain ⟨t2, a1, b1⟩ := kk T' (by rw [e1, q1, h0]) X'
  exact ⟨t2, st t2 a1, b1⟩
end VZ
theorem vz_shr0 (x : Int32) : x >>> ((0 : Int32) &&& 31) = x := by
  rw [show ((0 : Int32) &&& 31) = 0 by decide]
  exact Int32.shiftRight_zero
theorem vz_c0 : ∀ q : Fin 128, ((nI q.val &&& 255).toUInt32 % 65536).toInt32 = nI q.val := by decide +kernel
theorem vz_c1 : ∀ q : Fin 128, vp_nar .char (nI q.val) = nI q.val := by decide +kernel
theorem vz_b0 : ∀ q : Fin 256, (q.val < 128 → (nI q.val).toInt8.toInt32 = nI q.val) ∧ (128 ≤ q.val → (nI q.val).toInt8.toInt32 < 0) := by decide +kernel
theorem vz_nar {q : Nat} (h : q < 128) : narrow .char (.int (nI q)) = .int (nI q) := by
  have h1 := vz_c1 ⟨q, h⟩
  show Value.int _ = Value.int _
  exact congrArg Value.int h1
theorem vz_b {q c : Nat} (hq : q < 128) (hc : c < 256) : nI q = (nI c).toInt8.toInt32 ↔ nI q = nI c := by
  obtain ⟨h1, h2⟩ := vz_b0 ⟨c, hc⟩
  by_cases h : c < 128
  · rw [h1 h]
  · have h3 := h2 (by show 128 ≤ c; omega)
    constructor
    · intro e
      rw [← e] at h3
      exact absurd h3 (nI_pos (by omega))
    · intro e
      have := (nI_eq (by omega) (by omega)).mp e
      omega
/-- indexOf -/
def vz_ix (f : Nat → Int32) (c : Int32) : Nat → Nat → Int32
  | 0, _ => -1
  | n + 1, j => if f j = c then nI j else vz_ix f c n (j + 1)
theorem vz_d1_0 : decode prog_14_method_54_code 0 = .ok (.aload_n 0, 1) := by decide +kernel
theorem vz_d1_1 : decode prog_14_method_54_code 1 = .ok (.getfield 9, 3) := by decide +kernel
theorem vz_d1_4 : decode prog_14_method_54_code 4 = .ok (.arraylength, 1) := by decide +kernel
theorem vz_d1_5 : decode prog_14_method_54_code 5 = .ok (.aload_n 0, 1) := by decide +kernel
theorem vz_d1_6 : decode prog_14_method_54_code 6 = .ok (.invokevirtual 335, 3) := by decide +kernel
theorem vz_d1_9 : decode prog_14_method_54_code 9 = .ok (.ishr, 1) := by decide +kernel
theorem vz_d1_10 : decode prog_14_method_54_code 10 = .ok (.ireturn, 1) := by decide +kernel
theorem vz_d2_0 : decode prog_14_method_152_code 0 = .ok (.getstatic 38, 3) := by decide +kernel
theorem vz_d2_3 : decode prog_14_method_152_code 3 = .ok (.ifCond .eq 10, 3) := by decide +kernel
theorem vz_d2_6 : decode prog_14_method_152_code 6 = .ok (.aload_n 0, 1) := by decide +kernel
theorem vz_d2_7 : decode prog_14_method_152_code 7 = .ok (.getfield 15, 3) := by decide +kernel
theorem vz_d2_10 : decode prog_14_method_152_code 10 = .ok (.goto 4, 3) := by decide +kernel
theorem vz_d2_14 : decode prog_14_method_152_code 14 = .ok (.ireturn, 1) := by decide +kernel
theorem vz_d3_0 : decode prog_14_method_56_code 0 = .ok (.aload_n 0, 1) := by decide +kernel
theorem vz_d3_1 : decode prog_14_method_56_code 1 = .ok (.invokevirtual 492, 3) := by decide +kernel
theorem vz_d3_4 : decode prog_14_method_56_code 4 = .ok (.ifCond .eq 12, 3) := by decide +kernel
theorem vz_d3_7 : decode prog_14_method_56_code 7 = .ok (.aload_n 0, 1) := by decide +kernel
theorem vz_d3_8 : decode prog_14_method_56_code 8 = .ok (.getfield 9, 3) := by decide +kernel
theorem vz_d3_11 : decode prog_14_method_56_code 11 = .ok (.iload_n 1, 1) := by decide +kernel
theorem vz_d3_12 : decode prog_14_method_56_code 12 = .ok (.invokestatic 495, 3) := by decide +kernel
theorem vz_d3_15 : decode prog_14_method_56_code 15 = .ok (.ireturn, 1) := by decide +kernel
theorem vz_d4_0 : decode prog_14_method_154_code 0 = .ok (.getstatic 38, 3) := by decide +kernel
theorem vz_d4_3 : decode prog_14_method_154_code 3 = .ok (.ifCond .eq 14, 3) := by decide +kernel
theorem vz_d4_6 : decode prog_14_method_154_code 6 = .ok (.aload_n 0, 1) := by decide +kernel
theorem vz_d4_7 : decode prog_14_method_154_code 7 = .ok (.getfield 15, 3) := by decide +kernel
theorem vz_d4_10 : decode prog_14_method_154_code 10 = .ok (.ifCond .ne 7, 3) := by decide +kernel
theorem vz_d4_13 : decode prog_14_method_154_code 13 = .ok (.iconst 1, 1) := by decide +kernel
theorem vz_d4_14 : decode prog_14_method_154_code 14 = .ok (.goto 4, 3) := by decide +kernel
theorem vz_d4_18 : decode prog_14_method_154_code 18 = .ok (.ireturn, 1) := by decide +kernel
theorem vz_d5_0 : decode prog_15_method_2_code 0 = .ok (.iload_n 1, 1) := by decide +kernel
theorem vz_d5_1 : decode prog_15_method_2_code 1 = .ok (.aload_n 0, 1) := by decide +kernel
theorem vz_d5_2 : decode prog_15_method_2_code 2 = .ok (.arraylength, 1) := by decide +kernel
theorem vz_d5_3 : decode prog_15_method_2_code 3 = .ok (.invokestatic 9, 3) := by decide +kernel
theorem vz_d5_6 : decode prog_15_method_2_code 6 = .ok (.aload_n 0, 1) := by decide +kernel
theorem vz_d5_7 : decode prog_15_method_2_code 7 = .ok (.iload_n 1, 1) := by decide +kernel
theorem vz_d5_8 : decode prog_15_method_2_code 8 = .ok (.baload, 1) := by decide +kernel
theorem vz_d5_9 : decode prog_15_method_2_code 9 = .ok (.sipush 255, 3) := by decide +kernel
theorem vz_d5_12 : decode prog_15_method_2_code 12 = .ok (.iand, 1) := by decide +kernel
theorem vz_d5_13 : decode prog_15_method_2_code 13 = .ok (.i2c, 1) := by decide +kernel
theorem vz_d5_14 : decode prog_15_method_2_code 14 = .ok (.ireturn, 1) := by decide +kernel
theorem vz_d6_0 : decode prog_14_method_155_code 0 = .ok (.iload_n 0, 1) := by decide +kernel
theorem vz_d6_1 : decode prog_14_method_155_code 1 = .ok (.iload_n 1, 1) := by decide +kernel
theorem vz_d6_2 : decode prog_14_method_155_code 2 = .ok (.getstatic 1053, 3) := by decide +kernel
theorem vz_d6_5 : decode prog_14_method_155_code 5 = .ok (.invokestatic 1059, 3) := by decide +kernel
theorem vz_d6_8 : decode prog_14_method_155_code 8 = .ok (.pop, 1) := by decide +kernel
theorem vz_d6_9 : decode prog_14_method_155_code 9 = .ok (.return_, 1) := by decide +kernel
theorem vz_d7_0 : decode prog_18_method_11_code 0 = .ok (.iload_n 0, 1) := by decide +kernel
theorem vz_d7_1 : decode prog_18_method_11_code 1 = .ok (.ifCond .lt 8, 3) := by decide +kernel
theorem vz_d7_4 : decode prog_18_method_11_code 4 = .ok (.iload_n 0, 1) := by decide +kernel
theorem vz_d7_5 : decode prog_18_method_11_code 5 = .ok (.iload_n 1, 1) := by decide +kernel
theorem vz_d7_6 : decode prog_18_method_11_code 6 = .ok (.if_icmp .lt 10, 3) := by decide +kernel
theorem vz_d7_16 : decode prog_18_method_11_code 16 = .ok (.iload_n 0, 1) := by decide +kernel
theorem vz_d7_17 : decode prog_18_method_11_code 17 = .ok (.ireturn, 1) := by decide +kernel
theorem vz_d8_0 : decode prog_14_method_79_code 0 = .ok (.aload_n 0, 1) := by decide +kernel
theorem vz_d8_1 : decode prog_14_method_79_code 1 = .ok (.iload_n 1, 1) := by decide +kernel
theorem vz_d8_2 : decode prog_14_method_79_code 2 = .ok (.iconst 0, 1) := by decide +kernel
theorem vz_d8_3 : decode prog_14_method_79_code 3 = .ok (.invokevirtual 633, 3) := by decide +kernel
theorem vz_d8_6 : decode prog_14_method_79_code 6 = .ok (.ireturn, 1) := by decide +kernel
theorem vz_d9_0 : decode prog_14_method_80_code 0 = .ok (.aload_n 0, 1) := by decide +kernel
theorem vz_d9_1 : decode prog_14_method_80_code 1 = .ok (.invokevirtual 492, 3) := by decide +kernel
theorem vz_d9_4 : decode prog_14_method_80_code 4 = .ok (.ifCond .eq 19, 3) := by decide +kernel
theorem vz_d9_7 : decode prog_14_method_80_code 7 = .ok (.aload_n 0, 1) := by decide +kernel
theorem vz_d9_8 : decode prog_14_method_80_code 8 = .ok (.getfield 9, 3) := by decide +kernel
theorem vz_d9_11 : decode prog_14_method_80_code 11 = .ok (.iload_n 1, 1) := by decide +kernel
theorem vz_d9_12 : decode prog_14_method_80_code 12 = .ok (.iload_n 2, 1) := by decide +kernel
theorem vz_d9_13 : decode prog_14_method_80_code 13 = .ok (.aload_n 0, 1) := by decide +kernel
theorem vz_d9_14 : decode prog_14_method_80_code 14 = .ok (.invokevirtual 505, 3) := by decide +kernel
theorem vz_d9_17 : decode prog_14_method_80_code 17 = .ok (.invokestatic 637, 3) := by decide +kernel
theorem vz_d9_20 : decode prog_14_method_80_code 20 = .ok (.goto 16, 3) := by decide +kernel
theorem vz_d9_36 : decode prog_14_method_80_code 36 = .ok (.ireturn, 1) := by decide +kernel
theorem vz_d10_0 : decode prog_15_method_22_code 0 = .ok (.iload_n 1, 1) := by decide +kernel
theorem vz_d10_1 : decode prog_15_method_22_code 1 = .ok (.invokestatic 88, 3) := by decide +kernel
theorem vz_d10_4 : decode prog_15_method_22_code 4 = .ok (.ifCond .ne 5, 3) := by decide +kernel
theorem vz_d10_9 : decode prog_15_method_22_code 9 = .ok (.iload_n 2, 1) := by decide +kernel
theorem vz_d10_10 : decode prog_15_method_22_code 10 = .ok (.iconst 0, 1) := by decide +kernel
theorem vz_d10_11 : decode prog_15_method_22_code 11 = .ok (.invokestatic 92, 3) := by decide +kernel
theorem vz_d10_14 : decode prog_15_method_22_code 14 = .ok (.istore_n 2, 1) := by decide +kernel
theorem vz_d10_15 : decode prog_15_method_22_code 15 = .ok (.iload_n 3, 1) := by decide +kernel
theorem vz_d10_16 : decode prog_15_method_22_code 16 = .ok (.aload_n 0, 1) := by decide +kernel
theorem vz_d10_17 : decode prog_15_method_22_code 17 = .ok (.arraylength, 1) := by decide +kernel
theorem vz_d10_18 : decode prog_15_method_22_code 18 = .ok (.invokestatic 38, 3) := by decide +kernel
theorem vz_d10_21 : decode prog_15_method_22_code 21 = .ok (.istore_n 3, 1) := by decide +kernel
theorem vz_d10_22 : decode prog_15_method_22_code 22 = .ok (.iload_n 2, 1) := by decide +kernel
theorem vz_d10_23 : decode prog_15_method_22_code 23 = .ok (.iload_n 3, 1) := by decide +kernel
theorem vz_d10_24 : decode prog_15_method_22_code 24 = .ok (.if_icmp .lt 5, 3) := by decide +kernel
theorem vz_d10_29 : decode prog_15_method_22_code 29 = .ok (.aload_n 0, 1) := by decide +kernel
theorem vz_d10_30 : decode prog_15_method_22_code 30 = .ok (.iload_n 1, 1) := by decide +kernel
theorem vz_d10_31 : decode prog_15_method_22_code 31 = .ok (.iload_n 2, 1) := by decide +kernel
theorem vz_d10_32 : decode prog_15_method_22_code 32 = .ok (.iload_n 3, 1) := by decide +kernel
theorem vz_d10_33 : decode prog_15_method_22_code 33 = .ok (.invokestatic 95, 3) := by decide +kernel
theorem vz_d10_36 : decode prog_15_method_22_code 36 = .ok (.ireturn, 1) := by decide +kernel
theorem vz_d11_0 : decode prog_15_method_4_code 0 = .ok (.iload_n 0, 1) := by decide +kernel
theorem vz_d11_1 : decode prog_15_method_4_code 1 = .ok (.ifCond .lt 14, 3) := by decide +kernel
theorem vz_d11_4 : decode prog_15_method_4_code 4 = .ok (.iload_n 0, 1) := by decide +kernel
theorem vz_d11_5 : decode prog_15_method_4_code 5 = .ok (.sipush 255, 3) := by decide +kernel
theorem vz_d11_8 : decode prog_15_method_4_code 8 = .ok (.if_icmp .gt 7, 3) := by decide +kernel
theorem vz_d11_11 : decode prog_15_method_4_code 11 = .ok (.iconst 1, 1) := by decide +kernel
theorem vz_d11_12 : decode prog_15_method_4_code 12 = .ok (.goto 4, 3) := by decide +kernel
theorem vz_d11_16 : decode prog_15_method_4_code 16 = .ok (.ireturn, 1) := by decide +kernel
theorem vz_d12_0 : decode prog_15_method_23_code 0 = .ok (.iload_n 1, 1) := by decide +kernel
theorem vz_d12_1 : decode prog_15_method_23_code 1 = .ok (.i2b, 1) := by decide +kernel
theorem vz_d12_2 : decode prog_15_method_23_code 2 = .ok (.istore 4, 2) := by decide +kernel
theorem vz_d12_4 : decode prog_15_method_23_code 4 = .ok (.iload_n 2, 1) := by decide +kernel
theorem vz_d12_5 : decode prog_15_method_23_code 5 = .ok (.istore 5, 2) := by decide +kernel
theorem vz_d12_7 : decode prog_15_method_23_code 7 = .ok (.iload 5, 2) := by decide +kernel
theorem vz_d12_9 : decode prog_15_method_23_code 9 = .ok (.iload_n 3, 1) := by decide +kernel
theorem vz_d12_10 : decode prog_15_method_23_code 10 = .ok (.if_icmp .ge 21, 3) := by decide +kernel
theorem vz_d12_13 : decode prog_15_method_23_code 13 = .ok (.aload_n 0, 1) := by decide +kernel
theorem vz_d12_14 : decode prog_15_method_23_code 14 = .ok (.iload 5, 2) := by decide +kernel
theorem vz_d12_16 : decode prog_15_method_23_code 16 = .ok (.baload, 1) := by decide +kernel
theorem vz_d12_17 : decode prog_15_method_23_code 17 = .ok (.iload 4, 2) := by decide +kernel
theorem vz_d12_19 : decode prog_15_method_23_code 19 = .ok (.if_icmp .ne 6, 3) := by decide +kernel
theorem vz_d12_22 : decode prog_15_method_23_code 22 = .ok (.iload 5, 2) := by decide +kernel
theorem vz_d12_24 : decode prog_15_method_23_code 24 = .ok (.ireturn, 1) := by decide +kernel
theorem vz_d12_25 : decode prog_15_method_23_code 25 = .ok (.iinc 5 1, 3) := by decide +kernel
theorem vz_d12_28 : decode prog_15_method_23_code 28 = .ok (.goto (-21), 3) := by decide +kernel
theorem vz_d12_31 : decode prog_15_method_23_code 31 = .ok (.iconst (-1), 1) := by decide +kernel
theorem vz_d12_32 : decode prog_15_method_23_code 32 = .ok (.ireturn, 1) := by decide +kernel
set_option maxHeartbeats 1000000 in
theorem vz_m4 (l : Launch) {q v len : Nat} {f : Nat → Int32} (h0 : 0 < len) (h1 : len < 2 ^ 31) (hf : ∀ j, j < len → ∃ z, z < 128 ∧ f j = nI z)  : Met l vz_y4 (Jvm.Cond.code vz_y4 prog_14_method_154_code 1 (some .boolean) :: vz_W) (vz_rm 0) (vz_P q v len f [.ref q]) (vz_Q (some (.int 1))) 0 0 vz_F := by
  refine Met.ofW (cc := prog_14_method_154_code) (maxL := 1) (ret := (some .boolean)) (by decide) rfl ?_
  intro p e s m args below meth c s₁ B hml hv
  obtain ⟨rfl, hw⟩ := hv
  have hw2 := hw
  obtain ⟨hO, hC, hV, hT, hZ, hG⟩ := hw2
  have hx := B.exec
  have hb := B.bytes
  have hr := B.returns
  have hts0 := atoms_spec (ws := Jvm.Cond.code vz_y4 prog_14_method_154_code 1 (some .boolean) :: vz_W) B.pre
  have hts : ∀ w ∈ vz_W, w.before ([.ref q] : List Value).toArray s = true := fun w hw => hts0 w (List.mem_cons_of_mem _ hw)
  have hown : s.vm.findClass "java/lang/String" = some m.cls := findClass_of_methodNamed B.named
  have hlocks := B.notSynchronized
  have hS : va_S vz_F s.heap s.heap [] := va_S.rf
  have hl := lv_entry ([.ref q]) (n := 1) (Nat.le_of_ble_eq_true rfl)
  rw [lg_entry_eq]
  generalize (lg_sl ([.ref q]) ++ List.replicate (1 - (lg_sl ([.ref q])).length) Slot.unset).toArray = ls at hl ⊢
  have hl : lv_has ls 1 [(0, .ref q)] := hl
  refine va_gets hx hb hZ hS hown (hts _ (List.mem_of_getElem? (i := 50) rfl)) (fun _ h9 => h9) vz_d4_0 ?_
  refine lv_if_eq (tgt := 17) hx hb vz_d4_3 rfl (fun h9 => absurd h9 (by decide)) (fun _ => ?_)
  refine lv_aload_n hx hb vz_d4_6 rfl (lv_at hl 0 rfl) ?_
  refine vk_getf hx hb hC hS hown (hts _ (List.mem_of_getElem? (i := 53) rfl)) (fun _ h9 => h9) vz_d4_7 ?_
  refine lv_if_ne (tgt := 17) hx hb vz_d4_10 rfl (fun h9 => absurd h9 (fun h8 => h8 rfl)) (fun _ => ?_)
  refine lv_iconst (v := 1) hx hb vz_d4_13 (by decide) ?_
  refine lv_goto (tgt := 18) hx hb vz_d4_14 rfl ?_
  exact W.zret hx hb hr rfl (fun t ht _ => ⟨rfl, ht⟩) hS.2.2 vz_d4_18
set_option maxHeartbeats 1000000 in
theorem vz_m2 (l : Launch) {q v len : Nat} {f : Nat → Int32} (h0 : 0 < len) (h1 : len < 2 ^ 31) (hf : ∀ j, j < len → ∃ z, z < 128 ∧ f j = nI z)  : Met l vz_y2 (Jvm.Cond.code vz_y2 prog_14_method_152_code 1 (some .byte) :: vz_W) (vz_rm 0) (vz_P q v len f [.ref q]) (vz_Q (some (.int 0))) 0 0 vz_F := by
  refine Met.ofW (cc := prog_14_method_152_code) (maxL := 1) (ret := (some .byte)) (by decide) rfl ?_
  intro p e s m args below meth c s₁ B hml hv
  obtain ⟨rfl, hw⟩ := hv
  have hw2 := hw
  obtain ⟨hO, hC, hV, hT, hZ, hG⟩ := hw2
  have hx := B.exec
  have hb := B.bytes
  have hr := B.returns
  have hts0 := atoms_spec (ws := Jvm.Cond.code vz_y2 prog_14_method_152_code 1 (some .byte) :: vz_W) B.pre
  have hts : ∀ w ∈ vz_W, w.before ([.ref q] : List Value).toArray s = true := fun w hw => hts0 w (List.mem_cons_of_mem _ hw)
  have hown : s.vm.findClass "java/lang/String" = some m.cls := findClass_of_methodNamed B.named
  have hlocks := B.notSynchronized
  have hS : va_S vz_F s.heap s.heap [] := va_S.rf
  have hl := lv_entry ([.ref q]) (n := 1) (Nat.le_of_ble_eq_true rfl)
  rw [lg_entry_eq]
  generalize (lg_sl ([.ref q]) ++ List.replicate (1 - (lg_sl ([.ref q])).length) Slot.unset).toArray = ls at hl ⊢
  have hl : lv_has ls 1 [(0, .ref q)] := hl
  refine va_gets hx hb hZ hS hown (hts _ (List.mem_of_getElem? (i := 50) rfl)) (fun _ h9 => h9) vz_d2_0 ?_
  refine lv_if_eq (tgt := 13) hx hb vz_d2_3 rfl (fun h9 => absurd h9 (by decide)) (fun _ => ?_)
  refine lv_aload_n hx hb vz_d2_6 rfl (lv_at hl 0 rfl) ?_
  refine vk_getf hx hb hC hS hown (hts _ (List.mem_of_getElem? (i := 53) rfl)) (fun _ h9 => h9) vz_d2_7 ?_
  refine lv_goto (tgt := 14) hx hb vz_d2_10 rfl ?_
  exact W.zret hx hb hr rfl (fun t ht _ => ⟨rfl, ht⟩) hS.2.2 vz_d2_14
set_option maxHeartbeats 1000000 in
theorem vz_m1 (l : Launch) {q v len : Nat} {f : Nat → Int32} (h0 : 0 < len) (h1 : len < 2 ^ 31) (hf : ∀ j, j < len → ∃ z, z < 128 ∧ f j = nI z)  : Met l vz_y1 (Jvm.Cond.code vz_y1 prog_14_method_54_code 1 (some .int) :: vz_W) (vz_rm 1) (vz_P q v len f [.ref q]) (vz_Q (some (.int (nI len)))) 0 0 vz_F := by
  refine Met.ofW (cc := prog_14_method_54_code) (maxL := 1) (ret := (some .int)) (by decide) rfl ?_
  intro p e s m args below meth c s₁ B hml hv
  obtain ⟨rfl, hw⟩ := hv
  have hw2 := hw
  obtain ⟨hO, hC, hV, hT, hZ, hG⟩ := hw2
  have hx := B.exec
  have hb := B.bytes
  have hr := B.returns
  have hts0 := atoms_spec (ws := Jvm.Cond.code vz_y1 prog_14_method_54_code 1 (some .int) :: vz_W) B.pre
  have hts : ∀ w ∈ vz_W, w.before ([.ref q] : List Value).toArray s = true := fun w hw => hts0 w (List.mem_cons_of_mem _ hw)
  have hown : s.vm.findClass "java/lang/String" = some m.cls := findClass_of_methodNamed B.named
  have hlocks := B.notSynchronized
  have hS : va_S vz_F s.heap s.heap [] := va_S.rf
  have hl := lv_entry ([.ref q]) (n := 1) (Nat.le_of_ble_eq_true rfl)
  rw [lg_entry_eq]
  generalize (lg_sl ([.ref q]) ++ List.replicate (1 - (lg_sl ([.ref q])).length) Slot.unset).toArray = ls at hl ⊢
  have hl : lv_has ls 1 [(0, .ref q)] := hl
  refine lv_aload_n hx hb vz_d1_0 rfl (lv_at hl 0 rfl) ?_
  refine vk_getf hx hb hV hS hown (hts _ (List.mem_of_getElem? (i := 52) rfl)) (fun _ h9 => h9) vz_d1_1 ?_
  refine va_tlen (v := nI len) hx hb hT hS rfl vz_d1_4 ?_
  refine lv_aload_n hx hb vz_d1_5 rfl (lv_at hl 0 rfl) ?_
  refine vz_back (va_runV (C := "java/lang/String") (As := []) (rest := [.int (nI len)]) ⟨hx, hb, hml, hown, hts⟩ (vz_m2 l h0 h1 hf) ⟨callB_of 0 hts (vz_good (List.mem_of_getElem? (i := 7) rfl)) rfl rfl rfl (hts _ (List.mem_of_getElem? (i := 0) rfl)) (hts _ (List.mem_of_getElem? (i := 34) rfl)) ⟨by decide, by decide, by decide +kernel⟩ ⟨Nat.le_of_ble_eq_true rfl, Nat.le_of_ble_eq_true rfl⟩, (hts _ (List.mem_of_getElem? (i := 8) rfl)), (hts _ (List.mem_of_getElem? (i := 9) rfl))⟩ ⟨vz_blind, vz_recv hw, vz_pre hw⟩ rfl rfl hl.1 rfl (lv_room (Nat.le_of_ble_eq_true rfl)) vz_d1_6 ⟨Nat.zero_le _, Nat.zero_le _⟩) ?_
  refine lv_ishr hx hb vz_d1_9 ?_
  rw [vz_shr0]
  exact W.zret hx hb hr rfl (fun t ht _ => ⟨rfl, ht⟩) hS.2.2 vz_d1_10
set_option maxHeartbeats 1000000 in
theorem vz_m7 (l : Launch) {q v len : Nat} {f : Nat → Int32} (h0 : 0 < len) (h1 : len < 2 ^ 31) (hf : ∀ j, j < len → ∃ z, z < 128 ∧ f j = nI z) {k : Nat} (hk : k < len) {y : Value} (hy : y = .null ∨ ∃ t, y = .ref t) : Met l vz_y7 (Jvm.Cond.code vz_y7 prog_18_method_11_code 3 (some .int) :: vz_W) (vz_rm 0) (vz_P q v len f [.int (nI k), .int (nI len), y]) (vz_Q (some (.int (nI k)))) 0 0 vz_F := by
  refine Met.ofW (cc := prog_18_method_11_code) (maxL := 3) (ret := (some .int)) (by decide) rfl ?_
  intro p e s m args below meth c s₁ B hml hv
  obtain ⟨rfl, hw⟩ := hv
  have hw2 := hw
  obtain ⟨hO, hC, hV, hT, hZ, hG⟩ := hw2
  have hx := B.exec
  have hb := B.bytes
  have hr := B.returns
  have hts0 := atoms_spec (ws := Jvm.Cond.code vz_y7 prog_18_method_11_code 3 (some .int) :: vz_W) B.pre
  have hts : ∀ w ∈ vz_W, w.before ([.int (nI k), .int (nI len), y] : List Value).toArray s = true := fun w hw => hts0 w (List.mem_cons_of_mem _ hw)
  have hown : s.vm.findClass "jdk/internal/util/Preconditions" = some m.cls := findClass_of_methodNamed B.named
  have hlocks := B.notSynchronized
  have hS : va_S vz_F s.heap s.heap [] := va_S.rf
  have key : ∀ ls : Array Slot, lv_has ls 3 [(0, .int (nI k)), (1, .int (nI len)), (2, y)] → W p l e (headSpec (Jvm.Cond.code vz_y7 prog_18_method_11_code 3 (some .int) :: vz_W) (vz_rm 0)).room s m [Value.int (nI k), Value.int (nI len), y].toArray below meth c s.heap [] 0 0 (MQ below (vz_Q (some (.int (nI k)))) [Value.int (nI k), Value.int (nI len), y].toArray s 0 0 vz_F) (F0 m 0 ls []) := by
    intro ls hl
    refine lv_iload_n hx hb vz_d7_0 rfl (lv_at hl 0 rfl) ?_
    refine lv_if_lt (tgt := 9) hx hb vz_d7_1 rfl (fun h9 => absurd h9 (nI_pos (by omega))) (fun _ => ?_)
    refine lv_iload_n hx hb vz_d7_4 rfl (lv_at hl 0 rfl) ?_
    refine lv_iload_n hx hb vz_d7_5 rfl (lv_at hl 1 rfl) ?_
    refine lv_icmp_lt (tgt := 16) hx hb vz_d7_6 rfl (fun _ => ?_) (fun h9 => absurd (nI_lt hk h1) h9)
    refine lv_iload_n hx hb vz_d7_16 rfl (lv_at hl 0 rfl) ?_
    exact W.zret hx hb hr rfl (fun t ht _ => ⟨rfl, ht⟩) hS.2.2 vz_d7_17
  rcases hy with rfl | ⟨t, rfl⟩
  · rw [lg_entry_eq]
    exact key _ (lv_entry ([.int (nI k), .int (nI len), .null]) (n := 3) (Nat.le_of_ble_eq_true rfl))
  · rw [lg_entry_eq]
    exact key _ (lv_entry ([.int (nI k), .int (nI len), .ref t]) (n := 3) (Nat.le_of_ble_eq_true rfl))
set_option maxHeartbeats 1000000 in
theorem vz_m6 (l : Launch) {q v len : Nat} {f : Nat → Int32} (h0 : 0 < len) (h1 : len < 2 ^ 31) (hf : ∀ j, j < len → ∃ z, z < 128 ∧ f j = nI z) {k : Nat} (hk : k < len) : Met l vz_y6 (Jvm.Cond.code vz_y6 prog_14_method_155_code 2 none :: vz_W) (vz_rm 1) (vz_P q v len f [.int (nI k), .int (nI len)]) (vz_Q none) 0 0 vz_F := by
  refine Met.ofW (cc := prog_14_method_155_code) (maxL := 2) (ret := none) (by decide) rfl ?_
  intro p e s m args below meth c s₁ B hml hv
  obtain ⟨rfl, hw⟩ := hv
  have hw2 := hw
  obtain ⟨hO, hC, hV, hT, hZ, hG⟩ := hw2
  have hx := B.exec
  have hb := B.bytes
  have hr := B.returns
  have hts0 := atoms_spec (ws := Jvm.Cond.code vz_y6 prog_14_method_155_code 2 none :: vz_W) B.pre
  have hts : ∀ w ∈ vz_W, w.before ([.int (nI k), .int (nI len)] : List Value).toArray s = true := fun w hw => hts0 w (List.mem_cons_of_mem _ hw)
  have hown : s.vm.findClass "java/lang/String" = some m.cls := findClass_of_methodNamed B.named
  have hlocks := B.notSynchronized
  have hS : va_S vz_F s.heap s.heap [] := va_S.rf
  have hl := lv_entry ([.int (nI k), .int (nI len)]) (n := 2) (Nat.le_of_ble_eq_true rfl)
  rw [lg_entry_eq]
  generalize (lg_sl ([.int (nI k), .int (nI len)]) ++ List.replicate (2 - (lg_sl ([.int (nI k), .int (nI len)])).length) Slot.unset).toArray = ls at hl ⊢
  have hl : lv_has ls 2 [(0, .int (nI k)), (1, .int (nI len))] := hl
  refine lv_iload_n hx hb vz_d6_0 rfl (lv_at hl 0 rfl) ?_
  refine lv_iload_n hx hb vz_d6_1 rfl (lv_at hl 1 rfl) ?_
  have key : ∀ y : Value, (y = .null ∨ ∃ t, y = .ref t) → va_Z "jdk/internal/util/Preconditions" "SIOOBE_FORMATTER" "Ljava/util/function/BiFunction;" y vz_F s s.heap → W p l e (headSpec (Jvm.Cond.code vz_y6 prog_14_method_155_code 2 none :: vz_W) (vz_rm 1)).room s m [Value.int (nI k), Value.int (nI len)].toArray below meth c s.heap [] 0 0 (MQ below (vz_Q none) [Value.int (nI k), Value.int (nI len)].toArray s 0 0 vz_F) (F0 m 2 ls [.int (nI len), .int (nI k)]) := by
    intro y hy hy2
    refine va_gets hx hb hy2 hS hown (hts _ (List.mem_of_getElem? (i := 51) rfl)) (fun _ h9 => h9) vz_d6_2 ?_
    refine vz_back (va_runS (As := [.int (nI k), .int (nI len), y]) (rest := []) ⟨hx, hb, hml, hown, hts⟩ (vz_m7 l h0 h1 hf hk hy) ⟨callB_of 3 hts (vz_good (List.mem_of_getElem? (i := 20) rfl)) rfl rfl rfl (hts _ (List.mem_of_getElem? (i := 2) rfl)) (hts _ (List.mem_of_getElem? (i := 38) rfl)) ⟨by decide, by decide, by decide +kernel⟩ ⟨Nat.le_of_ble_eq_true rfl, Nat.le_of_ble_eq_true rfl⟩, (hts _ (List.mem_of_getElem? (i := 21) rfl))⟩ ⟨vz_blind, vz_pre hw⟩ rfl rfl hl.1 rfl (lv_room (Nat.le_of_ble_eq_true rfl)) vz_d6_5 ⟨Nat.zero_le _, Nat.zero_le _⟩) ?_
    refine lv_pop hx hb vz_d6_8 rfl ?_
    exact W.vret hx hb hr (fun t ht _ => ⟨rfl, ht⟩) hS.2.2 vz_d6_9
  rcases hG with hG | ⟨t, hG⟩
  · exact key _ (Or.inl rfl) hG
  · exact key _ (Or.inr ⟨t, rfl⟩) hG
set_option maxHeartbeats 1000000 in
theorem vz_m5 (l : Launch) {q v len : Nat} {f : Nat → Int32} (h0 : 0 < len) (h1 : len < 2 ^ 31) (hf : ∀ j, j < len → ∃ z, z < 128 ∧ f j = nI z) {k : Nat} (hk : k < len) : Met l vz_y5 (Jvm.Cond.code vz_y5 prog_15_method_2_code 2 (some .char) :: vz_W) (vz_rm 2) (vz_P q v len f [.ref v, .int (nI k)]) (vz_Q (some (.int (f k)))) 0 0 vz_F := by
  refine Met.ofW (cc := prog_15_method_2_code) (maxL := 2) (ret := (some .char)) (by decide) rfl ?_
  intro p e s m args below meth c s₁ B hml hv
  obtain ⟨rfl, hw⟩ := hv
  have hw2 := hw
  obtain ⟨hO, hC, hV, hT, hZ, hG⟩ := hw2
  have hx := B.exec
  have hb := B.bytes
  have hr := B.returns
  have hts0 := atoms_spec (ws := Jvm.Cond.code vz_y5 prog_15_method_2_code 2 (some .char) :: vz_W) B.pre
  have hts : ∀ w ∈ vz_W, w.before ([.ref v, .int (nI k)] : List Value).toArray s = true := fun w hw => hts0 w (List.mem_cons_of_mem _ hw)
  have hown : s.vm.findClass "java/lang/StringLatin1" = some m.cls := findClass_of_methodNamed B.named
  have hlocks := B.notSynchronized
  have hS : va_S vz_F s.heap s.heap [] := va_S.rf
  have hl := lv_entry ([.ref v, .int (nI k)]) (n := 2) (Nat.le_of_ble_eq_true rfl)
  rw [lg_entry_eq]
  generalize (lg_sl ([.ref v, .int (nI k)]) ++ List.replicate (2 - (lg_sl ([.ref v, .int (nI k)])).length) Slot.unset).toArray = ls at hl ⊢
  have hl : lv_has ls 2 [(0, .ref v), (1, .int (nI k))] := hl
  obtain ⟨z, hz, hz2⟩ := hf k hk
  refine lv_iload_n hx hb vz_d5_0 rfl (lv_at hl 1 rfl) ?_
  refine lv_aload_n hx hb vz_d5_1 rfl (lv_at hl 0 rfl) ?_
  refine va_tlen (v := nI len) hx hb hT hS rfl vz_d5_2 ?_
  refine vz_back (va_runS (As := [.int (nI k), .int (nI len)]) (rest := []) ⟨hx, hb, hml, hown, hts⟩ (vz_m6 l h0 h1 hf hk) ⟨callB_of 2 hts (vz_good (List.mem_of_getElem? (i := 18) rfl)) rfl rfl rfl (hts _ (List.mem_of_getElem? (i := 0) rfl)) (hts _ (List.mem_of_getElem? (i := 37) rfl)) ⟨by decide, by decide, by decide +kernel⟩ ⟨Nat.le_of_ble_eq_true rfl, Nat.le_of_ble_eq_true rfl⟩, (hts _ (List.mem_of_getElem? (i := 19) rfl))⟩ ⟨vz_blind, vz_pre hw⟩ rfl rfl hl.1 rfl (lv_room (Nat.le_of_ble_eq_true rfl)) vz_d5_3 ⟨Nat.zero_le _, Nat.zero_le _⟩) ?_
  refine lv_aload_n hx hb vz_d5_6 rfl (lv_at hl 0 rfl) ?_
  refine lv_iload_n hx hb vz_d5_7 rfl (lv_at hl 1 rfl) ?_
  refine va_tb (v := .int (nI z)) hx hb hT hS (nI_in hk h1) (by rw [nI_clamp (by omega), hz2]) vz_d5_8 ?_
  refine lv_sipush (v := 255) hx hb vz_d5_9 (by decide) ?_
  refine lv_iand hx hb vz_d5_12 ?_
  refine lv_i2c (v := nI z) hx hb vz_d5_13 (vz_c0 ⟨z, hz⟩) ?_
  rw [hz2]
  exact W.zret hx hb hr (vz_nar hz) (fun t ht _ => ⟨rfl, ht⟩) hS.2.2 vz_d5_14
set_option maxHeartbeats 1000000 in
theorem vz_m3 (l : Launch) {q v len : Nat} {f : Nat → Int32} (h0 : 0 < len) (h1 : len < 2 ^ 31) (hf : ∀ j, j < len → ∃ z, z < 128 ∧ f j = nI z) {k : Nat} (hk : k < len) : Met l vz_y3 (Jvm.Cond.code vz_y3 prog_14_method_56_code 2 (some .char) :: vz_W) (vz_rm 3) (vz_P q v len f [.ref q, .int (nI k)]) (vz_Q (some (.int (f k)))) 0 0 vz_F := by
  refine Met.ofW (cc := prog_14_method_56_code) (maxL := 2) (ret := (some .char)) (by decide) rfl ?_
  intro p e s m args below meth c s₁ B hml hv
  obtain ⟨rfl, hw⟩ := hv
  have hw2 := hw
  obtain ⟨hO, hC, hV, hT, hZ, hG⟩ := hw2
  have hx := B.exec
  have hb := B.bytes
  have hr := B.returns
  have hts0 := atoms_spec (ws := Jvm.Cond.code vz_y3 prog_14_method_56_code 2 (some .char) :: vz_W) B.pre
  have hts : ∀ w ∈ vz_W, w.before ([.ref q, .int (nI k)] : List Value).toArray s = true := fun w hw => hts0 w (List.mem_cons_of_mem _ hw)
  have hown : s.vm.findClass "java/lang/String" = some m.cls := findClass_of_methodNamed B.named
  have hlocks := B.notSynchronized
  have hS : va_S vz_F s.heap s.heap [] := va_S.rf
  have hl := lv_entry ([.ref q, .int (nI k)]) (n := 2) (Nat.le_of_ble_eq_true rfl)
  rw [lg_entry_eq]
  generalize (lg_sl ([.ref q, .int (nI k)]) ++ List.replicate (2 - (lg_sl ([.ref q, .int (nI k)])).length) Slot.unset).toArray = ls at hl ⊢
  have hl : lv_has ls 2 [(0, .ref q), (1, .int (nI k))] := hl
  obtain ⟨z, hz, hz2⟩ := hf k hk
  refine lv_aload_n hx hb vz_d3_0 rfl (lv_at hl 0 rfl) ?_
  refine vz_back (va_runV (C := "java/lang/String") (As := []) (rest := []) ⟨hx, hb, hml, hown, hts⟩ (vz_m4 l h0 h1 hf) ⟨callB_of 0 hts (vz_good (List.mem_of_getElem? (i := 13) rfl)) rfl rfl rfl (hts _ (List.mem_of_getElem? (i := 0) rfl)) (hts _ (List.mem_of_getElem? (i := 35) rfl)) ⟨by decide, by decide, by decide +kernel⟩ ⟨Nat.le_of_ble_eq_true rfl, Nat.le_of_ble_eq_true rfl⟩, (hts _ (List.mem_of_getElem? (i := 14) rfl)), (hts _ (List.mem_of_getElem? (i := 15) rfl))⟩ ⟨vz_blind, vz_recv hw, vz_pre hw⟩ rfl rfl hl.1 rfl (lv_room (Nat.le_of_ble_eq_true rfl)) vz_d3_1 ⟨Nat.zero_le _, Nat.zero_le _⟩) ?_
  refine lv_if_eq (tgt := 16) hx hb vz_d3_4 rfl (fun h9 => absurd h9 (by decide)) (fun _ => ?_)
  refine lv_aload_n hx hb vz_d3_7 rfl (lv_at hl 0 rfl) ?_
  refine vk_getf hx hb hV hS hown (hts _ (List.mem_of_getElem? (i := 52) rfl)) (fun _ h9 => h9) vz_d3_8 ?_
  refine lv_iload_n hx hb vz_d3_11 rfl (lv_at hl 1 rfl) ?_
  refine vz_back (va_runS (As := [.ref v, .int (nI k)]) (rest := []) ⟨hx, hb, hml, hown, hts⟩ (vz_m5 l h0 h1 hf hk) ⟨callB_of 2 hts (vz_good (List.mem_of_getElem? (i := 16) rfl)) rfl rfl rfl (hts _ (List.mem_of_getElem? (i := 1) rfl)) (hts _ (List.mem_of_getElem? (i := 36) rfl)) ⟨by decide, by decide, by decide +kernel⟩ ⟨Nat.le_of_ble_eq_true rfl, Nat.le_of_ble_eq_true rfl⟩, (hts _ (List.mem_of_getElem? (i := 17) rfl))⟩ ⟨vz_blind, vz_pre hw⟩ rfl rfl hl.1 rfl (lv_room (Nat.le_of_ble_eq_true rfl)) vz_d3_12 ⟨Nat.zero_le _, Nat.zero_le _⟩) ?_
  exact W.zret hx hb hr (by rw [hz2]; exact vz_nar hz) (fun t ht _ => ⟨rfl, ht⟩) hS.2.2 vz_d3_15
set_option maxHeartbeats 1000000 in
theorem vz_m11 (l : Launch) {q v len : Nat} {f : Nat → Int32} (h0 : 0 < len) (h1 : len < 2 ^ 31) (hf : ∀ j, j < len → ∃ z, z < 128 ∧ f j = nI z) {c9 : Nat} (hc9 : c9 < 256) : Met l vz_y11 (Jvm.Cond.code vz_y11 prog_15_method_4_code 1 (some .boolean) :: vz_W) (vz_rm 0) (vz_P q v len f [.int (nI c9)]) (vz_Q (some (.int 1))) 0 0 vz_F := by
  refine Met.ofW (cc := prog_15_method_4_code) (maxL := 1) (ret := (some .boolean)) (by decide) rfl ?_
  intro p e s m args below meth c s₁ B hml hv
  obtain ⟨rfl, hw⟩ := hv
  have hw2 := hw
  obtain ⟨hO, hC, hV, hT, hZ, hG⟩ := hw2
  have hx := B.exec
  have hb := B.bytes
  have hr := B.returns
  have hts0 := atoms_spec (ws := Jvm.Cond.code vz_y11 prog_15_method_4_code 1 (some .boolean) :: vz_W) B.pre
  have hts : ∀ w ∈ vz_W, w.before ([.int (nI c9)] : List Value).toArray s = true := fun w hw => hts0 w (List.mem_cons_of_mem _ hw)
  have hown : s.vm.findClass "java/lang/StringLatin1" = some m.cls := findClass_of_methodNamed B.named
  have hlocks := B.notSynchronized
  have hS : va_S vz_F s.heap s.heap [] := va_S.rf
  have hl := lv_entry ([.int (nI c9)]) (n := 1) (Nat.le_of_ble_eq_true rfl)
  rw [lg_entry_eq]
  generalize (lg_sl ([.int (nI c9)]) ++ List.replicate (1 - (lg_sl ([.int (nI c9)])).length) Slot.unset).toArray = ls at hl ⊢
  have hl : lv_has ls 1 [(0, .int (nI c9))] := hl
  refine lv_iload_n hx hb vz_d11_0 rfl (lv_at hl 0 rfl) ?_
  refine lv_if_lt (tgt := 15) hx hb vz_d11_1 rfl (fun h9 => absurd h9 (nI_pos (by omega))) (fun _ => ?_)
  refine lv_iload_n hx hb vz_d11_4 rfl (lv_at hl 0 rfl) ?_
  refine lv_sipush (v := nI 255) hx hb vz_d11_5 (by decide) ?_
  refine lv_icmp_gt (tgt := 15) hx hb vz_d11_8 rfl (fun h9 => absurd h9 (nI_nlt (by omega) (by omega))) (fun _ => ?_)
  refine lv_iconst (v := 1) hx hb vz_d11_11 (by decide) ?_
  refine lv_goto (tgt := 16) hx hb vz_d11_12 rfl ?_
  exact W.zret hx hb hr rfl (fun t ht _ => ⟨rfl, ht⟩) hS.2.2 vz_d11_16
set_option maxHeartbeats 1000000 in
theorem vz_m12 (l : Launch) {q v len : Nat} {f : Nat → Int32} (h0 : 0 < len) (h1 : len < 2 ^ 31) (hf : ∀ j, j < len → ∃ z, z < 128 ∧ f j = nI z) {c9 : Nat} (hc9 : c9 < 256) : Met l vz_y12 (Jvm.Cond.code vz_y12 prog_15_method_23_code 6 (some .int) :: vz_W) (vz_rm 0) (vz_P q v len f [.ref v, .int (nI c9), .int 0, .int (nI len)]) (vz_Q (some (.int (vz_ix f (nI c9) len 0)))) 0 0 vz_F := by
  refine Met.ofW (cc := prog_15_method_23_code) (maxL := 6) (ret := (some .int)) (by decide) rfl ?_
  intro p e s m args below meth c s₁ B hml hv
  obtain ⟨rfl, hw⟩ := hv
  have hw2 := hw
  obtain ⟨hO, hC, hV, hT, hZ, hG⟩ := hw2
  have hx := B.exec
  have hb := B.bytes
  have hr := B.returns
  have hts0 := atoms_spec (ws := Jvm.Cond.code vz_y12 prog_15_method_23_code 6 (some .int) :: vz_W) B.pre
  have hts : ∀ w ∈ vz_W, w.before ([.ref v, .int (nI c9), .int 0, .int (nI len)] : List Value).toArray s = true := fun w hw => hts0 w (List.mem_cons_of_mem _ hw)
  have hown : s.vm.findClass "java/lang/StringLatin1" = some m.cls := findClass_of_methodNamed B.named
  have hlocks := B.notSynchronized
  have hS : va_S vz_F s.heap s.heap [] := va_S.rf
  have hl := lv_entry ([.ref v, .int (nI c9), .int 0, .int (nI len)]) (n := 6) (Nat.le_of_ble_eq_true rfl)
  rw [lg_entry_eq]
  generalize (lg_sl ([.ref v, .int (nI c9), .int 0, .int (nI len)]) ++ List.replicate (6 - (lg_sl ([.ref v, .int (nI c9), .int 0, .int (nI len)])).length) Slot.unset).toArray = ls at hl ⊢
  have hl : lv_has ls 6 [(0, .ref v), (1, .int (nI c9)), (2, .int 0), (3, .int (nI len))] := hl
  refine lv_iload_n hx hb vz_d12_0 rfl (lv_at hl 1 rfl) ?_
  refine lv_i2b (v := (nI c9).toInt8.toInt32) hx hb vz_d12_1 rfl ?_
  refine lv_istore hx hb vz_d12_2 hl (Nat.le_of_ble_eq_true rfl) rfl (fun ls hl => ?_)
  have hl : lv_has ls 6 [(4, .int (nI c9).toInt8.toInt32), (0, .ref v), (1, .int (nI c9)), (2, .int 0), (3, .int (nI len))] := hl
  refine lv_iload_n hx hb vz_d12_4 rfl (lv_at hl 3 rfl) ?_
  refine lv_istore hx hb vz_d12_5 hl (Nat.le_of_ble_eq_true rfl) rfl (fun ls hl => ?_)
  have hl : lv_has ls 6 [(5, .int (nI 0)), (4, .int (nI c9).toInt8.toInt32), (0, .ref v), (1, .int (nI c9)), (2, .int 0), (3, .int (nI len))] := hl
  have loop : ∀ (n j : Nat) (ls : Array Slot), j + n = len → vz_ix f (nI c9) len 0 = vz_ix f (nI c9) n j → lv_has ls 6 [(5, .int (nI j)), (4, .int (nI c9).toInt8.toInt32), (0, .ref v), (1, .int (nI c9)), (2, .int 0), (3, .int (nI len))] → W p l e (headSpec (Jvm.Cond.code vz_y12 prog_15_method_23_code 6 (some .int) :: vz_W) (vz_rm 0)).room s m [Value.ref v, Value.int (nI c9), Value.int 0, Value.int (nI len)].toArray below meth c s.heap [] 0 0 (MQ below (vz_Q (some (.int (vz_ix f (nI c9) len 0)))) [Value.ref v, Value.int (nI c9), Value.int 0, Value.int (nI len)].toArray s 0 0 vz_F) (F0 m 7 ls []) := by
    intro n
    induction n with
    | zero =>
      intro j ls hj hR hl
      rw [hR]
      refine lv_iload hx hb vz_d12_7 (lv_at hl 0 rfl) ?_
      refine lv_iload_n hx hb vz_d12_9 rfl (lv_at hl 5 rfl) ?_
      refine lv_icmp_ge (tgt := 31) hx hb vz_d12_10 rfl (fun _ => ?_) (fun h9 => absurd (nI_le (a := len) (b := j) (by omega) (by omega)) h9)
      refine lv_iconst (v := -1) hx hb vz_d12_31 (by decide) ?_
      exact W.zret hx hb hr rfl (fun t ht _ => ⟨rfl, ht⟩) hS.2.2 vz_d12_32
    | succ n ih =>
      intro j ls hj hR hl
      obtain ⟨z, hz, hz2⟩ := hf j (by omega)
      have hj1 : j < len := by omega
      refine lv_iload hx hb vz_d12_7 (lv_at hl 0 rfl) ?_
      refine lv_iload_n hx hb vz_d12_9 rfl (lv_at hl 5 rfl) ?_
      refine lv_icmp_ge (tgt := 31) hx hb vz_d12_10 rfl (fun h9 => absurd h9 (nI_ge hj1 h1)) (fun _ => ?_)
      refine lv_aload_n hx hb vz_d12_13 rfl (lv_at hl 2 rfl) ?_
      refine lv_iload hx hb vz_d12_14 (lv_at hl 0 rfl) ?_
      refine va_tb (v := .int (nI z)) hx hb hT hS (nI_in hj1 h1) (by rw [nI_clamp (by omega), hz2]) vz_d12_16 ?_
      refine lv_iload hx hb vz_d12_17 (lv_at hl 1 rfl) ?_
      refine lv_icmp_ne (tgt := 25) hx hb vz_d12_19 rfl (fun h9 => ?_) (fun h9 => ?_)
      · have h8 : ¬ f j = nI c9 := fun h => h9 ((vz_b hz hc9).mpr (by rw [← hz2]; exact h))
        refine lv_iinc (k := 0) (v := nI (j + 1)) hx hb vz_d12_25 hl rfl (nI_succ j).symm (Nat.le_of_ble_eq_true rfl) rfl (fun ls hl => ?_)
        refine lv_goto (tgt := 7) hx hb vz_d12_28 rfl ?_
        exact ih (j + 1) ls (by omega) (by rw [hR, vz_ix, if_neg h8]) hl
      · have h8 : f j = nI c9 := by rw [hz2]; exact (vz_b hz hc9).mp h9
        rw [hR, vz_ix, if_pos h8]
        refine lv_iload hx hb vz_d12_22 (lv_at hl 0 rfl) ?_
        exact W.zret hx hb hr rfl (fun t ht _ => ⟨rfl, ht⟩) hS.2.2 vz_d12_24
  exact loop len 0 ls (Nat.zero_add _) rfl hl
set_option maxHeartbeats 1000000 in
theorem vz_m10 (l : Launch) {q v len : Nat} {f : Nat → Int32} (h0 : 0 < len) (h1 : len < 2 ^ 31) (hf : ∀ j, j < len → ∃ z, z < 128 ∧ f j = nI z) {c9 : Nat} (hc9 : c9 < 256) : Met l vz_y10 (Jvm.Cond.code vz_y10 prog_15_method_22_code 4 (some .int) :: vz_W) (vz_rm 1) (vz_P q v len f [.ref v, .int (nI c9), .int 0, .int (nI len)]) (vz_Q (some (.int (vz_ix f (nI c9) len 0)))) 0 0 vz_F := by
  refine Met.ofW (cc := prog_15_method_22_code) (maxL := 4) (ret := (some .int)) (by decide) rfl ?_
  intro p e s m args below meth c s₁ B hml hv
  obtain ⟨rfl, hw⟩ := hv
  have hw2 := hw
  obtain ⟨hO, hC, hV, hT, hZ, hG⟩ := hw2
  have hx := B.exec
  have hb := B.bytes
  have hr := B.returns
  have hts0 := atoms_spec (ws := Jvm.Cond.code vz_y10 prog_15_method_22_code 4 (some .int) :: vz_W) B.pre
  have hts : ∀ w ∈ vz_W, w.before ([.ref v, .int (nI c9), .int 0, .int (nI len)] : List Value).toArray s = true := fun w hw => hts0 w (List.mem_cons_of_mem _ hw)
  have hown : s.vm.findClass "java/lang/StringLatin1" = some m.cls := findClass_of_methodNamed B.named
  have hlocks := B.notSynchronized
  have hS : va_S vz_F s.heap s.heap [] := va_S.rf
  have hl := lv_entry ([.ref v, .int (nI c9), .int 0, .int (nI len)]) (n := 4) (Nat.le_of_ble_eq_true rfl)
  rw [lg_entry_eq]
  generalize (lg_sl ([.ref v, .int (nI c9), .int 0, .int (nI len)]) ++ List.replicate (4 - (lg_sl ([.ref v, .int (nI c9), .int 0, .int (nI len)])).length) Slot.unset).toArray = ls at hl ⊢
  have hl : lv_has ls 4 [(0, .ref v), (1, .int (nI c9)), (2, .int 0), (3, .int (nI len))] := hl
  refine lv_iload_n hx hb vz_d10_0 rfl (lv_at hl 1 rfl) ?_
  refine vz_back (va_runS (As := [.int (nI c9)]) (rest := []) ⟨hx, hb, hml, hown, hts⟩ (vz_m11 l h0 h1 hf hc9) ⟨callB_of 1 hts (vz_good (List.mem_of_getElem? (i := 30) rfl)) rfl rfl rfl (hts _ (List.mem_of_getElem? (i := 1) rfl)) (hts _ (List.mem_of_getElem? (i := 42) rfl)) ⟨by decide, by decide, by decide +kernel⟩ ⟨Nat.le_of_ble_eq_true rfl, Nat.le_of_ble_eq_true rfl⟩, (hts _ (List.mem_of_getElem? (i := 31) rfl))⟩ ⟨vz_blind, vz_pre hw⟩ rfl rfl hl.1 rfl (lv_room (Nat.le_of_ble_eq_true rfl)) vz_d10_1 ⟨Nat.zero_le _, Nat.zero_le _⟩) ?_
  refine lv_if_ne (tgt := 9) hx hb vz_d10_4 rfl (fun _ => ?_) (fun h9 => absurd h9 (by decide))
  refine lv_iload_n hx hb vz_d10_9 rfl (lv_at hl 2 rfl) ?_
  refine lv_iconst (v := 0) hx hb vz_d10_10 (by decide) ?_
  refine va_mmax hx hb (hml.trans hl.1.symm) hown (hts _ (List.mem_of_getElem? (i := 44) rfl)) (hts _ (List.mem_of_getElem? (i := 45) rfl)) (hts _ (List.mem_of_getElem? (i := 3) rfl)) (hts _ (List.mem_of_getElem? (i := 46) rfl)) (Nat.le_of_ble_eq_true rfl) (Nat.le_of_ble_eq_true rfl) (Nat.zero_le _) (Nat.zero_le _) vz_d10_11 ?_
  rw [ite_self]
  refine lv_istore_n hx hb vz_d10_14 rfl hl (Nat.le_of_ble_eq_true rfl) rfl (fun ls hl => ?_)
  have hl : lv_has ls 4 [(2, .int 0), (0, .ref v), (1, .int (nI c9)), (3, .int (nI len))] := hl
  refine lv_iload_n hx hb vz_d10_15 rfl (lv_at hl 3 rfl) ?_
  refine lv_aload_n hx hb vz_d10_16 rfl (lv_at hl 1 rfl) ?_
  refine va_tlen (v := nI len) hx hb hT hS rfl vz_d10_17 ?_
  refine va_mmin hx hb (hml.trans hl.1.symm) hown (hts _ (List.mem_of_getElem? (i := 47) rfl)) (hts _ (List.mem_of_getElem? (i := 48) rfl)) (hts _ (List.mem_of_getElem? (i := 3) rfl)) (hts _ (List.mem_of_getElem? (i := 49) rfl)) (Nat.le_of_ble_eq_true rfl) (Nat.le_of_ble_eq_true rfl) (Nat.zero_le _) (Nat.zero_le _) vz_d10_18 ?_
  rw [ite_self]
  refine lv_istore_n hx hb vz_d10_21 rfl hl (Nat.le_of_ble_eq_true rfl) rfl (fun ls hl => ?_)
  have hl : lv_has ls 4 [(3, .int (nI len)), (2, .int 0), (0, .ref v), (1, .int (nI c9))] := hl
  refine lv_iload_n hx hb vz_d10_22 rfl (lv_at hl 1 rfl) ?_
  refine lv_iload_n hx hb vz_d10_23 rfl (lv_at hl 0 rfl) ?_
  refine lv_icmp_lt (tgt := 29) hx hb vz_d10_24 rfl (fun _ => ?_) (fun h9 => absurd (nI_lt (a := 0) h0 h1) h9)
  refine lv_aload_n hx hb vz_d10_29 rfl (lv_at hl 2 rfl) ?_
  refine lv_iload_n hx hb vz_d10_30 rfl (lv_at hl 3 rfl) ?_
  refine lv_iload_n hx hb vz_d10_31 rfl (lv_at hl 1 rfl) ?_
  refine lv_iload_n hx hb vz_d10_32 rfl (lv_at hl 0 rfl) ?_
  refine vz_back (va_runS (As := [.ref v, .int (nI c9), .int 0, .int (nI len)]) (rest := []) ⟨hx, hb, hml, hown, hts⟩ (vz_m12 l h0 h1 hf hc9) ⟨callB_of 4 hts (vz_good (List.mem_of_getElem? (i := 32) rfl)) rfl rfl rfl (hts _ (List.mem_of_getElem? (i := 1) rfl)) (hts _ (List.mem_of_getElem? (i := 43) rfl)) ⟨by decide, by decide, by decide +kernel⟩ ⟨Nat.le_of_ble_eq_true rfl, Nat.le_of_ble_eq_true rfl⟩, (hts _ (List.mem_of_getElem? (i := 33) rfl))⟩ ⟨vz_blind, vz_pre hw⟩ rfl rfl hl.1 rfl (lv_room (Nat.le_of_ble_eq_true rfl)) vz_d10_33 ⟨Nat.zero_le _, Nat.zero_le _⟩) ?_
  exact W.zret hx hb hr rfl (fun t ht _ => ⟨rfl, ht⟩) hS.2.2 vz_d10_36
set_option maxHeartbeats 1000000 in
theorem vz_m9 (l : Launch) {q v len : Nat} {f : Nat → Int32} (h0 : 0 < len) (h1 : len < 2 ^ 31) (hf : ∀ j, j < len → ∃ z, z < 128 ∧ f j = nI z) {c9 : Nat} (hc9 : c9 < 256) : Met l vz_y9 (Jvm.Cond.code vz_y9 prog_14_method_80_code 3 (some .int) :: vz_W) (vz_rm 2) (vz_P q v len f [.ref q, .int (nI c9), .int 0]) (vz_Q (some (.int (vz_ix f (nI c9) len 0)))) 0 0 vz_F := by
  refine Met.ofW (cc := prog_14_method_80_code) (maxL := 3) (ret := (some .int)) (by decide) rfl ?_
  intro p e s m args below meth c s₁ B hml hv
  obtain ⟨rfl, hw⟩ := hv
  have hw2 := hw
  obtain ⟨hO, hC, hV, hT, hZ, hG⟩ := hw2
  have hx := B.exec
  have hb := B.bytes
  have hr := B.returns
  have hts0 := atoms_spec (ws := Jvm.Cond.code vz_y9 prog_14_method_80_code 3 (some .int) :: vz_W) B.pre
  have hts : ∀ w ∈ vz_W, w.before ([.ref q, .int (nI c9), .int 0] : List Value).toArray s = true := fun w hw => hts0 w (List.mem_cons_of_mem _ hw)
  have hown : s.vm.findClass "java/lang/String" = some m.cls := findClass_of_methodNamed B.named
  have hlocks := B.notSynchronized
  have hS : va_S vz_F s.heap s.heap [] := va_S.rf
  have hl := lv_entry ([.ref q, .int (nI c9), .int 0]) (n := 3) (Nat.le_of_ble_eq_true rfl)
  rw [lg_entry_eq]
  generalize (lg_sl ([.ref q, .int (nI c9), .int 0]) ++ List.replicate (3 - (lg_sl ([.ref q, .int (nI c9), .int 0])).length) Slot.unset).toArray = ls at hl ⊢
  have hl : lv_has ls 3 [(0, .ref q), (1, .int (nI c9)), (2, .int 0)] := hl
  refine lv_aload_n hx hb vz_d9_0 rfl (lv_at hl 0 rfl) ?_
  refine vz_back (va_runV (C := "java/lang/String") (As := []) (rest := []) ⟨hx, hb, hml, hown, hts⟩ (vz_m4 l h0 h1 hf) ⟨callB_of 0 hts (vz_good (List.mem_of_getElem? (i := 13) rfl)) rfl rfl rfl (hts _ (List.mem_of_getElem? (i := 0) rfl)) (hts _ (List.mem_of_getElem? (i := 35) rfl)) ⟨by decide, by decide, by decide +kernel⟩ ⟨Nat.le_of_ble_eq_true rfl, Nat.le_of_ble_eq_true rfl⟩, (hts _ (List.mem_of_getElem? (i := 14) rfl)), (hts _ (List.mem_of_getElem? (i := 15) rfl))⟩ ⟨vz_blind, vz_recv hw, vz_pre hw⟩ rfl rfl hl.1 rfl (lv_room (Nat.le_of_ble_eq_true rfl)) vz_d9_1 ⟨Nat.zero_le _, Nat.zero_le _⟩) ?_
  refine lv_if_eq (tgt := 23) hx hb vz_d9_4 rfl (fun h9 => absurd h9 (by decide)) (fun _ => ?_)
  refine lv_aload_n hx hb vz_d9_7 rfl (lv_at hl 0 rfl) ?_
  refine vk_getf hx hb hV hS hown (hts _ (List.mem_of_getElem? (i := 52) rfl)) (fun _ h9 => h9) vz_d9_8 ?_
  refine lv_iload_n hx hb vz_d9_11 rfl (lv_at hl 1 rfl) ?_
  refine lv_iload_n hx hb vz_d9_12 rfl (lv_at hl 2 rfl) ?_
  refine lv_aload_n hx hb vz_d9_13 rfl (lv_at hl 0 rfl) ?_
  refine vz_back (va_runV (C := "java/lang/String") (As := []) (rest := [.int 0, .int (nI c9), .ref v]) ⟨hx, hb, hml, hown, hts⟩ (vz_m1 l h0 h1 hf) ⟨callB_of 0 hts (vz_good (List.mem_of_getElem? (i := 4) rfl)) rfl rfl rfl (hts _ (List.mem_of_getElem? (i := 0) rfl)) (hts _ (List.mem_of_getElem? (i := 40) rfl)) ⟨by decide, by decide, by decide +kernel⟩ ⟨Nat.le_of_ble_eq_true rfl, Nat.le_of_ble_eq_true rfl⟩, (hts _ (List.mem_of_getElem? (i := 5) rfl)), (hts _ (List.mem_of_getElem? (i := 6) rfl))⟩ ⟨vz_blind, vz_recv hw, vz_pre hw⟩ rfl rfl hl.1 rfl (lv_room (Nat.le_of_ble_eq_true rfl)) vz_d9_14 ⟨Nat.zero_le _, Nat.zero_le _⟩) ?_
  refine vz_back (va_runS (As := [.ref v, .int (nI c9), .int 0, .int (nI len)]) (rest := []) ⟨hx, hb, hml, hown, hts⟩ (vz_m10 l h0 h1 hf hc9) ⟨callB_of 4 hts (vz_good (List.mem_of_getElem? (i := 28) rfl)) rfl rfl rfl (hts _ (List.mem_of_getElem? (i := 1) rfl)) (hts _ (List.mem_of_getElem? (i := 41) rfl)) ⟨by decide, by decide, by decide +kernel⟩ ⟨Nat.le_of_ble_eq_true rfl, Nat.le_of_ble_eq_true rfl⟩, (hts _ (List.mem_of_getElem? (i := 29) rfl))⟩ ⟨vz_blind, vz_pre hw⟩ rfl rfl hl.1 rfl (lv_room (Nat.le_of_ble_eq_true rfl)) vz_d9_17 ⟨Nat.zero_le _, Nat.zero_le _⟩) ?_
  refine lv_goto (tgt := 36) hx hb vz_d9_20 rfl ?_
  exact W.zret hx hb hr rfl (fun t ht _ => ⟨rfl, ht⟩) hS.2.2 vz_d9_36
set_option maxHeartbeats 1000000 in
theorem vz_m8 (l : Launch) {q v len : Nat} {f : Nat → Int32} (h0 : 0 < len) (h1 : len < 2 ^ 31) (hf : ∀ j, j < len → ∃ z, z < 128 ∧ f j = nI z) {c9 : Nat} (hc9 : c9 < 256) : Met l vz_y8 (Jvm.Cond.code vz_y8 prog_14_method_79_code 2 (some .int) :: vz_W) (vz_rm 3) (vz_P q v len f [.ref q, .int (nI c9)]) (vz_Q (some (.int (vz_ix f (nI c9) len 0)))) 0 0 vz_F := by
  refine Met.ofW (cc := prog_14_method_79_code) (maxL := 2) (ret := (some .int)) (by decide) rfl ?_
  intro p e s m args below meth c s₁ B hml hv
  obtain ⟨rfl, hw⟩ := hv
  have hw2 := hw
  obtain ⟨hO, hC, hV, hT, hZ, hG⟩ := hw2
  have hx := B.exec
  have hb := B.bytes
  have hr := B.returns
  have hts0 := atoms_spec (ws := Jvm.Cond.code vz_y8 prog_14_method_79_code 2 (some .int) :: vz_W) B.pre
  have hts : ∀ w ∈ vz_W, w.before ([.ref q, .int (nI c9)] : List Value).toArray s = true := fun w hw => hts0 w (List.mem_cons_of_mem _ hw)
  have hown : s.vm.findClass "java/lang/String" = some m.cls := findClass_of_methodNamed B.named
  have hlocks := B.notSynchronized
  have hS : va_S vz_F s.heap s.heap [] := va_S.rf
  have hl := lv_entry ([.ref q, .int (nI c9)]) (n := 2) (Nat.le_of_ble_eq_true rfl)
  rw [lg_entry_eq]
  generalize (lg_sl ([.ref q, .int (nI c9)]) ++ List.replicate (2 - (lg_sl ([.ref q, .int (nI c9)])).length) Slot.unset).toArray = ls at hl ⊢
  have hl : lv_has ls 2 [(0, .ref q), (1, .int (nI c9))] := hl
  refine lv_aload_n hx hb vz_d8_0 rfl (lv_at hl 0 rfl) ?_
  refine lv_iload_n hx hb vz_d8_1 rfl (lv_at hl 1 rfl) ?_
  refine lv_iconst (v := 0) hx hb vz_d8_2 (by decide) ?_
  refine vz_back (va_runV (C := "java/lang/String") (As := [.int (nI c9), .int 0]) (rest := []) ⟨hx, hb, hml, hown, hts⟩ (vz_m9 l h0 h1 hf hc9) ⟨callB_of 2 hts (vz_good (List.mem_of_getElem? (i := 25) rfl)) rfl rfl rfl (hts _ (List.mem_of_getElem? (i := 0) rfl)) (hts _ (List.mem_of_getElem? (i := 39) rfl)) ⟨by decide, by decide, by decide +kernel⟩ ⟨Nat.le_of_ble_eq_true rfl, Nat.le_of_ble_eq_true rfl⟩, (hts _ (List.mem_of_getElem? (i := 26) rfl)), (hts _ (List.mem_of_getElem? (i := 27) rfl))⟩ ⟨vz_blind, vz_recv hw, vz_pre hw⟩ rfl rfl hl.1 rfl (lv_room (Nat.le_of_ble_eq_true rfl)) vz_d8_3 ⟨Nat.zero_le _, Nat.zero_le _⟩) ?_
  exact W.zret hx hb hr rfl (fun t ht _ => ⟨rfl, ht⟩) hS.2.2 vz_d8_6
