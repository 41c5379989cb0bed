/-! THE CLAIM OUT OF ONE WALK OF THE LAW'S BODY. Your part is whole_start (and what it stands on); all else here is the same for every law, but numbers. -/
def R_law : String := "SelfSortingLaw"
def lw_P (b : Addr) (xs : List Int32) (args : Array Value) (s : State) : Prop := args = #[.ref b] ∧ s.IntsAt b xs ∧ xs.length ≤ 3072 ∧ (Jvm.Cond.and given_1 narrow_1).before args s = true
def lw_Q (_ : Array Value) (s : State) (o : Outcome) (t : State) : Prop := o = .returned (some (.int 1)) ∧ Framed s o t [] 600000 7302250
def lw_Z (below : List Frame) (a : Array Value) (s : State) : State → Prop := fun t => ∃ o, t.status = .running ∧ Ended t below o ∧ lw_Q a s o t
/-- the law's own end, with 1 on the stack, nothing written that was there before, its room as the claim has it -/
theorem lw_ret {p : Program} {l : Launch} {e : Env} {s : State} {m : MethodId} {below : List Frame} {meth : Method} {c : Code} {b : Nat} (hx : p.tables.exec = Jvm.exec) (hb : c.code = code) (hr : meth.sig.returnType = ret) (hlocks : meth.locks = false) {pc : Nat} {H : Heap} {ls : Array Slot} (hdg : decode code pc = .ok (.ireturn, 1)) : W p l e room_1 s m #[Value.ref b] below meth c H [] 600000 7302250 (lw_Z below #[Value.ref b] s) (F0 m pc ls [.int 1]) := by
  intro T hT X
  obtain ⟨fs, hret, hrun, hended, hW, hframe⟩ := X.leave (v := some (.int 1)) (hlocks := hlocks) (fun h => by rw [hr] at h; cases h)
  have hmeth' : T.vm.method? m = some meth := X.method'
  refine ⟨T.setFrames fs, ?_, .returned (some (.int 1)), hrun, hended, rfl, ⟨_, rfl⟩, hW, hframe⟩
  jvm_step X.here [X.here.top, hx, hb, hdg, hmeth', hr, ret, narrow_b1]
  (try refine ⟨rfl, ?_⟩); (try refine ⟨rfl, ?_⟩)
  first | (intro acts; rw [hret _ acts rfl rfl rfl]) | rw [hret _ _ rfl rfl rfl]
  exact Steps.refl _
/-- what holds at the law's entry: the machine, the code, the tables' words (any of lw_tbl by 'hts w (by decide +kernel)'), the script of L ints xs at the cell b, what the Statement gives of the start (any of its parts by flat_of_before) -/
def lw_At (p : Program) (s : State) (m : MethodId) (meth : Method) (c : Code) (b L : Nat) (xs : Nat → Int32) : Prop :=
  p.tables.exec = Jvm.exec ∧ c.code = code ∧ meth.sig.returnType = ret ∧ c.maxLocals = 4 ∧ s.vm.findClass R_law = some m.cls ∧ (∀ w ∈ lw_tbl, w.before #[Value.ref b] s = true) ∧ va_X b L xs s s.heap ∧ b < s.heap.size ∧ meth.locks = false ∧ (Jvm.Cond.and given_1 narrow_1).before #[Value.ref b] s = true
/-! From the law's entry to its end, out of the small machine's run. -/
theorem rn_path {E : mm_EV} {me : Nat} : ∀ (n : Nat) (z : mm_St) (res : mm_Rs), mm_Rn mm_ct mm_CM E me n z res → ∃ (k : Nat) (z' : mm_St), mm_Pt mm_ct mm_CM E me k z z' ∧ mm_Ret mm_CM me z' res
  | 0, _, _, h => h.elim
  | n + 1, z, res, h => by
    rcases h with h | ⟨z', h1, h2⟩
    · exact ⟨0, z, rfl, h⟩
    · obtain ⟨k, z'', g1, g2⟩ := rn_path n z' res h2
      exact ⟨k + 1, z'', ⟨z', h1, g1⟩, g2⟩
theorem mm_Ml_len : mm_Ml.length = 290 := by decide +kernel
set_option maxRecDepth 100000 in
theorem mm_AllMe : mm_AllM mm_ct mm_CM mm_cl mm_WS mm_NW := by
  intro k h98 ⟨pc, t, h⟩
  have hk : k < 289 ∨ k = 289 ∨ 290 ≤ k := by omega
  rcases hk with hk | rfl | hk
  · have hl : k < mm_Ml.length := by rw [mm_Ml_len]; omega
    have e : mm_CM k = mm_Ml[k] := by
      unfold mm_CM
      rw [mm_nth_eq, List.getElem?_eq_getElem hl]
      rfl
    rw [e]
    refine mm_all _ ?_
    have e2 : ([me_0, me_1, me_2, me_3, me_4, me_5, me_6, me_7, me_8, me_9, me_10, me_11, me_12, me_13, me_14, me_15, me_16, me_17, me_18, me_19, me_20, me_21, me_22, me_23, me_24, me_25, me_26, me_27, me_28, me_29, me_30, me_31, me_32, me_33, me_34, me_35, me_36, me_37, me_38, me_39, me_40, me_41, me_42, me_43, me_44, me_45, me_46, me_47, me_48, me_49, me_50, me_51, me_52, me_53, me_54, me_55, me_56, me_57, me_58, me_59, me_60, me_61, me_62, me_63, me_64, me_65, me_66, me_67, me_68, me_69, me_70, me_71, me_72, me_73, me_74, me_75, me_76, me_77, me_78, me_79, me_80, me_81, me_82, me_83, me_84, me_85, me_86, me_87, me_88, me_89, me_90, me_91, me_92, me_93, me_94, me_95, me_96, me_97, me_98, me_99, me_100, me_101, me_102, me_103, me_104, me_105, me_106, me_107, me_108, me_109, me_110, me_111, me_112, me_113, me_114, me_115, me_116, me_117, me_118, me_119, me_120, me_121, me_122, me_123, me_124, me_125, me_126, me_127, me_128, me_129, me_130, me_131, me_132, me_133, me_134, me_135, me_136, me_137, me_138, me_139, me_140, me_141, me_142, me_143, me_144, me_145, me_146, me_147, me_148, me_149, me_150, me_151, me_152, me_153, me_154, me_155, me_156, me_157, me_158, me_159, me_160, me_161, me_162, me_163, me_164, me_165, me_166, me_167, me_168, me_169, me_170, me_171, me_172, me_173, me_174, me_175, me_176, me_177, me_178, me_179, me_180, me_181, me_182, me_183, me_184, me_185, me_186, me_187, me_188, me_189, me_190, me_191, me_192, me_193, me_194, me_195, me_196, me_197, me_198, me_199, me_200, me_201, me_202, me_203, me_204, me_205, me_206, me_207, me_208, me_209, me_210, me_211, me_212, me_213, me_214, me_215, me_216, me_217, me_218, me_219, me_220, me_221, me_222, me_223, me_224, me_225, me_226, me_227, me_228, me_229, me_230, me_231, me_232, me_233, me_234, me_235, me_236, me_237, me_238, me_239, me_240, me_241, me_242, me_243, me_244, me_245, me_246, me_247, me_248, me_249, me_250, me_251, me_252, me_253, me_254, me_255, me_256, me_257, me_258, me_259, me_260, me_261, me_262, me_263, me_264, me_265, me_266, me_267, me_268, me_269, me_270, me_271, me_272, me_273, me_274, me_275, me_276, me_277, me_278, me_279, me_280, me_281, me_282, me_283, me_284, me_285, me_286, me_287, me_288] : List mm_Me)[k]? = some mm_Ml[k] := by
      have e3 : mm_Ml[k]? = some mm_Ml[k] := List.getElem?_eq_getElem hl
      have e4 : mm_Ml = [me_0, me_1, me_2, me_3, me_4, me_5, me_6, me_7, me_8, me_9, me_10, me_11, me_12, me_13, me_14, me_15, me_16, me_17, me_18, me_19, me_20, me_21, me_22, me_23, me_24, me_25, me_26, me_27, me_28, me_29, me_30, me_31, me_32, me_33, me_34, me_35, me_36, me_37, me_38, me_39, me_40, me_41, me_42, me_43, me_44, me_45, me_46, me_47, me_48, me_49, me_50, me_51, me_52, me_53, me_54, me_55, me_56, me_57, me_58, me_59, me_60, me_61, me_62, me_63, me_64, me_65, me_66, me_67, me_68, me_69, me_70, me_71, me_72, me_73, me_74, me_75, me_76, me_77, me_78, me_79, me_80, me_81, me_82, me_83, me_84, me_85, me_86, me_87, me_88, me_89, me_90, me_91, me_92, me_93, me_94, me_95, me_96, me_97, me_98, me_99, me_100, me_101, me_102, me_103, me_104, me_105, me_106, me_107, me_108, me_109, me_110, me_111, me_112, me_113, me_114, me_115, me_116, me_117, me_118, me_119, me_120, me_121, me_122, me_123, me_124, me_125, me_126, me_127, me_128, me_129, me_130, me_131, me_132, me_133, me_134, me_135, me_136, me_137, me_138, me_139, me_140, me_141, me_142, me_143, me_144, me_145, me_146, me_147, me_148, me_149, me_150, me_151, me_152, me_153, me_154, me_155, me_156, me_157, me_158, me_159, me_160, me_161, me_162, me_163, me_164, me_165, me_166, me_167, me_168, me_169, me_170, me_171, me_172, me_173, me_174, me_175, me_176, me_177, me_178, me_179, me_180, me_181, me_182, me_183, me_184, me_185, me_186, me_187, me_188, me_189, me_190, me_191, me_192, me_193, me_194, me_195, me_196, me_197, me_198, me_199, me_200, me_201, me_202, me_203, me_204, me_205, me_206, me_207, me_208, me_209, me_210, me_211, me_212, me_213, me_214, me_215, me_216, me_217, me_218, me_219, me_220, me_221, me_222, me_223, me_224, me_225, me_226, me_227, me_228, me_229, me_230, me_231, me_232, me_233, me_234, me_235, me_236, me_237, me_238, me_239, me_240, me_241, me_242, me_243, me_244, me_245, me_246, me_247, me_248, me_249, me_250, me_251, me_252, me_253, me_254, me_255, me_256, me_257, me_258, me_259, me_260, me_261, me_262, me_263, me_264, me_265, me_266, me_267, me_268, me_269, me_270, me_271, me_272, me_273, me_274, me_275, me_276, me_277, me_278, me_279, me_280, me_281, me_282, me_283, me_284, me_285, me_286, me_287, me_288] ++ [me_289] := rfl
      have e5 : ([me_0, me_1, me_2, me_3, me_4, me_5, me_6, me_7, me_8, me_9, me_10, me_11, me_12, me_13, me_14, me_15, me_16, me_17, me_18, me_19, me_20, me_21, me_22, me_23, me_24, me_25, me_26, me_27, me_28, me_29, me_30, me_31, me_32, me_33, me_34, me_35, me_36, me_37, me_38, me_39, me_40, me_41, me_42, me_43, me_44, me_45, me_46, me_47, me_48, me_49, me_50, me_51, me_52, me_53, me_54, me_55, me_56, me_57, me_58, me_59, me_60, me_61, me_62, me_63, me_64, me_65, me_66, me_67, me_68, me_69, me_70, me_71, me_72, me_73, me_74, me_75, me_76, me_77, me_78, me_79, me_80, me_81, me_82, me_83, me_84, me_85, me_86, me_87, me_88, me_89, me_90, me_91, me_92, me_93, me_94, me_95, me_96, me_97, me_98, me_99, me_100, me_101, me_102, me_103, me_104, me_105, me_106, me_107, me_108, me_109, me_110, me_111, me_112, me_113, me_114, me_115, me_116, me_117, me_118, me_119, me_120, me_121, me_122, me_123, me_124, me_125, me_126, me_127, me_128, me_129, me_130, me_131, me_132, me_133, me_134, me_135, me_136, me_137, me_138, me_139, me_140, me_141, me_142, me_143, me_144, me_145, me_146, me_147, me_148, me_149, me_150, me_151, me_152, me_153, me_154, me_155, me_156, me_157, me_158, me_159, me_160, me_161, me_162, me_163, me_164, me_165, me_166, me_167, me_168, me_169, me_170, me_171, me_172, me_173, me_174, me_175, me_176, me_177, me_178, me_179, me_180, me_181, me_182, me_183, me_184, me_185, me_186, me_187, me_188, me_189, me_190, me_191, me_192, me_193, me_194, me_195, me_196, me_197, me_198, me_199, me_200, me_201, me_202, me_203, me_204, me_205, me_206, me_207, me_208, me_209, me_210, me_211, me_212, me_213, me_214, me_215, me_216, me_217, me_218, me_219, me_220, me_221, me_222, me_223, me_224, me_225, me_226, me_227, me_228, me_229, me_230, me_231, me_232, me_233, me_234, me_235, me_236, me_237, me_238, me_239, me_240, me_241, me_242, me_243, me_244, me_245, me_246, me_247, me_248, me_249, me_250, me_251, me_252, me_253, me_254, me_255, me_256, me_257, me_258, me_259, me_260, me_261, me_262, me_263, me_264, me_265, me_266, me_267, me_268, me_269, me_270, me_271, me_272, me_273, me_274, me_275, me_276, me_277, me_278, me_279, me_280, me_281, me_282, me_283, me_284, me_285, me_286, me_287, me_288] ++ [me_289] : List mm_Me)[k]? = some mm_Ml[k] := by rw [← e4]; exact e3
      rw [List.getElem?_append_left (Nat.lt_of_lt_of_le hk (Nat.le_of_ble_eq_true rfl))] at e5
      exact e5
    exact List.mem_of_getElem? e2
  · exact absurd (by rw [cm_289]; rfl) h98
  · have e : mm_CM k = mm_m0 := by
      unfold mm_CM
      rw [mm_nth_eq, List.getElem?_eq_none (by rw [mm_Ml_len]; exact hk)]
      rfl
    rw [e] at h
    cases h
def mm_fac (k : Nat) : Int32 := match k with
  | 0 => 1
  | 1 => 1
  | 2 => 2
  | 3 => 6
  | 4 => 24
  | 5 => 120
  | 6 => 720
  | _ => 0
/-- the memory before the law begins: the table of factorials and the script -/
def mm_M0 (L : Nat) (xs : Nat → Int32) : mm_M := (fun a => if a = 1000000 then (110, 7, []) else if a = 1000001 then (110, L, []) else (200, 0, []), (0, 0), fun a k => if a = 1000000 then mm_fac k else if a = 1000001 then xs k else 0, fun _ _ => 0)
theorem mm_wp_end {p : Program} {l : Launch} {e : Env} {s : State} {m : MethodId} {below : List Frame} {meth : Method} {c : Code} {b : Nat} {D : va_G} {cid : Nat → Nat} {base : Nat} {fo : Nat → Nat} (hx : p.tables.exec = Jvm.exec) (hb : c.code = code) (hr : meth.sig.returnType = ret) (hlocks : meth.locks = false) (hbase : base = s.heap.size) {z : mm_St} {res : mm_Rs} (h : mm_Ret mm_CM 289 z res) (h1 : res.1 = some (.int 1)) (hn : z.2.2.2.2.1.1 ≤ 600000) (hs : z.2.2.2.2.1.2 ≤ 7302250) :
    mm_WP p l e room_1 s m #[Value.ref b] below meth c D mm_cl cid base fo 0 0 (lw_Z below #[Value.ref b] s) z := by
  obtain ⟨i, ln, r1, r2, hcode, hM, h⟩ := h
  have hmc := mc_289
  rw [cm_289] at hcode
  obtain ⟨oe, oln, -⟩ := hmc.2 _ _ hcode
  have hdg := oe.1
  intro H locs ls hL hll hsz hn2 hP hS hFo
  dsimp only at hdg oln
  split at h
  · rcases oln with q | q
    · cases q
    dsimp only [mm_ln] at q
    subst q
    obtain ⟨x, ty, g1, g2, g3, g4⟩ := h
    rw [h1] at g2
    cases g2
    rw [g1]
    refine va_forget (fun q hq => by rw [← hbase]; exact hS.2.2 q hq) ?_
    refine W.widen (k := 600000) (n := 7302250) (by omega) (by omega) ?_
    exact lw_ret hx hb hr hlocks hdg
  · obtain ⟨x, g1, g2, g3⟩ := h
    rw [h1] at g2
    cases g2
  · obtain ⟨v, n, g1, g2, g3, g4⟩ := h
    rw [cm_289] at g3
    cases g3
  · obtain ⟨g1, g2, g3⟩ := h
    rw [h1] at g2
    cases g2
  · exact h.elim
set_option maxHeartbeats 2000000 in
set_option maxRecDepth 100000 in
theorem mm_start {p : Program} {e : Env} {s : State} {m : MethodId} {below : List Frame} {meth : Method} {c : Code} (l : Launch) {b L : Nat} {xs : Nat → Int32} (C0 : lw_At p s m meth c b L xs) {d : Nat} (hd : d ≤ 1000)
    (HH : mm_wp (mm_Ev mm_ct mm_CM d) 289 (0, mm_ent 4 [.ref 1000001], [], mm_M0 L xs) (fun res => res.1 = some (.int 1) ∧ res.2.2.1.1 ≤ 600000 ∧ res.2.2.1.2 ≤ 7302250)) : W p l e room_1 s m #[Value.ref b] below meth c s.heap [] 0 0 (lw_Z below #[Value.ref b] s) (entryFrame m ([Value.ref b] : List Value).toArray 4) := by
  obtain ⟨hx, hb, hr, hml, hown, hts, hX, hbl, hlocks, hgv⟩ := id C0
  have hfl := flat_of_before _ hgv
  have hA : ∀ a : Nat, a < s.heap.size → ¬ (fun q : Nat => s.heap.size ≤ q) a := fun a h g => by
    have g : s.heap.size ≤ a := g
    omega
  obtain ⟨ft, hft, hFT⟩ := va_Tof (tm := (.static "SelfSorting$Orders" "FACTORIALS" "[I")) (ty := .int) (N := 7) (f := fun j => .int (mm_fac j)) (A := fun q => s.heap.size ≤ q) (by decide) (hfl (Jvm.Cond.arrayOf (.static "SelfSorting$Orders" "FACTORIALS" "[I") .int) (by decide +kernel)) (va_eqt (hfl (Jvm.Cond.eq (.length (.static "SelfSorting$Orders" "FACTORIALS" "[I")) (.int 7)) (by decide +kernel))) (fun j hj => by
      rcases (by omega : j = 0 ∨ j = 1 ∨ j = 2 ∨ j = 3 ∨ j = 4 ∨ j = 5 ∨ j = 6) with rfl | rfl | rfl | rfl | rfl | rfl | rfl
      · exact va_eqt (hfl (Jvm.Cond.eq (.elem (.static "SelfSorting$Orders" "FACTORIALS" "[I") (.int 0)) (.int 1)) (by decide +kernel))
      · exact va_eqt (hfl (Jvm.Cond.eq (.elem (.static "SelfSorting$Orders" "FACTORIALS" "[I") (.int 1)) (.int 1)) (by decide +kernel))
      · exact va_eqt (hfl (Jvm.Cond.eq (.elem (.static "SelfSorting$Orders" "FACTORIALS" "[I") (.int 2)) (.int 2)) (by decide +kernel))
      · exact va_eqt (hfl (Jvm.Cond.eq (.elem (.static "SelfSorting$Orders" "FACTORIALS" "[I") (.int 3)) (.int 6)) (by decide +kernel))
      · exact va_eqt (hfl (Jvm.Cond.eq (.elem (.static "SelfSorting$Orders" "FACTORIALS" "[I") (.int 4)) (.int 24)) (by decide +kernel))
      · exact va_eqt (hfl (Jvm.Cond.eq (.elem (.static "SelfSorting$Orders" "FACTORIALS" "[I") (.int 5)) (.int 120)) (by decide +kernel))
      · exact va_eqt (hfl (Jvm.Cond.eq (.elem (.static "SelfSorting$Orders" "FACTORIALS" "[I") (.int 6)) (.int 720)) (by decide +kernel))) hA
  have hW : ∀ w ∈ mm_WS, w.before #[Value.ref b] s = true := fun w hw => hts w (List.mem_filter.mp hw).1
  have hZ := va_Zof (C := "SelfSorting$Orders") (n := "FACTORIALS") (d := "[I") (v := .ref ft) (A := fun q => s.heap.size ≤ q) (hts _ (tm_4 (mm_mem (i := 97) rfl))) (hW _ kw_159) hft hA
  obtain ⟨c0, i0, hk0⟩ := u_known (C := RX0) (T := TX0) (N := 2) (n := 2) hW ws_0 (hW _ kw_357)
  obtain ⟨c1, i1, hk1⟩ := u_known (C := RX1) (T := TX1) (N := 13) (n := 13) hW ws_1 (hW _ kw_351)
  obtain ⟨c2, i2, hk2⟩ := u_known (C := RX2) (T := TX2) (N := 4) (n := 4) hW ws_2 (hW _ kw_365)
  obtain ⟨c3, i3, hk3⟩ := u_known (C := RX3) (T := TX3) (N := 5) (n := 5) hW ws_3 (hW _ kw_369)
  obtain ⟨c4, i4, hk4⟩ := u_known (C := RX4) (T := TX4) (N := 10) (n := 10) hW ws_4 (hW _ kw_361)
  obtain ⟨c5, i5, hk5⟩ := u_known (C := RX5) (T := TX5) (N := 8) (n := 8) hW ws_5 (hW _ kw_49)
  obtain ⟨c6, i6, hk6⟩ := u_known (C := RX6) (T := TX6) (N := 8) (n := 8) hW ws_6 (hW _ kw_63)
  obtain ⟨c7, i7, hk7⟩ := u_known (C := RX7) (T := TX7) (N := 8) (n := 8) hW ws_7 (hW _ kw_1125)
  obtain ⟨c8, i8, hk8⟩ := u_known (C := RX8) (T := TX8) (N := 43) (n := 43) hW ws_8 (hW _ kw_1129)
  obtain ⟨q0, k0, m0, a01, a02, a03⟩ := Cond.arrayClass_spec (hW _ kw_1)
  obtain ⟨q1, k1, m1, a11, a12, a13⟩ := Cond.arrayClass_spec (hW _ kw_90)
  obtain ⟨q2, k2, m2, a21, a22, a23⟩ := Cond.arrayClass_spec (hW _ kw_634)
  obtain ⟨m3, q3, k3, a31, a32, a33, a34, a35⟩ := arrayOverA_spec (hts _ (tm_1 (mm_mem (i := 39) rfl)))
  obtain ⟨m4, q4, k4, a41, a42, a43, a44, a45⟩ := Cond.arrayOver_spec (hts _ (tm_1 (mm_mem (i := 77) rfl)))
  obtain ⟨m5, q5, k5, a51, a52, a53, a54, a55⟩ := Cond.arrayOver_spec (hts _ (tm_1 (mm_mem (i := 80) rfl)))
  obtain ⟨D, hD⟩ : ∃ D : va_G, ∀ (k : Nat) (q : vw_C), mm_cl[k]? = some q → u_Kn s q.1 q.2.1 q.2.2 (D.1 k) (D.2 k) := by
    refine ⟨(fun k => if k = 0 then c0 else if k = 1 then c1 else if k = 2 then c2 else if k = 3 then c3 else if k = 4 then c4 else if k = 5 then c5 else if k = 6 then c6 else if k = 7 then c7 else c8, fun k => if k = 0 then i0 else if k = 1 then i1 else if k = 2 then i2 else if k = 3 then i3 else if k = 4 then i4 else if k = 5 then i5 else if k = 6 then i6 else if k = 7 then i7 else i8), fun k q hq => ?_⟩
    have hk : k < 9 := (List.getElem?_eq_some_iff.mp hq).1
    rcases (by omega : k = 0 ∨ k = 1 ∨ k = 2 ∨ k = 3 ∨ k = 4 ∨ k = 5 ∨ k = 6 ∨ k = 7 ∨ k = 8) with rfl | rfl | rfl | rfl | rfl | rfl | rfl | rfl | rfl
    · cases hq; exact hk0
    · cases hq; exact hk1
    · cases hq; exact hk2
    · cases hq; exact hk3
    · cases hq; exact hk4
    · cases hq; exact hk5
    · cases hq; exact hk6
    · cases hq; exact hk7
    · cases hq; exact hk8
  obtain ⟨cid, hcid⟩ : ∃ cid : Nat → Nat, cid 100 = q0 ∧ cid 101 = q1 ∧ cid 102 = q2 ∧ cid 103 = q3 ∧ cid 104 = q4 ∧ cid 105 = q5 := ⟨fun k => if k = 100 then q0 else if k = 101 then q1 else if k = 102 then q2 else if k = 103 then q3 else if k = 104 then q4 else q5, rfl, rfl, rfl, rfl, rfl, rfl⟩
  obtain ⟨e0, e1, e2, e3, e4, e5⟩ := hcid
  have hK : va_K D mm_cl (mm_tys cid) s := by
    refine ⟨hD, fun k q hq => ?_⟩
    have hk : k < 6 := (List.getElem?_eq_some_iff.mp hq).1
    rcases (by omega : k = 0 ∨ k = 1 ∨ k = 2 ∨ k = 3 ∨ k = 4 ∨ k = 5) with rfl | rfl | rfl | rfl | rfl | rfl
    · cases hq; rw [e0]; exact ⟨fun N z => ⟨(fun q hq => by cases hq), k0, a02, m0, a03⟩, a01⟩
    · cases hq; rw [e1]; exact ⟨fun N z => ⟨(fun q hq => by cases hq), k1, a12, m1, a13⟩, a11⟩
    · cases hq; rw [e2]; exact ⟨fun N z => ⟨(fun q hq => by cases hq), k2, a22, m2, a23⟩, a21⟩
    · cases hq; rw [e3]; exact ⟨fun N z => ⟨(fun q hq => by cases hq), k3, a33, m3, a34⟩, a35⟩
    · cases hq; rw [e4]; exact ⟨fun N z => ⟨(fun q hq => by cases hq), k4, a43, m4, a44⟩, k4, m4, a43, a44, a41, a45⟩
    · cases hq; rw [e5]; exact ⟨fun N z => ⟨(fun q hq => by cases hq), k5, a53, m5, a54⟩, k5, m5, a53, a54, a51, a55⟩
  have hnw : ∀ w ∈ mm_NW, va_Nw w s := List.forall_mem_cons.mpr ⟨hts _ (tm_1 (mm_mem (i := 77) rfl)), List.forall_mem_cons.mpr ⟨hts _ (tm_1 (mm_mem (i := 80) rfl)), List.forall_mem_cons.mpr ⟨hts _ (tm_1 (mm_mem (i := 39) rfl)), List.forall_mem_cons.mpr ⟨va_Nw.of rfl (hts _ (tm_1 (mm_mem (i := 82) rfl))), List.forall_mem_cons.mpr ⟨va_Nw.of rfl (hts _ (tm_1 (mm_mem (i := 178) rfl))), List.forall_mem_cons.mpr ⟨va_Nw.of rfl (hts _ (tm_1 (mm_mem (i := 191) rfl))), List.forall_mem_cons.mpr ⟨va_Nw.of rfl (hts _ (tm_1 (mm_mem (i := 196) rfl))), List.forall_mem_cons.mpr ⟨va_Nw.of rfl (hts _ (tm_1 (mm_mem (i := 232) rfl))), List.forall_mem_cons.mpr ⟨va_Nw.of rfl (hts _ (tm_2 (mm_mem (i := 13) rfl))), List.forall_mem_cons.mpr ⟨va_Nw.of rfl (hts _ (tm_4 (mm_mem (i := 40) rfl))), List.forall_mem_cons.mpr ⟨va_Nw.of rfl (hts _ (tm_4 (mm_mem (i := 59) rfl))), List.forall_mem_cons.mpr ⟨va_Nw.of rfl (hts _ (tm_4 (mm_mem (i := 133) rfl))), List.forall_mem_cons.mpr ⟨va_Nw.of rfl (hts _ (tm_4 (mm_mem (i := 151) rfl))), fun _ h => nomatch h⟩⟩⟩⟩⟩⟩⟩⟩⟩⟩⟩⟩⟩
  obtain ⟨q9, hq9⟩ := zs_start hts hgv
  obtain ⟨fo, hfo0, hfo1, hfo2⟩ : ∃ fo : Nat → Nat, fo 1000000 = ft ∧ fo 1000001 = b ∧ ∀ a, a = 1000002 ∨ a = 1000003 → fo a = q9 a := ⟨fun a => if a = 1000000 then ft else if a = 1000001 then b else q9 a, rfl, rfl, fun a h => by rcases h with rfl | rfl <;> rfl⟩
  have hZs : mm_Zs mm_ct.2.2.2 (mm_ad s.heap.size fo) s.heap.size s s.heap := by
    intro k q hq
    have hk : k < 1 := (List.getElem?_eq_some_iff.mp hq).1
    have hk0 : k = 0 := by omega
    subst hk0
    cases hq
    show va_Z "SelfSorting$Orders" "FACTORIALS" "[I" (.ref (mm_ad s.heap.size fo 1000000)) _ s s.heap
    rw [show mm_ad s.heap.size fo 1000000 = ft from hfo0]
    exact hZ
  have hFo : mm_Fo fo s.heap.size (mm_M0 L xs) s s.heap := by
    refine ⟨fun a ha hc => ?_, fun a ha => by rw [hfo2 a ha]; exact hq9 a ha⟩
    by_cases h0 : a = 1000000
    · subst h0
      rw [hfo0]
      exact hFT
    · by_cases h1 : a = 1000001
      · subst h1
        rw [hfo1]
        obtain ⟨scr, g1, g2, g3, g4, g5⟩ := hX
        have hL2 : ((mm_M0 L xs).1 1000001).2.1 = L := rfl
        have hv2 : ∀ j, (mm_M0 L xs).2.2.1 1000001 j = xs j := fun j => rfl
        refine ⟨scr, g1, g2, g3, by rw [hL2, g4]; exact Nat.le_refl _, by rw [hL2, g4], fun j hj => ?_, fun z => ?_⟩
        · exact g5 j hj
        · have z : s.heap.size ≤ b := z
          omega
      · have : ((mm_M0 L xs).1 a).1 = 200 := by simp [mm_M0, h0, h1]
        rw [this] at hc
        cases hc
  obtain ⟨n, res, hrn, hq1, hq2, hq3⟩ := HH
  obtain ⟨k, z', hpt, hret⟩ := rn_path n _ res hrn
  have hM : res.2 = z'.2.2.2 := hret.choose_spec.choose_spec.choose_spec.choose_spec.2.1
  have kp := mm_Kp_pt (mm_Kp_ev (ct := mm_ct) (CM := mm_CM) d) k _ z' hpt
  rw [hM] at hq2 hq3
  have hend := mm_wp_end (p := p) (l := l) (e := e) (m := m) (below := below) (b := b) (D := D) (cid := cid) (fo := fo) hx hb hr hlocks (rfl : s.heap.size = s.heap.size) hret hq1 hq2 hq3
  have hall := mm_snd_pt (p := p) (l := l) (e := e) (R := room_1) (s := s) (m := m) (args := #[Value.ref b]) (below := below) (meth := meth) (c := c) (Q := lw_Z below #[Value.ref b] s) (D := D) (cl := mm_cl) (cid := cid) (base := s.heap.size) (fo := fo) (WS := mm_WS) (NW := mm_NW) (ct := mm_ct) (CM := mm_CM) (E := mm_Ev mm_ct mm_CM d) (me := 289) (d := d) (n0 := 0) (s0 := 0) hx (by rw [cm_289]; exact hb) (by rw [cm_289]; exact hml) (by rw [cm_289]; exact hown) (fun q => by rw [cm_289] at q; exact absurd q (by decide)) hW mm_tb (by rw [cm_289]; exact mc_289) hK hnw hZs (Nat.le_refl _) (mm_met mm_tb mm_AllMe d) ⟨by show d + 5 ≤ 2048; omega, by show 60 * (d + 5) ≤ 84000; omega⟩ k _ z' (Nat.zero_le _) (Nat.zero_le _) hpt (by show _ ≤ 600000; omega) (by show _ ≤ 7302250; omega) hend
  have hlay : (mm_lay [Value.ref 1000001]).length ≤ 4 := by decide
  have hw := hall s.heap [] ((lg_sl ([Value.ref 1000001].map (mm_rn (mm_ad s.heap.size fo))) ++ List.replicate (4 - (lg_sl ([Value.ref 1000001].map (mm_rn (mm_ad s.heap.size fo)))).length) Slot.unset).toArray) (mm_ent_ok hlay) (by rw [hml]; exact mm_ent_len hlay) (by show _ = s.heap.size + 0; omega) (Nat.zero_le _) (fun k q h => by
      have h9 : (mm_ws cid (mm_ad s.heap.size fo) (mm_M0 L xs)) = [] := rfl
      rw [h9] at h
      cases h) va_S.rf hFo
  rw [lg_entry_eq]
  have e9 : mm_ad s.heap.size fo 1000001 = b := hfo1
  have e8 : [Value.ref 1000001].map (mm_rn (mm_ad s.heap.size fo)) = [Value.ref b] := by
    show [Value.ref (mm_ad s.heap.size fo 1000001)] = _
    rw [e9]
  rw [e8] at hw
  exact hw
