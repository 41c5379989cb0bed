/-! The calls that change the row. -/
theorem iq_0 {d L : Nat} {xs : Nat → Int32} {M : mm_M} (i : Nat) (h : IV L xs M) : ∃ M', lw_ok (mm_Ev mm_ct mm_CM (d + 20)) L xs 85 213 [.int (xs (i + 1)), .int (xs (i + 2))] M M' ∧ IV L xs M' := by
  obtain ⟨t, s, l, A, B, T, rfl, h⟩ := h
  have hV := h.1.2.2.1
  have hL := h.1.2.2.2
  have hK := KA_VA hV
  obtain ⟨x0, hx0, ex0⟩ : ∃ x, rI x ∧ xs (i + 1) = iI x := ⟨_, rI_v _, (iI_of _).symm⟩
  rw [ex0]
  obtain ⟨x1, hx1, ex1⟩ : ∃ x, rI x ∧ xs (i + 2) = iI x := ⟨_, rI_v _, (iI_of _).symm⟩
  rw [ex1]
  obtain ⟨s1, e1, f1, j1⟩ := sp_85 (d := 0) (L := L) (t := t) (s := s) (l := l) h.1.1 hK hx0 hx1
  have m1 : JM s1 A T := h.1.2.1.of (f1 599 (by omega)) (f1 601 (by omega)) (f1 604 (by omega))
  obtain ⟨s2, l2, e2, f2, g2, j2⟩ := sp_213 (d := 0) (L := L) (t := t) (s := s1) (l := l) m1 hK hx0 hx1
  exact iv_a h (ev_mono e1 (by omega)) (fun c p q r => f1 c (by omega)) j1 (ev_mono e2 (by omega)) (fun c p q r => f2 c (by omega)) (fun k _ _ _ _ => congrFun (f2 598 (by decide)) k) j2 (wideR_ok hV x0 x1) (okLg_wideR hL x0 x1) (s5_wideR x0 x1)
theorem iq_1 {d L : Nat} {xs : Nat → Int32} {M : mm_M} (i : Nat) (h : IV L xs M) : ∃ M', lw_ok (mm_Ev mm_ct mm_CM (d + 20)) L xs 86 158 [.int (xs (i + 1)), .int (xs (i + 2)), .int (xs (i + 3)), .int (xs (i + 4)), .int (xs (i + 5))] M M' ∧ IV L xs M' := by
  obtain ⟨t, s, l, A, B, T, rfl, h⟩ := h
  have hV := h.1.2.2.1
  have hL := h.1.2.2.2
  have hK := KA_VA hV
  obtain ⟨x0, hx0, ex0⟩ : ∃ x, rI x ∧ xs (i + 1) = iI x := ⟨_, rI_v _, (iI_of _).symm⟩
  rw [ex0]
  obtain ⟨x1, hx1, ex1⟩ : ∃ x, rI x ∧ xs (i + 2) = iI x := ⟨_, rI_v _, (iI_of _).symm⟩
  rw [ex1]
  obtain ⟨x2, hx2, ex2⟩ : ∃ x, rI x ∧ xs (i + 3) = iI x := ⟨_, rI_v _, (iI_of _).symm⟩
  rw [ex2]
  obtain ⟨x3, hx3, ex3⟩ : ∃ x, rI x ∧ xs (i + 4) = iI x := ⟨_, rI_v _, (iI_of _).symm⟩
  rw [ex3]
  obtain ⟨x4, hx4, ex4⟩ : ∃ x, rI x ∧ xs (i + 5) = iI x := ⟨_, rI_v _, (iI_of _).symm⟩
  rw [ex4]
  obtain ⟨s1, e1, f1, j1⟩ := sp_86 (d := 0) (L := L) (t := t) (s := s) (l := l) h.1.1 hK hx0 hx1 hx2 hx3 hx4
  have m1 : JM s1 A T := h.1.2.1.of (f1 599 (by omega)) (f1 601 (by omega)) (f1 604 (by omega))
  obtain ⟨s2, e2, f2, j2⟩ := sp_158 (d := 0) (L := L) (t := t) (s := s1) (l := l) m1 hK hx0 hx1 hx2 hx3 hx4
  exact iv_a h (ev_mono e1 (by omega)) (fun c p q r => f1 c (by omega)) j1 (ev_mono e2 (by omega)) (fun c p q r => f2 c (by omega)) (fun k _ _ _ _ => congrFun (f2 598 (by decide)) k) j2 (bookR_ok hV x0 x1 x2 x3 x4) (okLg_bookR hV hL x0 x1 x2 x3 x4) (s5_bookR hV x0 x1 x2 x3 x4)
theorem iq_2 {d L : Nat} {xs : Nat → Int32} {M : mm_M} (i : Nat) (h : IV L xs M) : ∃ M', lw_ok (mm_Ev mm_ct mm_CM (d + 20)) L xs 87 159 [.int (xs (i + 1))] M M' ∧ IV L xs M' := by
  obtain ⟨t, s, l, A, B, T, rfl, h⟩ := h
  have hV := h.1.2.2.1
  have hL := h.1.2.2.2
  have hK := KA_VA hV
  obtain ⟨x0, hx0, ex0⟩ : ∃ x, rI x ∧ xs (i + 1) = iI x := ⟨_, rI_v _, (iI_of _).symm⟩
  rw [ex0]
  obtain ⟨s1, e1, f1, j1⟩ := sr_87 (d := 0) (L := L) (t := t) (s := s) (l := l) h.1.1 hK hx0
  have m1 : JM s1 A T := h.1.2.1.of (f1 599 (by omega)) (f1 601 (by omega)) (f1 604 (by omega))
  obtain ⟨s2, e2, f2, j2⟩ := sr_159 (d := 0) (L := L) (t := t) (s := s1) (l := l) m1 hx0
  exact iv_a h (ev_mono e1 (by omega)) (fun c p q r => f1 c (by omega)) j1 (ev_mono e2 (by omega)) (fun c p q r => f2 c (by omega)) (fun k _ _ _ _ => congrFun (f2 598 (by decide)) k) j2 (needR_ok hV x0) (okLg_needR hL x0) (s5_needR A x0)
theorem iq_7 {d L : Nat} {xs : Nat → Int32} {M : mm_M} (i : Nat) (h : IV L xs M) : ∃ M', lw_ok (mm_Ev mm_ct mm_CM (d + 20)) L xs 92 199 [.int (xs (i + 1))] M M' ∧ IV L xs M' := by
  obtain ⟨t, s, l, A, B, T, rfl, h⟩ := h
  have hV := h.1.2.2.1
  have hL := h.1.2.2.2
  have hK := KA_VA hV
  obtain ⟨x0, hx0, ex0⟩ : ∃ x, rI x ∧ xs (i + 1) = iI x := ⟨_, rI_v _, (iI_of _).symm⟩
  rw [ex0]
  obtain ⟨s1, e1, f1, j1⟩ := sp_92 (d := 0) (L := L) (t := t) (s := s) (l := l) h.1.1 hK hx0
  have m1 : JM s1 A T := h.1.2.1.of (f1 599 (by omega)) (f1 601 (by omega)) (f1 604 (by omega))
  obtain ⟨s2, e2, f2, j2⟩ := sp_199 (d := 0) (L := L) (t := t) (s := s1) (l := l) m1 hK hx0
  exact iv_a h (ev_mono e1 (by omega)) (fun c p q r => f1 c (by omega)) j1 (ev_mono e2 (by omega)) (fun c p q r => f2 c (by omega)) (fun k _ _ _ _ => congrFun (f2 598 (by decide)) k) j2 (byR_ok hV x0) (okLg_byR hL x0) (s5_byR A x0)
theorem iq_8 {d L : Nat} {xs : Nat → Int32} {M : mm_M} (i : Nat) (h : IV L xs M) : ∃ M', lw_ok (mm_Ev mm_ct mm_CM (d + 20)) L xs 93 226 [.int (xs (i + 1))] M M' ∧ IV L xs M' := by
  obtain ⟨t, s, l, A, B, T, rfl, h⟩ := h
  have hV := h.1.2.2.1
  have hL := h.1.2.2.2
  have hK := KA_VA hV
  obtain ⟨x0, hx0, ex0⟩ : ∃ x, rI x ∧ xs (i + 1) = iI x := ⟨_, rI_v _, (iI_of _).symm⟩
  rw [ex0]
  obtain ⟨s1, e1, f1, j1⟩ := sp_93 (d := 0) (L := L) (t := t) (s := s) (l := l) h.1.1 hV hx0
  have m1 : JM s1 A T := h.1.2.1.of (f1 599 (by omega)) (f1 601 (by omega)) (f1 604 (by omega))
  obtain ⟨s2, l2, e2, f2, g2, k2, j2⟩ := sp_226 (d := 0) (L := L) (t := t) (s := s1) (l := l) m1 hV hx0
  exact iv_a h (ev_mono e1 (by omega)) (fun c p q r => f1 c (by omega)) j1 (ev_mono e2 (by omega)) (fun c p q r => f2 c (by omega)) (fun k a0 a1 a2 a3 => k2 k a0) j2 ((nightR_ok hV x0).1) (okLg_nightR hV hL x0) (s5_nightR hV x0)
theorem iq_9 {d L : Nat} {xs : Nat → Int32} {M : mm_M} (i : Nat) (h : IV L xs M) : ∃ M', lw_ok (mm_Ev mm_ct mm_CM (d + 20)) L xs 94 227 [.int (xs (i + 1)), .int (xs (i + 2))] M M' ∧ IV L xs M' := by
  obtain ⟨t, s, l, A, B, T, rfl, h⟩ := h
  have hV := h.1.2.2.1
  have hL := h.1.2.2.2
  have hK := KA_VA hV
  obtain ⟨x0, hx0, ex0⟩ : ∃ x, rI x ∧ xs (i + 1) = iI x := ⟨_, rI_v _, (iI_of _).symm⟩
  rw [ex0]
  obtain ⟨x1, hx1, ex1⟩ : ∃ x, rI x ∧ xs (i + 2) = iI x := ⟨_, rI_v _, (iI_of _).symm⟩
  rw [ex1]
  obtain ⟨s1, e1, f1, j1⟩ := sp_94 (d := 0) (L := L) (t := t) (s := s) (l := l) h.1.1 hV hx0 hx1
  have m1 : JM s1 A T := h.1.2.1.of (f1 599 (by omega)) (f1 601 (by omega)) (f1 604 (by omega))
  obtain ⟨s2, l2, e2, f2, g2, k2, j2⟩ := sp_227 (d := 0) (L := L) (t := t) (s := s1) (l := l) m1 hV hx0 hx1
  exact iv_a h (ev_mono e1 (by omega)) (fun c p q r => f1 c (by omega)) j1 (ev_mono e2 (by omega)) (fun c p q r => f2 c (by omega)) (fun k a0 a1 a2 a3 => k2 k a0) j2 ((nudgeR_ok hV x0 x1).1) (okLg_nudgeR hV hL x0 x1) (s5_nudgeR hV x0 x1)
theorem iq_10 {d L : Nat} {xs : Nat → Int32} {M : mm_M} (i : Nat) (h : IV L xs M) : ∃ M', lw_ok (mm_Ev mm_ct mm_CM (d + 20)) L xs 95 228 [.int (xs (i + 1))] M M' ∧ IV L xs M' := by
  obtain ⟨t, s, l, A, B, T, rfl, h⟩ := h
  have hV := h.1.2.2.1
  have hL := h.1.2.2.2
  have hK := KA_VA hV
  obtain ⟨x0, hx0, ex0⟩ : ∃ x, rI x ∧ xs (i + 1) = iI x := ⟨_, rI_v _, (iI_of _).symm⟩
  rw [ex0]
  obtain ⟨s1, e1, f1, j1⟩ := sp_95 (d := 0) (L := L) (t := t) (s := s) (l := l) h.1.1 hV hx0
  have m1 : JM s1 A T := h.1.2.1.of (f1 599 (by omega)) (f1 601 (by omega)) (f1 604 (by omega))
  obtain ⟨s2, l2, e2, f2, g2, k2, j2⟩ := sp_228 (d := 0) (L := L) (t := t) (s := s1) (l := l) m1 hV hx0
  exact iv_a h (ev_mono e1 (by omega)) (fun c p q r => f1 c (by omega)) j1 (ev_mono e2 (by omega)) (fun c p q r => f2 c (by omega)) (fun k a0 a1 a2 a3 => k2 k a0) j2 ((takeR_ok hV x0).1) (okLg_takeR hV hL x0) (s5_takeR hV x0)
theorem iq_11 {d L : Nat} {xs : Nat → Int32} {M : mm_M} (i : Nat) (h : IV L xs M) : ∃ M', lw_ok (mm_Ev mm_ct mm_CM (d + 20)) L xs 96 229 [.int (xs (i + 1)), .int (xs (i + 2)), .int (xs (i + 3))] M M' ∧ IV L xs M' := by
  obtain ⟨t, s, l, A, B, T, rfl, h⟩ := h
  have hV := h.1.2.2.1
  have hL := h.1.2.2.2
  have hK := KA_VA hV
  obtain ⟨x0, hx0, ex0⟩ : ∃ x, rI x ∧ xs (i + 1) = iI x := ⟨_, rI_v _, (iI_of _).symm⟩
  rw [ex0]
  obtain ⟨x1, hx1, ex1⟩ : ∃ x, rI x ∧ xs (i + 2) = iI x := ⟨_, rI_v _, (iI_of _).symm⟩
  rw [ex1]
  obtain ⟨x2, hx2, ex2⟩ : ∃ x, rI x ∧ xs (i + 3) = iI x := ⟨_, rI_v _, (iI_of _).symm⟩
  rw [ex2]
  obtain ⟨s1, e1, f1, j1⟩ := sp_96 (d := 0) (L := L) (t := t) (s := s) (l := l) h.1.1 hV hx0 hx1 hx2
  have m1 : JM s1 A T := h.1.2.1.of (f1 599 (by omega)) (f1 601 (by omega)) (f1 604 (by omega))
  obtain ⟨s2, l2, e2, f2, g2, k2, j2⟩ := sp_229 (d := 0) (L := L) (t := t) (s := s1) (l := l) m1 hV hx0 hx1 hx2
  exact iv_a h (ev_mono e1 (by omega)) (fun c p q r => f1 c (by omega)) j1 (ev_mono e2 (by omega)) (fun c p q r => f2 c (by omega)) (fun k a0 a1 a2 a3 => k2 k a0) j2 ((putR_ok hV x0 x1 x2).1) (okLg_putR hV hL x0 x1 x2) (s5_putR hV x0 x1 x2)
theorem iq_12 {d L : Nat} {xs : Nat → Int32} {M : mm_M} (i : Nat) (h : IV L xs M) : ∃ M', lw_ok (mm_Ev mm_ct mm_CM (d + 20)) L xs 97 230 [.int (if xs (i + 1) = 0 then 0 else 1)] M M' ∧ IV L xs M' := by
  obtain ⟨t, s, l, A, B, T, rfl, h⟩ := h
  have hV := h.1.2.2.1
  have hL := h.1.2.2.2
  have hK := KA_VA hV
  obtain ⟨x0, hx0, ex0⟩ := yn (xs (i + 1))
  rw [ex0]
  obtain ⟨s1, e1, f1, j1⟩ := sp_97 (d := 0) (L := L) (t := t) (s := s) (l := l) h.1.1 hV hx0
  have m1 : JM s1 A T := h.1.2.1.of (f1 599 (by omega)) (f1 601 (by omega)) (f1 604 (by omega))
  obtain ⟨s2, l2, e2, f2, g2, k2, j2⟩ := sp_230 (d := 0) (L := L) (t := t) (s := s1) (l := l) m1 hV hx0
  exact iv_a h (ev_mono e1 (by omega)) (fun c p q r => f1 c (by omega)) j1 (ev_mono e2 (by omega)) (fun c p q r => f2 c (by omega)) (fun k a0 a1 a2 a3 => k2 k a0) j2 ((wetR_ok hV hx0).1) (okLg_wetR hV hL hx0) (s5_wetR hV hx0)
theorem iq_13 {d L : Nat} {xs : Nat → Int32} {M : mm_M} (i : Nat) (h : IV L xs M) : ∃ M', lw_ok (mm_Ev mm_ct mm_CM (d + 20)) L xs 98 232 [.int (xs (i + 1))] M M' ∧ IV L xs M' := by
  obtain ⟨t, s, l, A, B, T, rfl, h⟩ := h
  have hV := h.1.2.2.1
  have hL := h.1.2.2.2
  have hK := KA_VA hV
  obtain ⟨x0, hx0, ex0⟩ : ∃ x, rI x ∧ xs (i + 1) = iI x := ⟨_, rI_v _, (iI_of _).symm⟩
  rw [ex0]
  obtain ⟨s1, e1, f1, j1⟩ := sp_98 (d := 0) (L := L) (t := t) (s := s) (l := l) h.1.1 hV hx0
  have m1 : JM s1 A T := h.1.2.1.of (f1 599 (by omega)) (f1 601 (by omega)) (f1 604 (by omega))
  obtain ⟨s2, l2, e2, f2, g2, k2, j2⟩ := sp_232 (d := 0) (L := L) (t := t) (s := s1) (l := l) m1 hV hx0
  exact iv_a h (ev_mono e1 (by omega)) (fun c p q r => f1 c (by omega)) j1 (ev_mono e2 (by omega)) (fun c p q r => f2 c (by omega)) (fun k a0 a1 a2 a3 => k2 k a0) j2 (playedR_ok hV x0) (okLg_playedR hV hL x0) (s5_playedR hV x0)
theorem iq_14 {d L : Nat} {xs : Nat → Int32} {M : mm_M} (i : Nat) (h : IV L xs M) : ∃ M', lw_ok (mm_Ev mm_ct mm_CM (d + 20)) L xs 99 234 [.int (xs (i + 1)), .int (xs (i + 2))] M M' ∧ IV L xs M' := by
  obtain ⟨t, s, l, A, B, T, rfl, h⟩ := h
  have hV := h.1.2.2.1
  have hL := h.1.2.2.2
  have hK := KA_VA hV
  obtain ⟨x0, hx0, ex0⟩ : ∃ x, rI x ∧ xs (i + 1) = iI x := ⟨_, rI_v _, (iI_of _).symm⟩
  rw [ex0]
  obtain ⟨x1, hx1, ex1⟩ : ∃ x, rI x ∧ xs (i + 2) = iI x := ⟨_, rI_v _, (iI_of _).symm⟩
  rw [ex1]
  obtain ⟨s1, e1, f1, j1⟩ := sp_99 (d := 0) (L := L) (t := t) (s := s) (l := l) h.1.1 hV hx0 hx1
  have m1 : JM s1 A T := h.1.2.1.of (f1 599 (by omega)) (f1 601 (by omega)) (f1 604 (by omega))
  obtain ⟨s2, l2, e2, f2, g2, k2, j2⟩ := sp_234 (d := 0) (L := L) (t := t) (s := s1) (l := l) m1 hV hx0 hx1
  exact iv_a h (ev_mono e1 (by omega)) (fun c p q r => f1 c (by omega)) j1 (ev_mono e2 (by omega)) (fun c p q r => f2 c (by omega)) (fun k a0 a1 a2 a3 => k2 k a0) j2 (yearR_ok hV x0 x1) (okLg_yearR hV hL x0 x1) (s5_yearR hV x0 x1)
theorem iq_33 {d L : Nat} {xs : Nat → Int32} {M : mm_M} (i : Nat) (h : IV L xs M) : ∃ M', lw_ok (mm_Ev mm_ct mm_CM (d + 20)) L xs 118 279 [.int (xs (i + 1)), .int (xs (i + 2)), .int (if xs (i + 3) = 0 then 0 else 1), .int (if xs (i + 4) = 0 then 0 else 1)] M M' ∧ IV L xs M' := by
  obtain ⟨t, s, l, A, B, T, rfl, h⟩ := h
  have hV := h.1.2.2.1
  have hL := h.1.2.2.2
  have hK := KA_VA hV
  obtain ⟨x0, hx0, ex0⟩ : ∃ x, rI x ∧ xs (i + 1) = iI x := ⟨_, rI_v _, (iI_of _).symm⟩
  rw [ex0]
  obtain ⟨x1, hx1, ex1⟩ : ∃ x, rI x ∧ xs (i + 2) = iI x := ⟨_, rI_v _, (iI_of _).symm⟩
  rw [ex1]
  obtain ⟨x2, hx2, ex2⟩ := yn (xs (i + 3))
  rw [ex2]
  obtain ⟨x3, hx3, ex3⟩ := yn (xs (i + 4))
  rw [ex3]
  obtain ⟨s1, e1, f1, j1⟩ := sp_118 (d := 0) (L := L) (t := t) (s := s) (l := l) h.1.1 hK hx0 hx1 hx2 hx3
  have m1 : JM s1 A T := h.1.2.1.of (f1 599 (by omega)) (f1 601 (by omega)) (f1 604 (by omega))
  obtain ⟨s2, e2, f2, j2⟩ := sp_279 (d := 0) (L := L) (t := t) (s := s1) (l := l) m1 hK hx0 hx1 hx2 hx3
  exact iv_a h (ev_mono e1 (by omega)) (fun c p q r => f1 c (by omega)) j1 (ev_mono e2 (by omega)) (fun c p q r => f2 c (by omega)) (fun k _ _ _ _ => congrFun (f2 598 (by decide)) k) j2 (dustR_ok hV x0 x1 x2 x3 hx2 hx3) (okLg_dustR hV hL x0 x1 x2 x3) (s5_dustR hV x0 x1 x2 x3)
