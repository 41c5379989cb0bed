/-! The calls that ask only. -/
theorem iq_16 {d L : Nat} {xs : Nat → Int32} {M : mm_M} (i : Nat) (h : IV L xs M) : ∃ M', lw_ok (mm_Ev mm_ct mm_CM (d + 20)) L xs 101 235 [.int (xs (i + 1)), .int (xs (i + 2))] M M' ∧ IV L xs M' := by
  obtain ⟨t, s, l, A, B, T, rfl, h⟩ := h
  have hK := KA_VA h.1.2.2.1
  obtain ⟨x0, hx0, ex0⟩ : ∃ x, rI x ∧ xs (i + 1) = iI x := ⟨_, rI_v _, (iI_of _).symm⟩
  rw [ex0]
  obtain ⟨x1, hx1, ex1⟩ : ∃ x, rI x ∧ xs (i + 2) = iI x := ⟨_, rI_v _, (iI_of _).symm⟩
  rw [ex1]
  have e1 := sp_101 (d := 0) (L := L) (t := t) (s := s) (l := l) h.1.1 hK hx0 hx1
  have m1 := h.1.2.1
  have e2 := sp_235 (d := 0) (L := L) (t := t) (s := s) (l := l) m1 hK hx0 hx1
  exact iv_q h (ev_mono e1 (by omega)) (fun c _ _ => rfl) h.1.1 (ev_mono e2 (by omega)) (fun c _ _ => rfl) (fun k _ _ _ => rfl) m1
theorem iq_17 {d L : Nat} {xs : Nat → Int32} {M : mm_M} (i : Nat) (h : IV L xs M) : ∃ M', lw_ok (mm_Ev mm_ct mm_CM (d + 20)) L xs 102 236 [.int (xs (i + 1)), .int (xs (i + 2))] M M' ∧ IV L xs M' := by
  obtain ⟨t, s, l, A, B, T, rfl, h⟩ := h
  have hK := KA_VA h.1.2.2.1
  obtain ⟨x0, hx0, ex0⟩ : ∃ x, rI x ∧ xs (i + 1) = iI x := ⟨_, rI_v _, (iI_of _).symm⟩
  rw [ex0]
  obtain ⟨x1, hx1, ex1⟩ : ∃ x, rI x ∧ xs (i + 2) = iI x := ⟨_, rI_v _, (iI_of _).symm⟩
  rw [ex1]
  obtain ⟨s1, e1, f1, j1⟩ := sp_102 (d := 0) (L := L) (t := t) (s := s) (l := l) h.1.1 hK hx0 hx1
  have m1 : JM s1 A T := h.1.2.1.of (f1 599 (by decide)) (f1 601 (by decide)) (f1 604 (by decide))
  obtain ⟨s2, l2, e2, f2, g2, j2⟩ := sp_236 (d := 0) (L := L) (t := t) (s := s1) (l := l) m1 hK hx0 hx1
  exact iv_q h (ev_mono e1 (by omega)) (fun c p q => f1 c (by omega)) j1 (ev_mono e2 (by omega)) (fun c p q => f2 c (by omega)) (fun k _ _ _ => congrFun (f2 598 (by decide)) k) j2
theorem iq_18 {d L : Nat} {xs : Nat → Int32} {M : mm_M} (i : Nat) (h : IV L xs M) : ∃ M', lw_ok (mm_Ev mm_ct mm_CM (d + 20)) L xs 103 237 [.int (xs (i + 1)), .int (xs (i + 2))] M M' ∧ IV L xs M' := by
  obtain ⟨t, s, l, A, B, T, rfl, h⟩ := h
  have hK := KA_VA h.1.2.2.1
  obtain ⟨x0, hx0, ex0⟩ : ∃ x, rI x ∧ xs (i + 1) = iI x := ⟨_, rI_v _, (iI_of _).symm⟩
  rw [ex0]
  obtain ⟨x1, hx1, ex1⟩ : ∃ x, rI x ∧ xs (i + 2) = iI x := ⟨_, rI_v _, (iI_of _).symm⟩
  rw [ex1]
  obtain ⟨s1, e1, f1, j1⟩ := sp_103 (d := 0) (L := L) (t := t) (s := s) (l := l) h.1.1 hK hx0 hx1
  have m1 : JM s1 A T := h.1.2.1.of (f1 599 (by decide)) (f1 601 (by decide)) (f1 604 (by decide))
  obtain ⟨s2, l2, e2, f2, g2, j2⟩ := sp_237 (d := 0) (L := L) (t := t) (s := s1) (l := l) m1 hK hx0 hx1
  exact iv_q h (ev_mono e1 (by omega)) (fun c p q => f1 c (by omega)) j1 (ev_mono e2 (by omega)) (fun c p q => f2 c (by omega)) (fun k _ _ _ => congrFun (f2 598 (by decide)) k) j2
theorem iq_19 {d L : Nat} {xs : Nat → Int32} {M : mm_M} (i : Nat) (h : IV L xs M) : ∃ M', lw_ok (mm_Ev mm_ct mm_CM (d + 20)) L xs 104 212 [.int (xs (i + 1)), .int (xs (i + 2)), .int (if xs (i + 3) = 0 then 0 else 1)] M M' ∧ IV L xs M' := by
  obtain ⟨t, s, l, A, B, T, rfl, h⟩ := h
  have hK := KA_VA h.1.2.2.1
  obtain ⟨x0, hx0, ex0⟩ : ∃ x, rI x ∧ xs (i + 1) = iI x := ⟨_, rI_v _, (iI_of _).symm⟩
  rw [ex0]
  obtain ⟨x1, hx1, ex1⟩ : ∃ x, rI x ∧ xs (i + 2) = iI x := ⟨_, rI_v _, (iI_of _).symm⟩
  rw [ex1]
  obtain ⟨x2, hx2, ex2⟩ := yn (xs (i + 3))
  rw [ex2]
  obtain ⟨s1, e1, f1, j1⟩ := sp_104 (d := 0) (L := L) (t := t) (s := s) (l := l) h.1.1 hK hx0 hx1 hx2
  have m1 : JM s1 A T := h.1.2.1.of (f1 599 (by decide)) (f1 601 (by decide)) (f1 604 (by decide))
  obtain ⟨s2, l2, e2, f2, g2, j2⟩ := sp_212 (d := 0) (L := L) (t := t) (s := s1) (l := l) m1 hK hx0 hx1 hx2
  exact iv_q h (ev_mono e1 (by omega)) (fun c p q => f1 c (by omega)) j1 (ev_mono e2 (by omega)) (fun c p q => f2 c (by omega)) (fun k _ _ _ => congrFun (f2 598 (by decide)) k) j2
theorem iq_20 {d L : Nat} {xs : Nat → Int32} {M : mm_M} (i : Nat) (h : IV L xs M) : ∃ M', lw_ok (mm_Ev mm_ct mm_CM (d + 20)) L xs 105 238 [.int (xs (i + 1)), .int (xs (i + 2))] M M' ∧ IV L xs M' := by
  obtain ⟨t, s, l, A, B, T, rfl, h⟩ := h
  have hK := KA_VA h.1.2.2.1
  obtain ⟨x0, hx0, ex0⟩ : ∃ x, rI x ∧ xs (i + 1) = iI x := ⟨_, rI_v _, (iI_of _).symm⟩
  rw [ex0]
  obtain ⟨x1, hx1, ex1⟩ : ∃ x, rI x ∧ xs (i + 2) = iI x := ⟨_, rI_v _, (iI_of _).symm⟩
  rw [ex1]
  have e1 := sp_105 (d := 0) (L := L) (t := t) (s := s) (l := l) h.1.1 h.1.2.2.1 h.1.2.2.2 hx0 hx1
  have m1 := h.1.2.1
  have e2 := sp_238 (d := 0) (L := L) (t := t) (s := s) (l := l) m1 h.1.2.2.1 hx0 hx1
  exact iv_q h (ev_mono e1 (by omega)) (fun c _ _ => rfl) h.1.1 (ev_mono e2 (by omega)) (fun c _ _ => rfl) (fun k _ _ _ => rfl) m1
theorem iq_21 {d L : Nat} {xs : Nat → Int32} {M : mm_M} (i : Nat) (h : IV L xs M) : ∃ M', lw_ok (mm_Ev mm_ct mm_CM (d + 20)) L xs 106 245 [.int (xs (i + 1))] M M' ∧ IV L xs M' := by
  obtain ⟨t, s, l, A, B, T, rfl, h⟩ := h
  have hK := KA_VA h.1.2.2.1
  obtain ⟨x0, hx0, ex0⟩ : ∃ x, rI x ∧ xs (i + 1) = iI x := ⟨_, rI_v _, (iI_of _).symm⟩
  rw [ex0]
  obtain ⟨s1, l1, e1, f1, g1, j1⟩ := sp_106 (d := 0) (L := L) (t := t) (s := s) (l := l) h.1.1 hK hx0
  have m1 : JM s1 A T := h.1.2.1.of (f1 599 (by decide)) (f1 601 (by decide)) (f1 604 (by decide))
  obtain ⟨s2, l2, e2, f2, g2, k2, j2⟩ := sp_245 (d := 0) (L := L) (t := t) (s := s1) (l := l1) m1 hK hx0
  exact iv_q h (ev_mono e1 (by omega)) (fun c p q => f1 c (by omega)) j1 (ev_mono e2 (by omega)) (fun c p q => f2 c (by omega)) (fun k a0 a1 a2 => k2 k a0) j2
theorem iq_22 {d L : Nat} {xs : Nat → Int32} {M : mm_M} (i : Nat) (h : IV L xs M) : ∃ M', lw_ok (mm_Ev mm_ct mm_CM (d + 20)) L xs 107 247 [.int (xs (i + 1)), .int (if xs (i + 2) = 0 then 0 else 1)] M M' ∧ IV L xs M' := by
  obtain ⟨t, s, l, A, B, T, rfl, h⟩ := h
  have hK := KA_VA h.1.2.2.1
  obtain ⟨x0, hx0, ex0⟩ : ∃ x, rI x ∧ xs (i + 1) = iI x := ⟨_, rI_v _, (iI_of _).symm⟩
  rw [ex0]
  obtain ⟨x1, hx1, ex1⟩ := yn (xs (i + 2))
  rw [ex1]
  obtain ⟨s1, l1, e1, f1, g1, j1⟩ := sp_107 (d := 0) (L := L) (t := t) (s := s) (l := l) h.1.1 hK hx0 hx1
  have m1 : JM s1 A T := h.1.2.1.of (f1 599 (by decide)) (f1 601 (by decide)) (f1 604 (by decide))
  obtain ⟨s2, l2, e2, f2, g2, k2, j2⟩ := sp_247 (d := 0) (L := L) (t := t) (s := s1) (l := l1) m1 hK hx0 hx1
  exact iv_q h (ev_mono e1 (by omega)) (fun c p q => f1 c (by omega)) j1 (ev_mono e2 (by omega)) (fun c p q => f2 c (by omega)) (fun k a0 a1 a2 => k2 k a0) j2
theorem iq_23 {d L : Nat} {xs : Nat → Int32} {M : mm_M} (i : Nat) (h : IV L xs M) : ∃ M', lw_ok (mm_Ev mm_ct mm_CM (d + 20)) L xs 108 259 [.int (xs (i + 1)), .int (xs (i + 2)), .int (xs (i + 3))] M M' ∧ IV L xs M' := by
  obtain ⟨t, s, l, A, B, T, rfl, h⟩ := h
  have hK := KA_VA h.1.2.2.1
  obtain ⟨x0, hx0, ex0⟩ : ∃ x, rI x ∧ xs (i + 1) = iI x := ⟨_, rI_v _, (iI_of _).symm⟩
  rw [ex0]
  obtain ⟨x1, hx1, ex1⟩ : ∃ x, rI x ∧ xs (i + 2) = iI x := ⟨_, rI_v _, (iI_of _).symm⟩
  rw [ex1]
  obtain ⟨x2, hx2, ex2⟩ : ∃ x, rI x ∧ xs (i + 3) = iI x := ⟨_, rI_v _, (iI_of _).symm⟩
  rw [ex2]
  obtain ⟨s1, e1, f1, j1⟩ := sp_108 (d := 0) (L := L) (t := t) (s := s) (l := l) h.1.1 hK h.2.2.1.1 hx0 hx1 hx2
  have m1 : JM s1 A T := h.1.2.1.of (f1 599 (by decide)) (f1 601 (by decide)) (f1 604 (by decide))
  obtain ⟨s2, l2, e2, f2, g2, k2, j2⟩ := sp_259 (d := 0) (L := L) (t := t) (s := s1) (l := l) m1 hK hx0 hx1 hx2
  exact iv_q h (ev_mono e1 (by omega)) (fun c p q => f1 c (by omega)) j1 (ev_mono e2 (by omega)) (fun c p q => f2 c (by omega)) (fun k a0 a1 a2 => k2 k a1 a2) j2
theorem iq_24 {d L : Nat} {xs : Nat → Int32} {M : mm_M} (i : Nat) (h : IV L xs M) : ∃ M', lw_ok (mm_Ev mm_ct mm_CM (d + 20)) L xs 109 261 [.int (xs (i + 1)), .int (xs (i + 2))] M M' ∧ IV L xs M' := by
  obtain ⟨t, s, l, A, B, T, rfl, h⟩ := h
  have hK := KA_VA h.1.2.2.1
  obtain ⟨x0, hx0, ex0⟩ : ∃ x, rI x ∧ xs (i + 1) = iI x := ⟨_, rI_v _, (iI_of _).symm⟩
  rw [ex0]
  obtain ⟨x1, hx1, ex1⟩ : ∃ x, rI x ∧ xs (i + 2) = iI x := ⟨_, rI_v _, (iI_of _).symm⟩
  rw [ex1]
  obtain ⟨s1, e1, f1, j1⟩ := sp_109 (d := 0) (L := L) (t := t) (s := s) (l := l) h.1.1 hK h.2.2.1.1 hx0 hx1
  have m1 : JM s1 A T := h.1.2.1.of (f1 599 (by decide)) (f1 601 (by decide)) (f1 604 (by decide))
  obtain ⟨s2, l2, e2, f2, g2, k2, j2⟩ := sp_261 (d := 0) (L := L) (t := t) (s := s1) (l := l) m1 hK hx0 hx1
  exact iv_q h (ev_mono e1 (by omega)) (fun c p q => f1 c (by omega)) j1 (ev_mono e2 (by omega)) (fun c p q => f2 c (by omega)) (fun k a0 a1 a2 => k2 k a1 a2) j2
theorem iq_25 {d L : Nat} {xs : Nat → Int32} {M : mm_M} (i : Nat) (h : IV L xs M) : ∃ M', lw_ok (mm_Ev mm_ct mm_CM (d + 20)) L xs 110 262 [.int (xs (i + 1))] M M' ∧ IV L xs M' := by
  obtain ⟨t, s, l, A, B, T, rfl, h⟩ := h
  have hK := KA_VA h.1.2.2.1
  obtain ⟨x0, hx0, ex0⟩ : ∃ x, rI x ∧ xs (i + 1) = iI x := ⟨_, rI_v _, (iI_of _).symm⟩
  rw [ex0]
  obtain ⟨s1, e1, f1, j1⟩ := sp_110 (d := 0) (L := L) (t := t) (s := s) (l := l) h.1.1 hK h.2.2.1.1 hx0
  have m1 : JM s1 A T := h.1.2.1.of (f1 599 (by decide)) (f1 601 (by decide)) (f1 604 (by decide))
  obtain ⟨s2, l2, e2, f2, g2, k2, j2⟩ := sp_262 (d := 0) (L := L) (t := t) (s := s1) (l := l) m1 hK hx0
  exact iv_q h (ev_mono e1 (by omega)) (fun c p q => f1 c (by omega)) j1 (ev_mono e2 (by omega)) (fun c p q => f2 c (by omega)) (fun k a0 a1 a2 => k2 k a1 a2) j2
theorem iq_26 {d L : Nat} {xs : Nat → Int32} {M : mm_M} (i : Nat) (h : IV L xs M) : ∃ M', lw_ok (mm_Ev mm_ct mm_CM (d + 20)) L xs 111 264 [] M M' ∧ IV L xs M' := by
  obtain ⟨t, s, l, A, B, T, rfl, h⟩ := h
  have hK := KA_VA h.1.2.2.1
  obtain ⟨s1, e1, f1, j1⟩ := sp_111 (d := 0) (L := L) (t := t) (s := s) (l := l) h.1.1 hK
  have m1 : JM s1 A T := h.1.2.1.of (f1 599 (by decide)) (f1 601 (by decide)) (f1 604 (by decide))
  obtain ⟨s2, l2, e2, f2, g2, k2, j2⟩ := sp_264 (d := 0) (L := L) (t := t) (s := s1) (l := l) m1 hK
  exact iv_q h (ev_mono e1 (by omega)) (fun c p q => f1 c (by omega)) j1 (ev_mono e2 (by omega)) (fun c p q => f2 c (by omega)) (fun k a0 a1 a2 => k2 k a1 a2) j2
theorem iq_27 {d L : Nat} {xs : Nat → Int32} {M : mm_M} (i : Nat) (h : IV L xs M) : ∃ M', lw_ok (mm_Ev mm_ct mm_CM (d + 20)) L xs 112 266 [.int (xs (i + 1)), .int (xs (i + 2))] M M' ∧ IV L xs M' := by
  obtain ⟨t, s, l, A, B, T, rfl, h⟩ := h
  have hK := KA_VA h.1.2.2.1
  obtain ⟨x0, hx0, ex0⟩ : ∃ x, rI x ∧ xs (i + 1) = iI x := ⟨_, rI_v _, (iI_of _).symm⟩
  rw [ex0]
  obtain ⟨x1, hx1, ex1⟩ : ∃ x, rI x ∧ xs (i + 2) = iI x := ⟨_, rI_v _, (iI_of _).symm⟩
  rw [ex1]
  obtain ⟨s1, e1, f1, j1⟩ := sp_112 (d := 0) (L := L) (t := t) (s := s) (l := l) h.1.1 hK hx0 hx1
  have m1 : JM s1 A T := h.1.2.1.of (f1 599 (by decide)) (f1 601 (by decide)) (f1 604 (by decide))
  obtain ⟨s2, l2, e2, f2, g2, k2, j2⟩ := sp_266 (d := 0) (L := L) (t := t) (s := s1) (l := l) m1 hK hx0 hx1
  exact iv_q h (ev_mono e1 (by omega)) (fun c p q => f1 c (by omega)) j1 (ev_mono e2 (by omega)) (fun c p q => f2 c (by omega)) (fun k a0 a1 a2 => k2 k a1 a2) j2
theorem iq_28 {d L : Nat} {xs : Nat → Int32} {M : mm_M} (i : Nat) (h : IV L xs M) : ∃ M', lw_ok (mm_Ev mm_ct mm_CM (d + 20)) L xs 113 271 [.int (xs (i + 1)), .int (xs (i + 2)), .int (xs (i + 3)), .int (xs (i + 4)), .int (xs (i + 5))] M M' ∧ IV L xs M' := by
  obtain ⟨t, s, l, A, B, T, rfl, h⟩ := h
  have hK := KA_VA h.1.2.2.1
  obtain ⟨x0, hx0, ex0⟩ : ∃ x, rI x ∧ xs (i + 1) = iI x := ⟨_, rI_v _, (iI_of _).symm⟩
  rw [ex0]
  obtain ⟨x1, hx1, ex1⟩ : ∃ x, rI x ∧ xs (i + 2) = iI x := ⟨_, rI_v _, (iI_of _).symm⟩
  rw [ex1]
  obtain ⟨x2, hx2, ex2⟩ : ∃ x, rI x ∧ xs (i + 3) = iI x := ⟨_, rI_v _, (iI_of _).symm⟩
  rw [ex2]
  obtain ⟨x3, hx3, ex3⟩ : ∃ x, rI x ∧ xs (i + 4) = iI x := ⟨_, rI_v _, (iI_of _).symm⟩
  rw [ex3]
  obtain ⟨x4, hx4, ex4⟩ : ∃ x, rI x ∧ xs (i + 5) = iI x := ⟨_, rI_v _, (iI_of _).symm⟩
  rw [ex4]
  have e1 := sp_113 (d := 0) (L := L) (t := t) (s := s) (l := l) h.1.1 hK hx0 hx1 hx2 hx3 hx4
  have m1 := h.1.2.1
  obtain ⟨s2, l2, e2, f2, g2, k2, j2⟩ := sp_271 (d := 0) (L := L) (t := t) (s := s) (l := l) m1 hK hx0 hx1 hx2 hx3 hx4
  exact iv_q h (ev_mono e1 (by omega)) (fun c _ _ => rfl) h.1.1 (ev_mono e2 (by omega)) (fun c p q => f2 c (by omega)) (fun k a0 a1 a2 => k2 k a1 a2) j2
theorem iq_29 {d L : Nat} {xs : Nat → Int32} {M : mm_M} (i : Nat) (h : IV L xs M) : ∃ M', lw_ok (mm_Ev mm_ct mm_CM (d + 20)) L xs 114 274 [.int (xs (i + 1)), .int (xs (i + 2)), .int (xs (i + 3)), .int (if xs (i + 4) = 0 then 0 else 1)] M M' ∧ IV L xs M' := by
  obtain ⟨t, s, l, A, B, T, rfl, h⟩ := h
  have hK := KA_VA h.1.2.2.1
  obtain ⟨x0, hx0, ex0⟩ : ∃ x, rI x ∧ xs (i + 1) = iI x := ⟨_, rI_v _, (iI_of _).symm⟩
  rw [ex0]
  obtain ⟨x1, hx1, ex1⟩ : ∃ x, rI x ∧ xs (i + 2) = iI x := ⟨_, rI_v _, (iI_of _).symm⟩
  rw [ex1]
  obtain ⟨x2, hx2, ex2⟩ : ∃ x, rI x ∧ xs (i + 3) = iI x := ⟨_, rI_v _, (iI_of _).symm⟩
  rw [ex2]
  obtain ⟨x3, hx3, ex3⟩ := yn (xs (i + 4))
  rw [ex3]
  obtain ⟨s1, e1, f1, j1⟩ := sp_114 (d := 0) (L := L) (t := t) (s := s) (l := l) h.1.1 hK hx0 hx1 hx2 hx3
  have m1 : JM s1 A T := h.1.2.1.of (f1 599 (by decide)) (f1 601 (by decide)) (f1 604 (by decide))
  obtain ⟨s2, l2, e2, f2, g2, k2, j2⟩ := sp_274 (d := 0) (L := L) (t := t) (s := s1) (l := l) m1 hK hx0 hx1 hx2 hx3
  exact iv_q h (ev_mono e1 (by omega)) (fun c p q => f1 c (by omega)) j1 (ev_mono e2 (by omega)) (fun c p q => f2 c (by omega)) (fun k a0 a1 a2 => k2 k a1 a2) j2
theorem iq_30 {d L : Nat} {xs : Nat → Int32} {M : mm_M} (i : Nat) (h : IV L xs M) : ∃ M', lw_ok (mm_Ev mm_ct mm_CM (d + 20)) L xs 115 275 [.int (xs (i + 1)), .int (xs (i + 2)), .int (xs (i + 3)), .int (if xs (i + 4) = 0 then 0 else 1)] M M' ∧ IV L xs M' := by
  obtain ⟨t, s, l, A, B, T, rfl, h⟩ := h
  have hK := KA_VA h.1.2.2.1
  obtain ⟨x0, hx0, ex0⟩ : ∃ x, rI x ∧ xs (i + 1) = iI x := ⟨_, rI_v _, (iI_of _).symm⟩
  rw [ex0]
  obtain ⟨x1, hx1, ex1⟩ : ∃ x, rI x ∧ xs (i + 2) = iI x := ⟨_, rI_v _, (iI_of _).symm⟩
  rw [ex1]
  obtain ⟨x2, hx2, ex2⟩ : ∃ x, rI x ∧ xs (i + 3) = iI x := ⟨_, rI_v _, (iI_of _).symm⟩
  rw [ex2]
  obtain ⟨x3, hx3, ex3⟩ := yn (xs (i + 4))
  rw [ex3]
  obtain ⟨s1, e1, f1, j1⟩ := sp_115 (d := 0) (L := L) (t := t) (s := s) (l := l) h.1.1 hK hx0 hx1 hx2 hx3
  have m1 : JM s1 A T := h.1.2.1.of (f1 599 (by decide)) (f1 601 (by decide)) (f1 604 (by decide))
  obtain ⟨s2, l2, e2, f2, g2, k2, j2⟩ := sp_275 (d := 0) (L := L) (t := t) (s := s1) (l := l) m1 hK hx0 hx1 hx2 hx3
  exact iv_q h (ev_mono e1 (by omega)) (fun c p q => f1 c (by omega)) j1 (ev_mono e2 (by omega)) (fun c p q => f2 c (by omega)) (fun k a0 a1 a2 => k2 k a0) j2
theorem iq_31 {d L : Nat} {xs : Nat → Int32} {M : mm_M} (i : Nat) (h : IV L xs M) : ∃ M', lw_ok (mm_Ev mm_ct mm_CM (d + 20)) L xs 116 277 [.int (xs (i + 1))] M M' ∧ IV L xs M' := by
  obtain ⟨t, s, l, A, B, T, rfl, h⟩ := h
  have hK := KA_VA h.1.2.2.1
  obtain ⟨x0, hx0, ex0⟩ : ∃ x, rI x ∧ xs (i + 1) = iI x := ⟨_, rI_v _, (iI_of _).symm⟩
  rw [ex0]
  obtain ⟨s1, l1, e1, f1, g1, j1⟩ := sp_116 (d := 0) (L := L) (t := t) (s := s) (l := l) h.1.1 hK hx0
  have m1 : JM s1 A T := h.1.2.1.of (f1 599 (by decide)) (f1 601 (by decide)) (f1 604 (by decide))
  obtain ⟨s2, l2, e2, f2, g2, k2, j2⟩ := sp_277 (d := 0) (L := L) (t := t) (s := s1) (l := l1) m1 hK hx0
  exact iv_q h (ev_mono e1 (by omega)) (fun c p q => f1 c (by omega)) j1 (ev_mono e2 (by omega)) (fun c p q => f2 c (by omega)) (fun k a0 a1 a2 => k2 k a0) j2
theorem iq_32 {d L : Nat} {xs : Nat → Int32} {M : mm_M} (i : Nat) (h : IV L xs M) : ∃ M', lw_ok (mm_Ev mm_ct mm_CM (d + 20)) L xs 117 278 [.int (xs (i + 1))] M M' ∧ IV L xs M' := by
  obtain ⟨t, s, l, A, B, T, rfl, h⟩ := h
  have hK := KA_VA h.1.2.2.1
  obtain ⟨x0, hx0, ex0⟩ : ∃ x, rI x ∧ xs (i + 1) = iI x := ⟨_, rI_v _, (iI_of _).symm⟩
  rw [ex0]
  obtain ⟨s1, l1, e1, f1, g1, j1⟩ := sp_117 (d := 0) (L := L) (t := t) (s := s) (l := l) h.1.1 hK hx0
  have m1 : JM s1 A T := h.1.2.1.of (f1 599 (by decide)) (f1 601 (by decide)) (f1 604 (by decide))
  obtain ⟨s2, l2, e2, f2, g2, k2, j2⟩ := sp_278 (d := 0) (L := L) (t := t) (s := s1) (l := l1) m1 hK hx0
  exact iv_q h (ev_mono e1 (by omega)) (fun c p q => f1 c (by omega)) j1 (ev_mono e2 (by omega)) (fun c p q => f2 c (by omega)) (fun k a0 a1 a2 => k2 k a0) j2
theorem iq_34 {d L : Nat} {xs : Nat → Int32} {M : mm_M} (i : Nat) (h : IV L xs M) : ∃ M', lw_ok (mm_Ev mm_ct mm_CM (d + 20)) L xs 119 282 [.int (xs (i + 1))] M M' ∧ IV L xs M' := by
  obtain ⟨t, s, l, A, B, T, rfl, h⟩ := h
  have hK := KA_VA h.1.2.2.1
  obtain ⟨x0, hx0, ex0⟩ : ∃ x, rI x ∧ xs (i + 1) = iI x := ⟨_, rI_v _, (iI_of _).symm⟩
  rw [ex0]
  obtain ⟨s1, e1, f1, j1⟩ := sp_119 (d := 0) (L := L) (t := t) (s := s) (l := l) h.1.1 hK hx0
  have m1 : JM s1 A T := h.1.2.1.of (f1 599 (by decide)) (f1 601 (by decide)) (f1 604 (by decide))
  obtain ⟨s2, l2, e2, f2, g2, j2⟩ := sp_282 (d := 0) (L := L) (t := t) (s := s1) (l := l) m1 hK hx0
  exact iv_q h (ev_mono e1 (by omega)) (fun c p q => f1 c (by omega)) j1 (ev_mono e2 (by omega)) (fun c p q => f2 c (by omega)) (fun k _ _ _ => congrFun (f2 598 (by decide)) k) j2
theorem iq_35 {d L : Nat} {xs : Nat → Int32} {M : mm_M} (i : Nat) (h : IV L xs M) : ∃ M', lw_ok (mm_Ev mm_ct mm_CM (d + 20)) L xs 120 283 [.int (xs (i + 1))] M M' ∧ IV L xs M' := by
  obtain ⟨t, s, l, A, B, T, rfl, h⟩ := h
  have hK := KA_VA h.1.2.2.1
  obtain ⟨x0, hx0, ex0⟩ : ∃ x, rI x ∧ xs (i + 1) = iI x := ⟨_, rI_v _, (iI_of _).symm⟩
  rw [ex0]
  obtain ⟨s1, e1, f1, j1⟩ := sp_120 (d := 0) (L := L) (t := t) (s := s) (l := l) h.1.1 hK hx0
  have m1 : JM s1 A T := h.1.2.1.of (f1 599 (by decide)) (f1 601 (by decide)) (f1 604 (by decide))
  obtain ⟨s2, l2, e2, f2, g2, j2⟩ := sp_283 (d := 0) (L := L) (t := t) (s := s1) (l := l) m1 hK hx0
  exact iv_q h (ev_mono e1 (by omega)) (fun c p q => f1 c (by omega)) j1 (ev_mono e2 (by omega)) (fun c p q => f2 c (by omega)) (fun k _ _ _ => congrFun (f2 598 (by decide)) k) j2
theorem iq_36 {d L : Nat} {xs : Nat → Int32} {M : mm_M} (i : Nat) (h : IV L xs M) : ∃ M', lw_ok (mm_Ev mm_ct mm_CM (d + 20)) L xs 121 284 [.int (xs (i + 1))] M M' ∧ IV L xs M' := by
  obtain ⟨t, s, l, A, B, T, rfl, h⟩ := h
  have hK := KA_VA h.1.2.2.1
  obtain ⟨x0, hx0, ex0⟩ : ∃ x, rI x ∧ xs (i + 1) = iI x := ⟨_, rI_v _, (iI_of _).symm⟩
  rw [ex0]
  obtain ⟨s1, e1, f1, j1⟩ := sp_121 (d := 0) (L := L) (t := t) (s := s) (l := l) h.1.1 hK hx0
  have m1 : JM s1 A T := h.1.2.1.of (f1 599 (by decide)) (f1 601 (by decide)) (f1 604 (by decide))
  obtain ⟨s2, l2, e2, f2, g2, j2⟩ := sp_284 (d := 0) (L := L) (t := t) (s := s1) (l := l) m1 hK hx0
  exact iv_q h (ev_mono e1 (by omega)) (fun c p q => f1 c (by omega)) j1 (ev_mono e2 (by omega)) (fun c p q => f2 c (by omega)) (fun k _ _ _ => congrFun (f2 598 (by decide)) k) j2
theorem iq_39 {d L : Nat} {xs : Nat → Int32} {M : mm_M} (i : Nat) (h : IV L xs M) : ∃ M', lw_ok (mm_Ev mm_ct mm_CM (d + 20)) L xs 124 287 [.int (xs (i + 1))] M M' ∧ IV L xs M' := by
  obtain ⟨t, s, l, A, B, T, rfl, h⟩ := h
  have hK := KA_VA h.1.2.2.1
  obtain ⟨x0, hx0, ex0⟩ : ∃ x, rI x ∧ xs (i + 1) = iI x := ⟨_, rI_v _, (iI_of _).symm⟩
  rw [ex0]
  have e1 := sp_124 (d := 0) (L := L) (t := t) (s := s) (l := l) h.1.1 hK (N := s 0 7) rfl hx0
  have m1 := h.1.2.1
  have e2 := sp_287 (d := 0) (L := L) (t := t) (s := s) (l := l) m1 hK (N := s 0 7) h.2.2.2.1.1.symm hx0
  exact iv_q h (ev_mono e1 (by omega)) (fun c _ _ => rfl) h.1.1 (ev_mono e2 (by omega)) (fun c _ _ => rfl) (fun k _ _ _ => rfl) m1
theorem iq_6 {d L : Nat} {xs : Nat → Int32} {M : mm_M} (i : Nat) (h : IV L xs M) : ∃ M', lw_ok (mm_Ev mm_ct mm_CM (d + 20)) L xs 91 198 [.int (xs (i + 1))] M M' ∧ IV L xs M' := by
  obtain ⟨t, s, l, A, B, T, rfl, h⟩ := h
  obtain ⟨x0, hx0, ex0⟩ : ∃ x, rI x ∧ xs (i + 1) = iI x := ⟨_, rI_v _, (iI_of _).symm⟩
  rw [ex0]
  have e1 := sp_91 (d := 0) (L := L) (t := t) (s := s) (l := l) hx0
  have e2 := sp_198 (d := 0) (L := L) (t := t) (s := s) (l := l) hx0
  rw [← h.2.2.2.2.1, ← h.2.2.2.2.2.1] at e2
  exact iv_q h (ev_mono e1 (by omega)) (fun c _ _ => rfl) h.1.1 (ev_mono e2 (by omega)) (fun c _ _ => rfl) (fun k _ _ _ => rfl) h.1.2.1
