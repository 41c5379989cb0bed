/-! Undo, the tape, the image. -/
theorem iq_15 {d L : Nat} {xs : Nat → Int32} {M : mm_M} (h : IV L xs M) : ∃ M', lw_ok (mm_Ev mm_ct mm_CM (d + 20)) L xs 100 215 [] M M' ∧ IV L xs M' := by
  obtain ⟨t, s, l, A, B, T, rfl, h⟩ := h
  have hV := h.1.2.2.1
  obtain ⟨s1, e1, f1, j1⟩ := sp_100 (d := 0) (L := L) (t := t) (s := s) (l := l) h.1.1 hV
  have m1 : JM s1 A T := h.1.2.1.of (f1 599 (by omega)) (f1 601 (by omega)) (f1 604 (by omega))
  obtain ⟨s2, l2, e2, f2, g2, k2, j2⟩ := sm_215 (d := 0) (L := L) (t := t) (s := s1) (l := l) m1 hV
  exact iv_a h (ev_mono e1 (by omega)) (fun c p q r => f1 c (by omega)) j1 (ev_mono e2 (by omega)) (fun c p q r => f2 c (by omega)) (fun k a0 a1 a2 a3 => k2 k a0) j2 (undoR_ok hV) (okLg_undoR hV h.1.2.2.2) (s5_undoR hV)
/-- a call on the tape -/
theorem iv_t {d L t : Nat} {xs : Nat → Int32} {s l s1 s2 : Nat → Int → Int} {A B T : Int → Int} (h : IVs L xs t s l A B T) {xm mm : Nat} {vs : List Value} {v N : Int} (e1 : mm_Ev mm_ct mm_CM d xm (.ref 0 :: vs) (MX L t s l) (some (.int (iI v)), MX L t s1 l)) (f1 : ∀ c, c ≠ 0 ∧ c ≠ 597 → s1 c = s c) (e2 : mm_Ev mm_ct mm_CM d mm (.ref 598 :: vs) (MX L t s1 l) (some (.int (iI v)), MX L t s2 l)) (f2 : ∀ c, c ≠ 598 ∧ c ≠ 602 → s2 c = s1 c)
    (n1 : s1 0 7 = N) (n2 : s2 598 4 = N) (n0 : 0 ≤ N ∧ N ≤ 300) (tp : s1 597 = s2 602 ∧ ∀ k, 0 ≤ s1 597 k ∧ s1 597 k ≤ 255) (k5 : s2 598 5 = s1 598 5) (k6 : s2 598 6 = s1 598 6) (k17 : s2 598 17 = s1 598 17) : ∃ M', lw_ok (mm_Ev mm_ct mm_CM d) L xs xm mm vs (MX L t s l) M' ∧ IV L xs M' := by
  obtain ⟨⟨a1, a2, a3, a4⟩, ⟨b1, b2, b3, b4, b5⟩, ⟨c1, c2, c3⟩, ⟨d1, d2, d3, d4⟩, g1, g2⟩ := h
  have f : ∀ c, c ≠ 0 ∧ c ≠ 597 ∧ c ≠ 598 ∧ c ≠ 602 → s2 c = s c := fun c q => (f2 c (by omega)).trans (f1 c (by omega))
  have x1 : ∀ j : Nat, s1 1000001 j = (xs j).toInt := fun j => by rw [f1 1000001 (by decide)]; exact c2 j
  have x2 : ∀ j : Nat, s2 1000001 j = (xs j).toInt := fun j => by rw [f 1000001 (by decide)]; exact c2 j
  refine ⟨MX L t s2 l, ⟨iI v, MX L t s1 l, e1, lwR_MX x1, e2, lwR_MX x2⟩, t, s2, l, A, B, T, rfl, ⟨?_, ?_, a3, a4⟩, ⟨?_, ?_, b3, b4, b5⟩, ⟨?_, x2, bz_ev _ _ _ _ _ e2 (bz_ev _ _ _ _ _ e1 c3)⟩, ⟨?_, ?_, ?_, ?_⟩, ?_, ?_⟩
  · exact a1.fr a3.1.1 a3.1.2.2.2.1 (fun c p q => f c (by omega)) (f 578 (by decide))
  · exact a2.of (f 599 (by decide)) (f 601 (by decide)) (f 604 (by decide))
  · exact b1.of b3.1.1 b3.1.2.2.2.1 (fun e p q => f e (by omega))
  · intro k p r; rw [f 600 (by decide)]; exact b2 k p r
  · intro j p r; rw [f 1000000 (by decide)]; exact c1 j p r
  · rw [f2 0 (by decide), n1, n2]
  · rw [f2 0 (by decide), n1]; exact n0.1
  · rw [f2 0 (by decide), n1]; exact n0.2
  · rw [f2 597 (by decide)]; exact tp
  · rw [f 580 (by decide), k5, f1 598 (by decide)]; exact g1
  · rw [f 580 (by decide), k6, k17, f1 598 (by decide)]; exact g2
theorem fdT_r {f : Int → Int} {N a b c d e : Int} (h : ∀ k, 0 ≤ f k ∧ f k ≤ 255) (k : Int) : 0 ≤ fdT f N a b c d e k ∧ fdT f N a b c d e k ≤ 255 := by
  have t4 : ∀ (g : Int → Int) (n x : Int), (∀ k, 0 ≤ g k ∧ g k ≤ 255) → ∀ k, 0 ≤ tp4 g n x k ∧ tp4 g n x k ≤ 255 := fun g n x hg k => by
    have := hg k
    unfold tp4
    (repeat' split) <;> omega
  unfold fdT
  split
  · exact t4 _ _ _ (t4 _ _ _ (t4 _ _ _ (t4 _ _ _ (t4 _ _ _ h)))) k
  · exact h k
theorem iq_4 {d L : Nat} {xs : Nat → Int32} {M : mm_M} (i : Nat) (h : IV L xs M) : ∃ M', lw_ok (mm_Ev mm_ct mm_CM (d + 20)) L xs 89 162 [.int (xs (i + 1))] M M' ∧ IV L xs M' := by
  obtain ⟨t, s, l, A, B, T, rfl, h⟩ := h
  obtain ⟨x0, hx0, ex0⟩ : ∃ x, rI x ∧ xs (i + 1) = iI x := ⟨_, rI_v _, (iI_of _).symm⟩
  rw [ex0]
  obtain ⟨d1, d2, d3, d4⟩ := h.2.2.2.1
  obtain ⟨s1, e1, z1, f1⟩ := sp_89 (d := 0) (L := L) (t := t) (s := s) (l := l) (N := s 0 7) rfl ⟨d2, d3⟩ hx0
  obtain ⟨s2, e2, z2, f2⟩ := sp_162 (d := 0) (L := L) (t := t) (s := s1) (l := l) (N := s 0 7) ((congrFun (f1 598 (by decide)) 4).trans d1.symm) ⟨d2, d3⟩ hx0
  refine iv_t h (ev_mono e1 (by omega)) (fun c q => f1 c q.1) (ev_mono e2 (by omega)) (fun c q => f2 c q.1) ((z1 7).trans (if_pos rfl)) ((z2 4).trans (if_pos rfl)) ?_ ?_ ((z2 5).trans (if_neg (by decide))) ((z2 6).trans (if_neg (by decide))) ((z2 17).trans (if_neg (by decide)))
  · unfold endN; split <;> omega
  · rw [f2 602 (by decide), f1 602 (by decide), f1 597 (by decide)]; exact d4
theorem iq_3 {d L : Nat} {xs : Nat → Int32} {M : mm_M} (i : Nat) (h : IV L xs M) : ∃ M', lw_ok (mm_Ev mm_ct mm_CM (d + 20)) L xs 88 161 [.int (xs (i + 1)), .int (xs (i + 2)), .int (xs (i + 3)), .int (xs (i + 4)), .int (xs (i + 5))] M M' ∧ IV L xs M' := by
  obtain ⟨t, s, l, A, B, T, rfl, h⟩ := h
  obtain ⟨x0, hx0, ex0⟩ : ∃ x, rI x ∧ xs (i + 1) = iI x := ⟨_, rI_v _, (iI_of _).symm⟩
  rw [ex0]
  obtain ⟨x1, hx1, ex1⟩ : ∃ x, rI x ∧ xs (i + 2) = iI x := ⟨_, rI_v _, (iI_of _).symm⟩
  rw [ex1]
  obtain ⟨x2, hx2, ex2⟩ : ∃ x, rI x ∧ xs (i + 3) = iI x := ⟨_, rI_v _, (iI_of _).symm⟩
  rw [ex2]
  obtain ⟨x3, hx3, ex3⟩ : ∃ x, rI x ∧ xs (i + 4) = iI x := ⟨_, rI_v _, (iI_of _).symm⟩
  rw [ex3]
  obtain ⟨x4, hx4, ex4⟩ : ∃ x, rI x ∧ xs (i + 5) = iI x := ⟨_, rI_v _, (iI_of _).symm⟩
  rw [ex4]
  obtain ⟨d1, d2, d3, d4⟩ := h.2.2.2.1
  obtain ⟨s1, e1, y1, z1, f1⟩ := sp_88 (d := 0) (L := L) (t := t) (s := s) (l := l) (N := s 0 7) rfl ⟨d2, d3⟩ hx0 hx1 hx2 hx3 hx4
  obtain ⟨s2, e2, y2, z2, f2⟩ := sp_161 (d := 0) (L := L) (t := t) (s := s1) (l := l) (N := s 0 7) ((congrFun (f1 598 (by decide)) 4).trans d1.symm) ⟨d2, d3⟩ hx0 hx1 hx2 hx3 hx4
  refine iv_t h (ev_mono e1 (by omega)) f1 (ev_mono e2 (by omega)) f2 ((z1 7).trans (if_pos rfl)) ((z2 4).trans (if_pos rfl)) ?_ ?_ ((z2 5).trans (if_neg (by decide))) ((z2 6).trans (if_neg (by decide))) ((z2 17).trans (if_neg (by decide)))
  · unfold fdN; split <;> omega
  · refine ⟨by rw [y1, y2, f1 602 (by decide), d4.1], fun k => ?_⟩
    rw [y1]
    exact fdT_r d4.2 k
theorem sh_sc {L t : Nat} : (mm_SH L t 2).1 = 5 ∧ (mm_SH L t 290).1 = 5 := ⟨rfl, rfl⟩
theorem sh_st {L t k : Nat} (h : k < 30) : (mm_SH L t (25 + 8 * k)).1 = 5 ∧ (mm_SH L t (313 + 8 * k)).1 = 5 := by
  rcases (by omega : k = 0 ∨ k = 1 ∨ k = 2 ∨ k = 3 ∨ k = 4 ∨ k = 5 ∨ k = 6 ∨ k = 7 ∨ k = 8 ∨ k = 9 ∨ k = 10 ∨ k = 11 ∨ k = 12 ∨ k = 13 ∨ k = 14 ∨ k = 15 ∨ k = 16 ∨ k = 17 ∨ k = 18 ∨ k = 19 ∨ k = 20 ∨ k = 21 ∨ k = 22 ∨ k = 23 ∨ k = 24 ∨ k = 25 ∨ k = 26 ∨ k = 27 ∨ k = 28 ∨ k = 29) with h | h | h | h | h | h | h | h | h | h | h | h | h | h | h | h | h | h | h | h | h | h | h | h | h | h | h | h | h | h
  · subst h; exact ⟨rfl, rfl⟩
  · subst h; exact ⟨rfl, rfl⟩
  · subst h; exact ⟨rfl, rfl⟩
  · subst h; exact ⟨rfl, rfl⟩
  · subst h; exact ⟨rfl, rfl⟩
  · subst h; exact ⟨rfl, rfl⟩
  · subst h; exact ⟨rfl, rfl⟩
  · subst h; exact ⟨rfl, rfl⟩
  · subst h; exact ⟨rfl, rfl⟩
  · subst h; exact ⟨rfl, rfl⟩
  · subst h; exact ⟨rfl, rfl⟩
  · subst h; exact ⟨rfl, rfl⟩
  · subst h; exact ⟨rfl, rfl⟩
  · subst h; exact ⟨rfl, rfl⟩
  · subst h; exact ⟨rfl, rfl⟩
  · subst h; exact ⟨rfl, rfl⟩
  · subst h; exact ⟨rfl, rfl⟩
  · subst h; exact ⟨rfl, rfl⟩
  · subst h; exact ⟨rfl, rfl⟩
  · subst h; exact ⟨rfl, rfl⟩
  · subst h; exact ⟨rfl, rfl⟩
  · subst h; exact ⟨rfl, rfl⟩
  · subst h; exact ⟨rfl, rfl⟩
  · subst h; exact ⟨rfl, rfl⟩
  · subst h; exact ⟨rfl, rfl⟩
  · subst h; exact ⟨rfl, rfl⟩
  · subst h; exact ⟨rfl, rfl⟩
  · subst h; exact ⟨rfl, rfl⟩
  · subst h; exact ⟨rfl, rfl⟩
  · subst h; exact ⟨rfl, rfl⟩
theorem WZ_of {L t : Nat} {s l : Nat → Int → Int} (h : BZ (MX L t s l)) : WZ s := by
  intro c k hc
  have hb : ∀ a, a < 621 → (mm_SH L t a).1 = 5 → (iI (s a 5) = 0 ∨ iI (s a 5) = 1) := fun a q r => h a q r
  rcases hc with q | q | ⟨q, hk⟩ | ⟨q, hk⟩
  · rw [q]; exact hb 2 (by decide) sh_sc.1
  · rw [q]; exact hb 290 (by decide) sh_sc.2
  · rw [q]; exact hb _ (by omega) (sh_st hk).1
  · rw [q]; exact hb _ (by omega) (sh_st hk).2
theorem iq_37 {d L : Nat} {xs : Nat → Int32} {M : mm_M} (h : IV L xs M) : ∃ M', lw_ok (mm_Ev mm_ct mm_CM (d + 20)) L xs 122 285 [] M M' ∧ IV L xs M' := by
  obtain ⟨t, s, l, A, B, T, rfl, h⟩ := h
  obtain ⟨⟨a1, a2, a3, a4⟩, ⟨b1, b2, b3, b4, b5⟩, ⟨c1, c2, c3⟩, ⟨d1, d2, d3, d4⟩, g1, g2⟩ := h
  obtain ⟨s1, e1, f1, i1, j1⟩ := sp_122 (d := 0) (L := L) (t := t) (s := s) (l := l) a1 a3 (WZ_of c3)
  obtain ⟨s2, e2, y2, f2⟩ := sp_285 (d := 0) (L := L) (t := t) (s := s1) (l := l)
  have m1 : s1 599 = A := (f1 599 (by omega)).trans a2.1
  rw [m1] at e2 y2
  have f : ∀ c, ¬ (289 ≤ c ∧ c ≤ 576) → c ≠ 600 → s2 c = s c := fun c p q => (f2 c q).trans (f1 c p)
  have x1 : ∀ j : Nat, s1 1000001 j = (xs j).toInt := fun j => by rw [f1 1000001 (by decide)]; exact c2 j
  have x2 : ∀ j : Nat, s2 1000001 j = (xs j).toInt := fun j => by rw [f 1000001 (by decide) (by decide)]; exact c2 j
  refine ⟨MX L t s2 l, ⟨iI (A 1), MX L t s1 l, ev_mono e1 (by omega), lwR_MX x1, ev_mono e2 (by omega), lwR_MX x2⟩, t, s2, l, A, A, T, rfl, ⟨?_, ?_, a3, a4⟩, ⟨?_, ?_, a3, a4, Int.le_refl _⟩, ⟨?_, x2, bz_ev _ _ _ _ _ e2 (bz_ev _ _ _ _ _ e1 c3)⟩, ⟨?_, ?_, ?_, ?_⟩, ?_, ?_⟩
  · exact j1.fr a3.1.1 a3.1.2.2.2.1 (fun c p q => f2 c (by omega)) (f2 578 (by decide))
  · exact a2.of (f 599 (by decide) (by decide)) (f 601 (by decide) (by decide)) (f 604 (by decide) (by decide))
  · exact i1.of a3.1.1 a3.1.2.2.2.1 (fun e p q => f2 e (by omega))
  · intro k p r; rw [y2]; exact cpR_same _ _ k p r
  · intro j p r; rw [f 1000000 (by decide) (by decide)]; exact c1 j p r
  · rw [f 0 (by decide) (by decide), f 598 (by decide) (by decide)]; exact d1
  · rw [f 0 (by decide) (by decide)]; exact d2
  · rw [f 0 (by decide) (by decide)]; exact d3
  · rw [f 597 (by decide) (by decide), f 602 (by decide) (by decide)]; exact d4
  · rw [f 580 (by decide) (by decide), f 598 (by decide) (by decide)]; exact g1
  · rw [f 580 (by decide) (by decide), f 598 (by decide) (by decide)]; exact g2
theorem iq_38 {d L : Nat} {xs : Nat → Int32} {M : mm_M} (h : IV L xs M) : ∃ M', lw_ok (mm_Ev mm_ct mm_CM (d + 20)) L xs 123 286 [] M M' ∧ IV L xs M' := by
  obtain ⟨t, s, l, A, B, T, rfl, h⟩ := h
  obtain ⟨⟨a1, a2, a3, a4⟩, ⟨b1, b2, b3, b4, b5⟩, ⟨c1, c2, c3⟩, ⟨d1, d2, d3, d4⟩, g1, g2⟩ := h
  obtain ⟨s1, e1, f1, j1⟩ := sp_123 (d := 0) (L := L) (t := t) (s := s) (l := l) a1 a3 (WZ_of c3) b1 b3
  obtain ⟨s2, e2, y2, f2⟩ := sp_286 (d := 0) (L := L) (t := t) (s := s1) (l := l)
  have m0 : s1 600 = s 600 := f1 600 (by omega)
  have m1 : s1 600 1 = B 1 := by rw [m0]; exact b2 1 (by decide) (by decide)
  rw [m1] at e2
  have n : ∀ k, 0 ≤ k → k < 3642 → cpR (s1 600) (s1 599) k = B k := fun k p q => by rw [cpR_same _ _ k p q, m0]; exact b2 k p q
  have f : ∀ c, ¬ (1 ≤ c ∧ c ≤ 288) → c ≠ 599 → s2 c = s c := fun c p q => (f2 c q).trans (f1 c p)
  have x1 : ∀ j : Nat, s1 1000001 j = (xs j).toInt := fun j => by rw [f1 1000001 (by decide)]; exact c2 j
  have x2 : ∀ j : Nat, s2 1000001 j = (xs j).toInt := fun j => by rw [f 1000001 (by decide) (by decide)]; exact c2 j
  have hV := VA_same n b3
  refine ⟨MX L t s2 l, ⟨iI (B 1), MX L t s1 l, ev_mono e1 (by omega), lwR_MX x1, ev_mono e2 (by omega), lwR_MX x2⟩, t, s2, l, cpR (s1 600) (s1 599), B, T, rfl, ⟨?_, ⟨y2, ?_, ?_⟩, hV, okLg_same n b4⟩, ⟨?_, ?_, b3, b4, by rw [n 5 (by decide) (by decide)]; exact Int.le_refl _⟩, ⟨?_, x2, bz_ev _ _ _ _ _ e2 (bz_ev _ _ _ _ _ e1 c3)⟩, ⟨?_, ?_, ?_, ?_⟩, ?_, ?_⟩
  · have j2 : JC s1 (cpR (s1 600) (s1 599)) T := ⟨lb_same n j1.1 (KA_VA b3), j1.2⟩
    exact j2.fr hV.1.1 hV.1.2.2.2.1 (fun c p q => f2 c (by omega)) (f2 578 (by decide))
  · exact (f 601 (by decide) (by decide)).trans a2.2.1
  · rw [f 604 (by decide) (by decide)]; exact a2.2.2
  · exact b1.of b3.1.1 b3.1.2.2.2.1 (fun e p q => f e (by omega) (by omega))
  · intro k p r; rw [f 600 (by decide) (by decide)]; exact b2 k p r
  · intro j p r; rw [f 1000000 (by decide) (by decide)]; exact c1 j p r
  · rw [f 0 (by decide) (by decide), f 598 (by decide) (by decide)]; exact d1
  · rw [f 0 (by decide) (by decide)]; exact d2
  · rw [f 0 (by decide) (by decide)]; exact d3
  · rw [f 597 (by decide) (by decide), f 602 (by decide) (by decide)]; exact d4
  · rw [f 580 (by decide) (by decide), f 598 (by decide) (by decide)]; exact g1
  · rw [f 580 (by decide) (by decide), f 598 (by decide) (by decide)]; exact g2
