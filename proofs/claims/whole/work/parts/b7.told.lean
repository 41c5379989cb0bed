/-! Texts in a row that grew. -/
theorem okL_cg {T T' : Int → Int} {b k so : Int} (e : ∀ j, b ≤ j → j < b + 705 → T' j = T j) (k0 : 0 ≤ k) (k1 : k < 24) (h : okL T b k so) : okL T' b k so := by
  unfold okL at h ⊢
  rw [e (b + 3 + 4 * k) (by omega) (by omega), e (b + 4 + 4 * k) (by omega) (by omega)]
  obtain ⟨N, p1, p2, p3, p4, p5, p6, p7⟩ := h
  have ho : ∀ j : Nat, j < N → opT T' b (T (b + 3 + 4 * k) + j) = opT T b (T (b + 3 + 4 * k) + j) := fun j hj => e _ (by omega) (by omega)
  have hv : ∀ j : Nat, j < N → vlT T' b (T (b + 3 + 4 * k) + j) = vlT T b (T (b + 3 + 4 * k) + j) := fun j hj => e _ (by omega) (by omega)
  refine ⟨N, p1, p2, p3, p4, fun j hj => ?_, fun j hj => ?_, ?_⟩
  · rw [ho j hj, hv j hj, cNK_congr (op := opT T' b) (op' := opT T b) ho j (by omega)]
    exact p5 j hj
  · rw [ho j hj, hv j hj]
    exact p6 j hj
  · rw [cNK_congr (op := opT T' b) (op' := opT T b) ho N (Nat.le_refl _)]
    exact p7
theorem VT_cg {T T' : Int → Int} {b : Int} (e : ∀ j, b ≤ j → j < b + 705 → T' j = T j) (h : VT T b) : VT T' b := by
  obtain ⟨h0, h1⟩ := h
  have eb := e b (Int.le_refl _) (by omega)
  refine ⟨by rw [eb]; exact h0, fun k k0 k1 => ?_⟩
  rw [eb] at k1
  obtain ⟨g1, g2, g3, g4⟩ := h1 k k0 k1
  rw [e (b + 1 + 4 * k) (by omega) (by omega), e (b + 2 + 4 * k) (by omega) (by omega), e (b + 3 + 4 * k) (by omega) (by omega), e (b + 4 + 4 * k) (by omega) (by omega)]
  exact ⟨g1, g2, fun q => okL_cg e k0 (by omega) (g3 q), g4⟩
theorem TX_cg {T T' : Int → Int} {b : Int} {s : Nat → Int → Int} {u : Nat} (e : ∀ j, b ≤ j → j < b + 705 → T' j = T j) (hV : VT T b) (h : TX s u T b) : TX s u T' b := by
  have eb := e b (Int.le_refl _) (by omega)
  obtain ⟨v0, v1⟩ := hV
  have hcl : ∀ so la, clF T' b so la (T b).toNat 0 = clF T b so la (T b).toNat 0 := fun so la => clF_cg _ _ (fun j j0 j1 => ⟨e _ (by omega) (by omega), fun _ => e _ (by omega) (by omega)⟩)
  have hsp : ∀ so la, -1 ≤ clF T b so la (T b).toNat 0 ∧ clF T b so la (T b).toNat 0 < T b := fun so la => by
    rcases clF_spec (T := T) (b := b) (so := so) (la := la) (T b).toNat 0 with q | q <;> omega
  have hS : ∀ slot so la, TXs s u T b slot so la → TXs s u T' b slot so la := fun slot so la q => by
    unfold TXs at q ⊢
    rw [eb, hcl]
    have r := hsp so la
    refine ⟨q.1, fun g => ?_⟩
    rw [e _ (by omega) (by omega), e _ (by omega) (by omega)]
    exact q.2 g
  obtain ⟨h1, h2, h3, h4, h5, h6, h7⟩ := h
  refine ⟨h1.trans eb.symm, fun k k0 k1 => ?_, fun la l0 l1 => hS _ _ _ (h3 la l0 l1), hS _ _ _ h4, hS _ _ _ h5, ?_, fun k k0 k1 k2 j j0 j1 => ?_⟩
  · rw [eb] at k1
    rw [e (b + 1 + 4 * k) (by omega) (by omega), e (b + 2 + 4 * k) (by omega) (by omega), e (b + 3 + 4 * k) (by omega) (by omega), e (b + 4 + 4 * k) (by omega) (by omega)]
    exact h2 k k0 k1
  · rw [eb, hcl, h6]
    have r := hsp 3 0
    rcases (by omega : clF T b 3 0 (T b).toNat 0 < 0 ∨ 0 ≤ clF T b 3 0 (T b).toNat 0) with g | g
    · rw [if_pos g, if_pos g]
    · rw [if_neg (by omega), if_neg (by omega), e _ (by omega) (by omega)]
  · rw [eb] at k1
    rw [e (b + 1 + 4 * k) (by omega) (by omega)] at k2
    rw [e (b + 3 + 4 * k) (by omega) (by omega)] at j0
    rw [e (b + 4 + 4 * k) (by omega) (by omega)] at j1
    obtain ⟨N, p1, p2, p3, -⟩ := (v1 k k0 k1).2.2.1 k2
    have q := h7 k k0 k1 k2 j j0 j1
    rw [q]
    show encC (T (b + 97 + 2 * j)) (T (b + 97 + 2 * j + 1)) = encC (T' (b + 97 + 2 * j)) (T' (b + 97 + 2 * j + 1))
    rw [e _ (by omega) (by omega), e _ (by omega) (by omega)]
theorem LB_cg {o : Nat} {s : Nat → Int → Int} {A T T' : Int → Int} {m : Int} (h : LB o s A T) (hA : A 5 ≤ m) (hV : ∀ i, 0 ≤ i → i < A 5 → VT T (705 * i)) (e : ∀ j, j < 705 * m → T' j = T j) : LB o s A T' := by
  obtain ⟨g1, g2, g3, g4, g5, g6, g7⟩ := h
  exact ⟨g1, g2, g3, g4, g5, g6, fun i i0 i1 => TX_cg (fun j j0 j1 => e j (by omega)) (hV i i0 i1) (g7 i i0 i1)⟩
theorem VA_cg {A T T' : Int → Int} {m : Int} (h : VA A T) (hA : A 5 ≤ m) (e : ∀ j, j < 705 * m → T' j = T j) : VA A T' := by
  obtain ⟨⟨j1, j2, j3, j4, j5, j6, j7⟩, r⟩ := h
  exact ⟨⟨j1, j2, j3, j4, j5, j6, fun i i0 i1 => VT_cg (fun j q0 q1 => e j (by omega)) (j7 i i0 i1)⟩, r⟩
