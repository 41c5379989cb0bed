/-! Steps kept and taken back: rows. -/
theorem cp_c {s : Nat → Int → Int} {a0 a b : Nat} {sp dp n : Int} (h : b ≠ a) : cpI s a0 a sp dp n b = s b := by
  funext j
  unfold cpI
  rw [if_neg (fun q => h q.1)]
theorem cp_at {s : Nat → Int → Int} {a0 a : Nat} {n j : Int} (h0 : 0 ≤ j) (h1 : j < n) : cpI s a0 a 0 0 n a j = s a0 j := by
  unfold cpI
  rw [if_pos ⟨rfl, h0, by omega⟩]
  congr 1
  omega
section WAS
variable {E : mm_EV} {me pc r1 r2 L t : Nat} {cd : Nat → Option mm_In} {Lc : List (Option Value)} {r : List Value} {s l : Nat → Int → Int} {Q : mm_Rs → Prop} {e : Int} {a kd n : Nat} {ws : List Nat}
theorem wi_alds {w : Nat} (hk : mm_SH L t a = (kd, n, ws)) (hc : (mm_CM me).2.2.2.2.2.2.2 = cd) (hi : cd pc = some (.aaload, 1, r1, r2)) (h1 : 103 ≤ kd) (h2 : kd < 106) (ha : a < 621) (hN : n ≤ 100000) (h4 : 0 ≤ e) (h5 : e < n) (h6 : ws.getD e.toNat 2 = w + 3) (k : mm_wp E me (pc + 1, Lc, .ref w :: r, MX L t s l) Q) : mm_wp E me (pc, Lc, .int (iI e) :: .ref a :: r, MX L t s l) Q := wi_ald (N := n) hc hi (by rw [hk]; exact h1) (by rw [hk]; exact h2) ha (by rw [hk]) hN h4 h5 (by rw [hk]; exact h6) k
end WAS
/-- a scene's cells -/
def KS (L t u : Nat) : Prop := u + 7 < 621 ∧ mm_SH L t u = (5, 8, [u + 4, u + 8, u + 9, u + 10, 0, 0, 0, 0]) ∧ mm_SH L t (u + 1) = (103, 3, [u + 5, u + 6, u + 7]) ∧ mm_SH L t (u + 2) = (100, 10, []) ∧ mm_SH L t (u + 3) = (100, 10, []) ∧ mm_SH L t (u + 4) = (100, 10, []) ∧ mm_SH L t (u + 5) = (100, 3, []) ∧ mm_SH L t (u + 6) = (100, 10, []) ∧ mm_SH L t (u + 7) = (100, 60, [])
theorem ks_2 {L t : Nat} : KS L t 2 := ⟨by decide, rfl, rfl, rfl, rfl, rfl, rfl, rfl, rfl⟩
theorem ks_290 {L t : Nat} : KS L t 290 := ⟨by decide, rfl, rfl, rfl, rfl, rfl, rfl, rfl, rfl⟩
theorem ks_now {L t : Nat} {i : Int} (h0 : 0 ≤ i) (h1 : i < 30) : KS L t (25 + 8 * i.toNat) := by
  rcases (by omega : i = 0 ∨ i = 1 ∨ i = 2 ∨ i = 3 ∨ i = 4 ∨ i = 5 ∨ i = 6 ∨ i = 7 ∨ i = 8 ∨ i = 9 ∨ i = 10 ∨ i = 11 ∨ i = 12 ∨ i = 13 ∨ i = 14 ∨ i = 15 ∨ i = 16 ∨ i = 17 ∨ i = 18 ∨ i = 19 ∨ i = 20 ∨ i = 21 ∨ i = 22 ∨ i = 23 ∨ i = 24 ∨ i = 25 ∨ i = 26 ∨ i = 27 ∨ i = 28 ∨ i = 29) with h | h | h | h | h | h | h | h | h | h | h | h | h | h | h | h | h | h | h | h | h | h | h | h | h | h | h | h | h | h <;> (subst h; exact ⟨by decide, rfl, rfl, rfl, rfl, rfl, rfl, rfl, rfl⟩)
theorem ks_kept {L t : Nat} {i : Int} (h0 : 0 ≤ i) (h1 : i < 30) : KS L t (313 + 8 * i.toNat) := by
  rcases (by omega : i = 0 ∨ i = 1 ∨ i = 2 ∨ i = 3 ∨ i = 4 ∨ i = 5 ∨ i = 6 ∨ i = 7 ∨ i = 8 ∨ i = 9 ∨ i = 10 ∨ i = 11 ∨ i = 12 ∨ i = 13 ∨ i = 14 ∨ i = 15 ∨ i = 16 ∨ i = 17 ∨ i = 18 ∨ i = 19 ∨ i = 20 ∨ i = 21 ∨ i = 22 ∨ i = 23 ∨ i = 24 ∨ i = 25 ∨ i = 26 ∨ i = 27 ∨ i = 28 ∨ i = 29) with h | h | h | h | h | h | h | h | h | h | h | h | h | h | h | h | h | h | h | h | h | h | h | h | h | h | h | h | h | h <;> (subst h; exact ⟨by decide, rfl, rfl, rfl, rfl, rfl, rfl, rfl, rfl⟩)
theorem sh_st10 {L t : Nat} {i : Int} (h0 : 0 ≤ i) (h1 : i < 30) : (mm_SH L t 10).2.2.getD i.toNat 2 = 25 + 8 * i.toNat + 3 := by
  rcases (by omega : i = 0 ∨ i = 1 ∨ i = 2 ∨ i = 3 ∨ i = 4 ∨ i = 5 ∨ i = 6 ∨ i = 7 ∨ i = 8 ∨ i = 9 ∨ i = 10 ∨ i = 11 ∨ i = 12 ∨ i = 13 ∨ i = 14 ∨ i = 15 ∨ i = 16 ∨ i = 17 ∨ i = 18 ∨ i = 19 ∨ i = 20 ∨ i = 21 ∨ i = 22 ∨ i = 23 ∨ i = 24 ∨ i = 25 ∨ i = 26 ∨ i = 27 ∨ i = 28 ∨ i = 29) with h | h | h | h | h | h | h | h | h | h | h | h | h | h | h | h | h | h | h | h | h | h | h | h | h | h | h | h | h | h <;> (subst h; rfl)
theorem sh_st298 {L t : Nat} {i : Int} (h0 : 0 ≤ i) (h1 : i < 30) : (mm_SH L t 298).2.2.getD i.toNat 2 = 313 + 8 * i.toNat + 3 := by
  rcases (by omega : i = 0 ∨ i = 1 ∨ i = 2 ∨ i = 3 ∨ i = 4 ∨ i = 5 ∨ i = 6 ∨ i = 7 ∨ i = 8 ∨ i = 9 ∨ i = 10 ∨ i = 11 ∨ i = 12 ∨ i = 13 ∨ i = 14 ∨ i = 15 ∨ i = 16 ∨ i = 17 ∨ i = 18 ∨ i = 19 ∨ i = 20 ∨ i = 21 ∨ i = 22 ∨ i = 23 ∨ i = 24 ∨ i = 25 ∨ i = 26 ∨ i = 27 ∨ i = 28 ∨ i = 29) with h | h | h | h | h | h | h | h | h | h | h | h | h | h | h | h | h | h | h | h | h | h | h | h | h | h | h | h | h | h <;> (subst h; rfl)
/-- a scene copied -/
def CP (s1 s : Nat → Int → Int) (u w : Nat) : Prop := (∀ p, 0 ≤ p → p < 10 → s1 (u + 2) p = s (w + 2) p ∧ s1 (u + 3) p = s (w + 3) p ∧ s1 (u + 4) p = s (w + 4) p ∧ s1 (u + 6) p = s (w + 6) p) ∧ (∀ x, 0 ≤ x → x < 3 → s1 (u + 5) x = s (w + 5) x) ∧ (∀ i, 0 ≤ i → i < 60 → s1 (u + 7) i = s (w + 7) i) ∧ s1 u 4 = s w 4 ∧ s1 u 5 = s w 5 ∧ s1 u 6 = s w 6 ∧ s1 u 7 = s w 7
theorem CP.sc {s1 s : Nat → Int → Int} {u w : Nat} {v lg : Int → Int} (h : CP s1 s u w) (hs : SC s w v lg) (hv : okV v) : SC s1 u v lg := by
  obtain ⟨c1, c2, c3, c4, c5, c6, c7⟩ := h
  obtain ⟨h1, h2, h3, h4, h5, h6, h7, h8⟩ := hs
  refine ⟨c4.trans h1, c5.trans h2, c6.trans h3, c7.trans h4, fun x a b => (c2 x a b).trans (h5 x a b), ?_, fun b a c => ((c1 b a c).2.2.2).trans (h7 b a c), fun i a b => ?_⟩
  · intro x p a b c d
    have hm := hv.2.1 x a b
    have hh := h6 x p a b c d
    have cc := c1 p c (by omega)
    rcases (by omega : x = 0 ∨ x = 1 ∨ x = 2) with q | q | q
    · subst q; exact cc.1.trans hh
    · subst q; exact cc.2.1.trans hh
    · subst q; exact cc.2.2.1.trans hh
  · have := minI_spec (v 4) 60
    exact (c3 i a (by omega)).trans (h8 i a b)
/-! keepF and undoF -/
theorem keep_7 (A : Int → Int) : keepF A 7 = kpN A + 1 := by unfold keepF; rw [if_pos rfl]
theorem keep_lo {A : Int → Int} (h7 : 0 ≤ A 7 ∧ A 7 ≤ 30) {k : Int} (h : k < 154 ∨ 1594 ≤ k) (hk : k ≠ 7) : keepF A k = A k := by
  have : kpN A = if A 7 = 30 then 29 else A 7 := rfl
  have hn : 0 ≤ kpN A ∧ kpN A ≤ 29 := by rw [this]; split <;> omega
  unfold keepF kpP
  rw [if_neg hk, if_neg (by omega), if_neg (by omega), if_neg hk]
theorem keep_new {A : Int → Int} (h7 : 0 ≤ A 7 ∧ A 7 ≤ 30) {k : Int} (h0 : 0 ≤ k) (h1 : k < 48) : stp (keepF A) (kpN A) k = cur A k := by
  have : kpN A = if A 7 = 30 then 29 else A 7 := rfl
  have hn : 0 ≤ kpN A ∧ kpN A ≤ 29 := by rw [this]; split <;> omega
  unfold stp keepF
  rw [if_neg (by omega), if_pos (by omega)]
  congr 1
  omega
theorem keep_old {A : Int → Int} (h7 : 0 ≤ A 7 ∧ A 7 ≤ 30) {i k : Int} (hi0 : 0 ≤ i) (hi1 : i < kpN A) (h0 : 0 ≤ k) (h1 : k < 48) : stp (keepF A) i k = if A 7 = 30 then stp A (i + 1) k else stp A i k := by
  have hn : kpN A = if A 7 = 30 then 29 else A 7 := rfl
  unfold stp keepF kpP
  by_cases h : A 7 = 30
  · rw [if_pos h] at hn
    rw [if_neg (by omega), if_neg (by omega), if_pos h, if_pos ⟨h, by omega, by omega⟩]
    congr 1
    omega
  · rw [if_neg h] at hn
    rw [if_neg (by omega), if_neg (by omega), if_neg h, if_neg (fun q => h q.1), if_neg (by omega)]
theorem keep_lg {A : Int → Int} (h7 : 0 ≤ A 7 ∧ A 7 ≤ 30) : lgA (keepF A) = lgA A := by
  funext j
  have : 0 ≤ j % 512 := Int.emod_nonneg _ (by decide)
  unfold lgA
  rw [keep_lo h7 (by omega) (by omega), keep_lo h7 (by omega) (by omega), keep_lo h7 (by omega) (by omega), keep_lo h7 (by omega) (by omega)]
theorem keep_cur {A : Int → Int} (h7 : 0 ≤ A 7 ∧ A 7 ≤ 30) {k : Int} (h0 : 0 ≤ k) (h1 : k < 48) : cur (keepF A) k = cur A k := by
  unfold cur
  (repeat' split) <;> exact keep_lo h7 (by omega) (by omega)
theorem lo_VJ {A A' T : Int → Int} (h : ∀ k, 0 ≤ k → k < 106 → k ≠ 1 → k ≠ 4 → k ≠ 7 → k ≠ 9 → (k < 13 ∨ 46 ≤ k) → A' k = A k) (hV : VJ A T) : VJ A' T := by
  obtain ⟨h1, h2, h3, h4, h5, h6, h7⟩ := hV
  refine ⟨?_, ?_, ?_, ?_, ?_, ?_, ?_⟩
  · rw [h 0 (by decide) (by decide) (by decide) (by decide) (by decide) (by decide) (by decide)]; exact h1
  · rw [h 2 (by decide) (by decide) (by decide) (by decide) (by decide) (by decide) (by decide)]; exact h2
  · rw [h 3 (by decide) (by decide) (by decide) (by decide) (by decide) (by decide) (by decide)]; exact h3
  · rw [h 5 (by decide) (by decide) (by decide) (by decide) (by decide) (by decide) (by decide)]; exact h4
  · rw [h 5 (by decide) (by decide) (by decide) (by decide) (by decide) (by decide) (by decide), h 6 (by decide) (by decide) (by decide) (by decide) (by decide) (by decide) (by decide)]; exact h5
  · intro b a c
    rw [h 0 (by decide) (by decide) (by decide) (by decide) (by decide) (by decide) (by decide)] at c
    have g := h6 b a c
    refine ⟨fun w w0 w1 => ?_, ?_, ?_⟩
    · rw [h _ (by omega) (by omega) (by omega) (by omega) (by omega) (by omega) (by omega)]; exact g.1 w w0 w1
    · rw [h _ (by omega) (by omega) (by omega) (by omega) (by omega) (by omega) (by omega)]; exact g.2.1
    · rw [h _ (by omega) (by omega) (by omega) (by omega) (by omega) (by omega) (by omega)]; exact g.2.2
  · rw [h 5 (by decide) (by decide) (by decide) (by decide) (by decide) (by decide) (by decide)]; exact h7
theorem okB_lo {A A' : Int → Int} (h : ∀ k, (k = 0 ∨ (13 ≤ k ∧ k < 46) ∨ (46 ≤ k ∧ k < 106)) → A' k = A k) (hB : okB A) : okB A' := by
  obtain ⟨h0, h1, h2, h3, h4⟩ := hB
  refine ⟨by rw [h 0 (by omega)]; exact h0, ?_, ?_, ?_, ?_⟩
  · intro x a b; rw [h _ (by omega)]; exact h1 x a b
  · intro x p a b c d
    rw [h _ (by omega)] at d
    have := h1 x a b
    have g := h2 x p a b c d
    rw [h (16 + 10 * x + p) (by omega), h 0 (by omega), h _ (by omega)]
    exact g
  · intro x p q a b c d e
    rw [h _ (by omega)] at e
    have := h1 x a b
    rw [h _ (by omega), h _ (by omega)]
    exact h3 x p q a b c d e
  · intro b a c
    rw [h 0 (by omega)] at c
    have g := h4 b a c
    rw [h (46 + 6 * b + 5) (by omega)]
    refine ⟨g.1, fun q => ?_⟩
    obtain ⟨p, p0, p1, p2⟩ := g.2 q
    have := h1 _ g.1.1 (by omega)
    refine ⟨p, p0, ?_, ?_⟩
    · rw [h _ (by omega)]; exact p1
    · rw [h _ (by omega)]; exact p2
theorem okR_lo {A A' : Int → Int} (h : ∀ k, (k = 0 ∨ k = 8 ∨ (10 ≤ k ∧ k < 13) ∨ (106 ≤ k ∧ k < 154)) → A' k = A k) (h1 : 0 ≤ A' 1 ∧ A' 1 ≤ 9999) (h4 : 0 ≤ A' 4 ∧ A' 4 ≤ 30112) (h7 : 0 ≤ A' 7 ∧ A' 7 ≤ 30) (hR : okR A) : okR A' := by
  obtain ⟨r1, r2, r3, r4, r5, r6⟩ := hR
  refine ⟨h1, h4, h7, by rw [h 8 (by omega)]; exact r4, fun x a b => by rw [h _ (by omega)]; exact r5 x a b, fun i a b => ?_⟩
  rw [h 8 (by omega)] at b
  rw [h (106 + 4 * i) (by omega), h (107 + 4 * i) (by omega), h (108 + 4 * i) (by omega), h (109 + 4 * i) (by omega), h 0 (by omega)]
  exact r6 i a b
theorem keep_ok {A T : Int → Int} (h : VA A T) : KA (keepF A) T ∧ gapS (keepF A) 0 := by
  obtain ⟨hV, hB, hR, hS, hG, h9⟩ := h
  have h7 := hR.2.2.1
  have hn : kpN A = if A 7 = 30 then 29 else A 7 := rfl
  have hn0 : 0 ≤ kpN A ∧ kpN A ≤ 29 := by rw [hn]; split <;> omega
  have lo : ∀ k, (k < 154 ∨ 1594 ≤ k) → k ≠ 7 → keepF A k = A k := fun k a b => keep_lo h7 a b
  refine ⟨⟨lo_VJ (fun k a b c d e f g => lo k (by omega) e) hV, okB_lo (fun k a => lo k (by omega) (by omega)) hB, okR_lo (fun k a => lo k (by omega) (by omega)) (by rw [lo 1 (by omega) (by omega)]; exact hR.1) (by rw [lo 4 (by omega) (by omega)]; exact hR.2.1) (by rw [keep_7]; omega) hR, ?_⟩, ?_⟩
  · intro i a b
    rw [keep_7] at b ⊢
    rw [lo 0 (by omega) (by omega)]
    by_cases hi : i = kpN A
    · subst hi
      rw [keep_new h7 (by decide) (by decide), keep_new h7 (by decide) (by decide), keep_new h7 (by decide) (by decide), keep_new h7 (by decide) (by decide), keep_new h7 (by decide) (by decide)]
      refine ⟨okV_congr (okB_V hB) (fun k k0 k1 => keep_new h7 k0 k1), Int.le_refl _, hR.1, hV.2.1, hR.2.1, h9, fun q => by omega⟩
    · have hi2 : i < kpN A := by omega
      have old : ∀ k, 0 ≤ k → k < 48 → stp (keepF A) i k = if A 7 = 30 then stp A (i + 1) k else stp A i k := fun k k0 k1 => keep_old h7 a hi2 k0 k1
      rw [old 0 (by decide) (by decide), old 1 (by decide) (by decide), old 2 (by decide) (by decide), old 3 (by decide) (by decide), old 4 (by decide) (by decide)]
      have nx : stp (keepF A) (i + 1) 4 = if i + 1 = kpN A then A 9 else if A 7 = 30 then stp A (i + 2) 4 else stp A (i + 1) 4 := by
        by_cases q : i + 1 = kpN A
        · rw [if_pos q, q, keep_new h7 (by decide) (by decide)]; rfl
        · rw [if_neg q, keep_old h7 (by omega) (by omega) (by decide) (by decide), show i + 1 + 1 = i + 2 by omega]
      rw [nx]
      by_cases h30 : A 7 = 30
      · rw [if_pos h30] at hn
        simp only [if_pos h30]
        have g := hS (i + 1) (by omega) (by omega)
        refine ⟨okV_congr g.1 (fun k k0 k1 => by rw [old k k0 k1, if_pos h30]), g.2.1, g.2.2.1, g.2.2.2.1, g.2.2.2.2.1, g.2.2.2.2.2.1, fun _ => ?_⟩
        split
        · rename_i q
          have := hG (by omega)
          rw [show A 7 - 1 = i + 1 by omega] at this
          omega
        · have := g.2.2.2.2.2.2 (by omega)
          rw [show i + 1 + 1 = i + 2 by omega] at this
          exact this
      · rw [if_neg h30] at hn
        simp only [if_neg h30]
        have g := hS i a (by omega)
        refine ⟨okV_congr g.1 (fun k k0 k1 => by rw [old k k0 k1, if_neg h30]), g.2.1, g.2.2.1, g.2.2.2.1, g.2.2.2.2.1, g.2.2.2.2.2.1, fun _ => ?_⟩
        split
        · rename_i q
          have := hG (by omega)
          rw [show A 7 - 1 = i by omega] at this
          omega
        · exact g.2.2.2.2.2.2 (by omega)
  · intro _
    rw [keep_7, show kpN A + 1 - 1 = kpN A by omega, keep_new h7 (by decide) (by decide), lo 9 (by omega) (by omega)]
    show A 9 ≤ A 9 ∧ A 9 ≤ A 9 + 0
    omega
