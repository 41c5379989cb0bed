/-! By hand: rows and answers. -/
theorem VA.K {A T : Int → Int} (h : VA A T) : KA A T := ⟨h.1, h.2.1, h.2.2.1, h.2.2.2.1⟩
theorem keep_VA {A T : Int → Int} (h : VA A T) : VA (keepF A) T := by
  obtain ⟨a, b⟩ := keep_ok h
  have h7 := h.2.2.1.2.2.1
  refine ⟨a.1, a.2.1, a.2.2.1, a.2.2.2, fun q => ?_, by rw [keep_lo h7 (by decide) (by decide), keep_lo h7 (by decide) (by decide)]; exact h.2.2.2.2.2⟩
  have := b q
  omega
theorem mv.VA {A A' T : Int → Int} (h : mv A A') (hB : okB A') (hV : VA A T) : VA A' T := by
  have k := h.KA hV.K hB
  exact ⟨k.1, k.2.1, k.2.2.1, k.2.2.2, h.gap hV.2.2.2.2.1, by rw [h.lo (by decide), h.lo (by decide)]; exact hV.2.2.2.2.2⟩
theorem set1_VA {A T : Int → Int} {j v : Int} (hV : VA A T) (hj : (j = 2 ∧ (v = 0 ∨ v = 1)) ∨ (j = 4 ∧ 0 ≤ v ∧ v ≤ 30112)) : VA (set1 A j v) T := by
  have k := set1_KA hV.K (Or.inr hj)
  exact ⟨k.1, k.2.1, k.2.2.1, k.2.2.2, set1_gap (by omega) hV.2.2.2.2.1, by rw [set1_ne (by omega), set1_ne (by omega)]; exact hV.2.2.2.2.2⟩
theorem keep_bk {A T : Int → Int} (h : VA A T) {k : Int} (hk : k < 154) (h7 : k ≠ 7) : keepF A k = A k := keep_lo h.2.2.1.2.2.1 (Or.inl hk) h7
/-- the first place from p on that holds b -/
def plS (A : Int → Int) (x b : Int) : Nat → Int → Int
  | 0, p => p
  | n + 1, p => if A (16 + 10 * x + p) = b then p else plS A x b n (p + 1)
theorem plS_ok {A : Int → Int} {x b q : Int} (hq : A (16 + 10 * x + q) = b) : ∀ (n : Nat) (p : Int), p ≤ q → q < p + n → p ≤ plS A x b n p ∧ plS A x b n p ≤ q ∧ A (16 + 10 * x + plS A x b n p) = b
  | 0, p, h1, h2 => by omega
  | n + 1, p, h1, h2 => by
    unfold plS
    by_cases h : A (16 + 10 * x + p) = b
    · rw [if_pos h]
      exact ⟨Int.le_refl _, h1, h⟩
    · rw [if_neg h]
      have hne : p ≠ q := fun z => h (by rw [z]; exact hq)
      obtain ⟨a, c, d⟩ := plS_ok hq n (p + 1) (by omega) (by omega)
      exact ⟨by omega, c, d⟩
/-- the place of a book on a shelf -/
def placeP (A : Int → Int) (b : Int) : Int := plS A (A (46 + 6 * b + 5)) b 10 0
theorem placeP_ok {A : Int → Int} (hB : okB A) {b : Int} (h0 : 0 ≤ b) (h1 : b < A 0) (hw : A (46 + 6 * b + 5) ≤ 2) : 0 ≤ placeP A b ∧ placeP A b < A (13 + A (46 + 6 * b + 5)) ∧ A (16 + 10 * A (46 + 6 * b + 5) + placeP A b) = b := by
  obtain ⟨g, h⟩ := hB.2.2.2.2 b h0 h1
  obtain ⟨p, p0, p1, p2⟩ := h hw
  have gm := hB.2.1 _ g.1 (by omega)
  obtain ⟨a, c, d⟩ := plS_ok p2 10 0 p0 (by omega)
  exact ⟨a, by unfold placeP; omega, d⟩
theorem plS_congr {A A' : Int → Int} {x b : Int} : ∀ (n : Nat) (p : Int), (∀ q, p ≤ q → q < p + n → A' (16 + 10 * x + q) = A (16 + 10 * x + q)) → plS A' x b n p = plS A x b n p
  | 0, _, _ => rfl
  | n + 1, p, h => by
    unfold plS
    rw [h p (Int.le_refl _) (by omega), plS_congr n (p + 1) (fun q a c => h q (by omega) (by omega))]
theorem keep_place {A T : Int → Int} (h : VA A T) {b : Int} (h0 : 0 ≤ b) (h1 : b < A 0) (hw : A (46 + 6 * b + 5) ≤ 2) : placeP (keepF A) b = placeP A b := by
  have g := (h.2.1.2.2.2.2 b h0 h1).1
  have g0 := h.2.1.1
  unfold placeP
  rw [keep_bk h (by omega) (by omega)]
  exact plS_congr 10 0 (fun q a c => keep_bk h (by omega) (by omega))
def nudgeR (A : Int → Int) (x p : Int) : (Int → Int) × Int := if (0 ≤ x ∧ x ≤ 2) ∧ 0 ≤ p ∧ p < A (13 + x) - 1 then (exF (keepF A) x p, exF (keepF A) x p (16 + 10 * x + p)) else (A, -1)
def takeR (A : Int → Int) (b : Int) : (Int → Int) × Int := if (0 ≤ b ∧ b < A 0) ∧ A (46 + 6 * b + 5) ≠ 3 then (if A (46 + 6 * b + 5) ≤ 2 then pullF (keepF A) (A (46 + 6 * b + 5)) (placeP A b) 3 else whF (keepF A) b 3, A (46 + 6 * b + 5)) else (A, -1)
def putR (A T : Int → Int) (b x p : Int) : (Int → Int) × Int := if ((0 ≤ b ∧ b < A 0) ∧ 3 ≤ A (46 + 6 * b + 5) ∧ (0 ≤ x ∧ x ≤ 2) ∧ 0 ≤ p ∧ p ≤ A (13 + x)) ∧ fullP A T x + thickP A T b ≤ A (10 + x) then (setF (keepF A) b x p, A (13 + x) + 1) else (A, -1)
def wetR (A T : Int → Int) (v : Int) : (Int → Int) × Int := if A 2 = v then (A, -1) else if v = 1 then fallAll (set1 (keepF A) 2 1) T 3 else (set1 (keepF A) 2 0, 0)
def undoR (A : Int → Int) : (Int → Int) × Int := if A 7 = 0 then (A, -1) else (undoF A, A 7 - 1)
theorem nudgeR_ok {A T : Int → Int} (h : VA A T) (x p : Int) : VA (nudgeR A x p).1 T ∧ -1 ≤ (nudgeR A x p).2 ∧ (nudgeR A x p).2 ≤ 3000 := by
  unfold nudgeR
  split
  · rename_i q
    have kv := keep_VA h
    have gm := h.2.1.2.1 x q.1.1 (by omega)
    have e := keep_bk h (k := 13 + x) (by omega) (by omega)
    have m := mv_ex (A := keepF A) q.1.1 (by omega : x < 3) q.2.1 (by omega : p < 9)
    have gb := h.2.1.2.2.1 x (p + 1) q.1.1 (by omega) (by omega) (by omega)
    have g0 := h.2.1.1
    refine ⟨m.VA (ex_ok kv.2.1 q.1.1 (by omega) q.2.1 (by omega)) kv, ?_⟩
    dsimp only
    rw [ex_pl q.1.1 (by omega) q.2.1 (by omega) q.1.1 (by omega) q.2.1 (by omega), if_pos ⟨rfl, rfl⟩, keep_bk h (by omega) (by omega)]
    omega
  · exact ⟨h, by show (-1 : Int) ≤ -1; omega, by show (-1 : Int) ≤ 3000; omega⟩
theorem takeR_ok {A T : Int → Int} (h : VA A T) (b : Int) : VA (takeR A b).1 T ∧ -1 ≤ (takeR A b).2 ∧ (takeR A b).2 ≤ 3000 := by
  unfold takeR
  split
  · rename_i q
    have kv := keep_VA h
    have g := (h.2.1.2.2.2.2 b q.1.1 q.1.2).1
    have g0 := h.2.1.1
    have ew := keep_bk h (k := 46 + 6 * b + 5) (by omega) (by omega)
    have e0 := keep_bk h (k := 0) (by omega) (by omega)
    refine ⟨?_, by dsimp only; omega, by dsimp only; omega⟩
    dsimp only
    split
    · rename_i w
      obtain ⟨p0, p1, p2⟩ := placeP_ok h.2.1 q.1.1 q.1.2 w
      have em := keep_bk h (k := 13 + A (46 + 6 * b + 5)) (by omega) (by omega)
      exact (mv_pull kv.2.1 g.1 (by omega) p0 (by omega)).VA (pull_ok kv.2.1 g.1 (by omega) p0 (by omega) (Or.inl rfl)) kv
    · exact (mv_wh q.1.1 (by omega)).VA (wh_ok kv.2.1 q.1.1 (by omega) (by omega) (Or.inl rfl)) kv
  · exact ⟨h, by show (-1 : Int) ≤ -1; omega, by show (-1 : Int) ≤ 3000; omega⟩
theorem putR_ok {A T : Int → Int} (h : VA A T) (b x p : Int) : VA (putR A T b x p).1 T ∧ -1 ≤ (putR A T b x p).2 ∧ (putR A T b x p).2 ≤ 3000 := by
  unfold putR
  split
  · rename_i q
    obtain ⟨⟨q1, q2, q3, q4, q5⟩, q6⟩ := q
    have kv := keep_VA h
    have g0 := h.2.1.1
    have gm := h.2.1.2.1 x q3.1 (by omega)
    have gr := okB_room h.2.1 q1.1 q1.2 q3.1 (by omega : x < 3) (by omega)
    have ew := keep_bk h (k := 46 + 6 * b + 5) (by omega) (by omega)
    have e0 := keep_bk h (k := 0) (by omega) (by omega)
    have em := keep_bk h (k := 13 + x) (by omega) (by omega)
    exact ⟨(mv_set q1.1 (by omega) q3.1 (by omega) q4 (by omega) (by omega)).VA (set_ok kv.2.1 q1.1 (by omega) (by omega) q3.1 (by omega) q4 (by omega) (by omega)) kv, by dsimp only; omega, by dsimp only; omega⟩
  · exact ⟨h, by show (-1 : Int) ≤ -1; omega, by show (-1 : Int) ≤ 3000; omega⟩
theorem fallAll_VA {A T : Int → Int} (h : VA A T) : VA (fallAll A T 3).1 T ∧ 0 ≤ (fallAll A T 3).2 ∧ (fallAll A T 3).2 ≤ 30 := by
  obtain ⟨a, b, c, d⟩ := fallAll_ok h.1 h.2.1 (fun x x0 x1 => by have := h.2.2.1.2.2.2.2.1 x x0 x1; omega) 3 (by decide)
  exact ⟨a.VA b h, c, d⟩
theorem wetR_ok {A T : Int → Int} (h : VA A T) {v : Int} (hv : v = 0 ∨ v = 1) : VA (wetR A T v).1 T ∧ -1 ≤ (wetR A T v).2 ∧ (wetR A T v).2 ≤ 3000 := by
  unfold wetR
  split
  · exact ⟨h, by show (-1 : Int) ≤ -1; omega, by show (-1 : Int) ≤ 3000; omega⟩
  · split
    · obtain ⟨a, b, c⟩ := fallAll_VA (set1_VA (keep_VA h) (j := 2) (v := 1) (Or.inl ⟨rfl, Or.inr rfl⟩))
      exact ⟨a, by omega, by omega⟩
    · exact ⟨set1_VA (keep_VA h) (Or.inl ⟨rfl, Or.inl rfl⟩), by show (-1 : Int) ≤ 0; omega, by show (0 : Int) ≤ 3000; omega⟩
theorem undoR_ok {A T : Int → Int} (h : VA A T) : VA (undoR A).1 T := by
  unfold undoR
  have h7 := h.2.2.1.2.2.1
  split
  · exact h
  · exact undo_ok h (by omega)
/-- a clause played -/
def playR (A T : Int → Int) (z : Int) : (Int → Int) × Int := if T z = 4 then nightR A T (T (z + 1)) else if T z = 5 then nudgeR A (T (z + 1)) (T (z + 2)) else if T z = 6 then takeR A (T (z + 1)) else if T z = 7 then putR A T (T (z + 1)) (T (z + 2)) (T (z + 3)) else if T z = 8 then wetR A T 1 else if T z = 9 then wetR A T 0 else (A, 0)
theorem playR_ok {A T : Int → Int} (h : VA A T) (z : Int) : VA (playR A T z).1 T ∧ -1 ≤ (playR A T z).2 ∧ (playR A T z).2 ≤ 3000 := by
  unfold playR
  split
  · exact nightR_ok h _
  · split
    · exact nudgeR_ok h _ _
    · split
      · exact takeR_ok h _
      · split
        · exact putR_ok h _ _ _
        · split
          · exact wetR_ok h (Or.inr rfl)
          · split
            · exact wetR_ok h (Or.inl rfl)
            · exact ⟨h, by show (-1 : Int) ≤ 0; omega, by show (0 : Int) ≤ 3000; omega⟩
/-- n clauses from k on -/
def playN (T : Int → Int) (b : Int) : Nat → Int → (Int → Int) → (Int → Int) × Int
  | 0, _, A => (A, -1)
  | n + 1, k, A => if (playR A T (b + 1 + 4 * k)).2 < 0 then ((playR A T (b + 1 + 4 * k)).1, k) else playN T b n (k + 1) (playR A T (b + 1 + 4 * k)).1
def playedR (A T : Int → Int) (text : Int) : (Int → Int) × Int := if 0 ≤ text ∧ text < A 5 then playN T (705 * text) (T (705 * text)).toNat 0 A else (A, -2)
theorem playN_ok {T : Int → Int} {b : Int} : ∀ (n : Nat) (k : Int) {A : Int → Int}, VA A T → VA (playN T b n k A).1 T
  | 0, _, _, h => h
  | n + 1, k, A, h => by
    unfold playN
    split
    · exact (playR_ok h _).1
    · exact playN_ok n (k + 1) (playR_ok h _).1
theorem playedR_ok {A T : Int → Int} (h : VA A T) (text : Int) : VA (playedR A T text).1 T := by
  unfold playedR
  split
  · exact playN_ok _ _ h
  · exact h
/-- texts and how many there are stay -/
theorem tx_keep {A : Int → Int} (h7 : 0 ≤ A 7 ∧ A 7 ≤ 30) : keepF A 5 = A 5 := keep_lo h7 (by decide) (by decide)
