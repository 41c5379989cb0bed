/-! What the row (A) and the texts (T) mean: clauses, thickness, pushing. -/
theorem cNK_congr {op op' : Int → Int} {i0 : Int} {m : Nat} (h : ∀ j : Nat, j < m → op (i0 + j) = op' (i0 + j)) : ∀ q : Nat, q ≤ m → cNK op i0 q = cNK op' i0 q := by
  intro q
  induction q with
  | zero => intro _; rfl
  | succ q ih =>
    intro hq
    show (cN1 (op (i0 + q)) (cNK op i0 q).1, cK1 (op (i0 + q)) (cNK op i0 q).2) = (cN1 (op' (i0 + q)) (cNK op' i0 q).1, cK1 (op' (i0 + q)) (cNK op' i0 q).2)
    rw [ih (by omega), h q (by omega)]
theorem vmR_congr {op vl nm nm' : Int → Int} {i0 : Int} {m : Nat} (h : ∀ j : Nat, j < m → op (i0 + j) = 1 → nm (vl (i0 + j)) = nm' (vl (i0 + j))) : ∀ q : Nat, q ≤ m → vmR op vl nm i0 q = vmR op vl nm' i0 q := by
  intro q
  induction q with
  | zero => intro _; rfl
  | succ q ih =>
    intro hq
    have e := ih (by omega)
    have h1 := h q (by omega)
    show (vs1 (op (i0 + q)) (vl (i0 + q)) (cNK op i0 q).1 nm (vmR op vl nm i0 q).1, ts1 (op (i0 + q)) (cNK op i0 q).1 (cNK op i0 q).2 (vmR op vl nm i0 q).1 (vmR op vl nm i0 q).2) = (vs1 (op (i0 + q)) (vl (i0 + q)) (cNK op i0 q).1 nm' (vmR op vl nm' i0 q).1, ts1 (op (i0 + q)) (cNK op i0 q).1 (cNK op i0 q).2 (vmR op vl nm' i0 q).1 (vmR op vl nm' i0 q).2)
    rw [e]
    congr 1
    funext j
    unfold vs1
    by_cases ho : op (i0 + q) = 1
    · rw [h1 ho]
    · simp only [if_neg ho]
/-- the first of n clauses from k on of sort so (law la) of the text at b; -1 -/
def clF (T : Int → Int) (b so la : Int) : Nat → Int → Int
  | 0, _ => -1
  | n + 1, k => if T (b + 1 + 4 * k) = so ∧ (so ≠ 0 ∨ T (b + 2 + 4 * k) = la) then k else clF T b so la n (k + 1)
theorem clF_spec {T : Int → Int} {b so la : Int} : ∀ (n : Nat) (k : Int), (clF T b so la n k = -1 ∧ ∀ j, k ≤ j → j < k + n → ¬ (T (b + 1 + 4 * j) = so ∧ (so ≠ 0 ∨ T (b + 2 + 4 * j) = la))) ∨ (k ≤ clF T b so la n k ∧ clF T b so la n k < k + n ∧ (T (b + 1 + 4 * clF T b so la n k) = so ∧ (so ≠ 0 ∨ T (b + 2 + 4 * clF T b so la n k) = la)) ∧ ∀ j, k ≤ j → j < clF T b so la n k → ¬ (T (b + 1 + 4 * j) = so ∧ (so ≠ 0 ∨ T (b + 2 + 4 * j) = la)))
  | 0, k => Or.inl ⟨rfl, fun j h1 h2 => absurd h1 (by omega)⟩
  | n + 1, k => by
    have ih := clF_spec (T := T) (b := b) (so := so) (la := la) n (k + 1)
    unfold clF
    by_cases h : T (b + 1 + 4 * k) = so ∧ (so ≠ 0 ∨ T (b + 2 + 4 * k) = la)
    · rw [if_pos h]
      exact Or.inr ⟨Int.le_refl _, by omega, h, fun j h1 h2 => absurd h1 (by omega)⟩
    · rw [if_neg h]
      rcases ih with ⟨h1, h2⟩ | ⟨h1, h2, h3, h4⟩
      · refine Or.inl ⟨h1, fun j q1 q2 => ?_⟩
        rcases (by omega : j = k ∨ k + 1 ≤ j) with q | q
        · rw [q]; exact h
        · exact h2 j q (by omega)
      · refine Or.inr ⟨by omega, by omega, h3, fun j q1 q2 => ?_⟩
        rcases (by omega : j = k ∨ k + 1 ≤ j) with q | q
        · rw [q]; exact h
        · exact h4 j q q2
/-- the clause of THE TEXT; -1 -/
def clP (A T : Int → Int) (so la : Int) : Int := if A 6 < 0 then -1 else clF T (705 * A 6) so la (T (705 * A 6)).toNat 0
def opT (T : Int → Int) (b j : Int) : Int := T (b + 97 + 2 * j)
def vlT (T : Int → Int) (b j : Int) : Int := T (b + 97 + 2 * j + 1)
/-- names that a clause of a sort may hold -/
def okNm (so v : Int) : Prop := v ≤ 5 ∨ (so = 0 ∧ v ≤ 11) ∨ (so = 1 ∧ 12 ≤ v)
/-- the clause k of the text at b holds a good code -/
def okL (T : Int → Int) (b k so : Int) : Prop := ∃ N : Nat, 0 ≤ T (b + 3 + 4 * k) ∧ T (b + 3 + 4 * k) + N ≤ 300 ∧ T (b + 4 + 4 * k) = T (b + 3 + 4 * k) + N ∧ 0 < N ∧ okC (opT T b) (vlT T b) (T (b + 3 + 4 * k)) N ∧ (∀ j : Nat, j < N → opT T b (T (b + 3 + 4 * k) + j) = 1 → okNm so (vlT T b (T (b + 3 + 4 * k) + j))) ∧ cNK (opT T b) (T (b + 3 + 4 * k)) N = if so = 2 then (1, 0) else (0, 1)
/-- a text that was read -/
def VT (T : Int → Int) (b : Int) : Prop := (0 ≤ T b ∧ T b ≤ 24) ∧ ∀ k, 0 ≤ k → k < T b →
  (0 ≤ T (b + 1 + 4 * k) ∧ T (b + 1 + 4 * k) ≤ 9) ∧
  (T (b + 1 + 4 * k) = 0 → 0 ≤ T (b + 2 + 4 * k) ∧ T (b + 2 + 4 * k) ≤ 5) ∧
  (T (b + 1 + 4 * k) ≤ 2 → okL T b k (T (b + 1 + 4 * k))) ∧
  (T (b + 1 + 4 * k) = 3 → 1 ≤ T (b + 2 + 4 * k) ∧ T (b + 2 + 4 * k) ≤ 2) ∧
  (T (b + 1 + 4 * k) = 4 → 1 ≤ T (b + 2 + 4 * k) ∧ T (b + 2 + 4 * k) ≤ 99) ∧
  (T (b + 1 + 4 * k) = 5 → 0 ≤ T (b + 2 + 4 * k) ∧ T (b + 2 + 4 * k) ≤ 2 ∧ 0 ≤ T (b + 3 + 4 * k) ∧ T (b + 3 + 4 * k) ≤ 9) ∧
  (T (b + 1 + 4 * k) = 6 → 0 ≤ T (b + 2 + 4 * k) ∧ T (b + 2 + 4 * k) ≤ 9) ∧
  (T (b + 1 + 4 * k) = 7 → 0 ≤ T (b + 2 + 4 * k) ∧ T (b + 2 + 4 * k) ≤ 9 ∧ 0 ≤ T (b + 3 + 4 * k) ∧ T (b + 3 + 4 * k) ≤ 2 ∧ 0 ≤ T (b + 4 + 4 * k) ∧ T (b + 4 + 4 * k) ≤ 9)
/-- what judging rests on -/
def VJ (A T : Int → Int) : Prop := (0 ≤ A 0 ∧ A 0 ≤ 10) ∧ (A 2 = 0 ∨ A 2 = 1) ∧ (1 ≤ A 3 ∧ A 3 ≤ 2) ∧ (0 ≤ A 5 ∧ A 5 ≤ 4) ∧ (-1 ≤ A 6 ∧ A 6 < A 5) ∧
  (∀ b, 0 ≤ b → b < A 0 → (∀ w, 0 ≤ w → w < 4 → 0 ≤ A (46 + 6 * b + w) ∧ A (46 + 6 * b + w) ≤ 9) ∧ 1 ≤ A (46 + 6 * b + 2) ∧ 0 ≤ A (46 + 6 * b + 4) ∧ A (46 + 6 * b + 4) ≤ 5) ∧
  (∀ i, 0 ≤ i → i < A 5 → VT T (705 * i))
/-- a book's names, and others f -/
def nmA (A : Int → Int) (b : Int) (f : Int → Int) : Int → Int := fun j => if j = 0 then b else if j < 5 then A (46 + 6 * b + (j - 1)) else if j = 5 then A 2 else f j
def nmL (A : Int → Int) (b o right : Int) : Int → Int := nmA A b (fun j => if j = 6 then right else if j = 7 then o else if j < 12 then A (46 + 6 * o + (j - 8)) else 0)
def nmF (A : Int → Int) (b sh pl many : Int) : Int → Int := nmA A b (fun j => if j = 12 then sh else if j = 13 then pl else if j = 14 then many else 0)
def nmS (A : Int → Int) (b : Int) : Int → Int := nmA A b (fun _ => 0)
/-- a clause of THE TEXT worked: its values and truths -/
def vmT (T : Int → Int) (B k : Int) (nm : Int → Int) : (Int → Int) × (Int → Int) := vmR (opT T B) (vlT T B) nm (T (B + 3 + 4 * k)) (T (B + 4 + 4 * k) - T (B + 3 + 4 * k)).toNat
def pushP (A T : Int → Int) (la b o right : Int) : Int := if clP A T 0 la < 0 then 0 else (vmT T (705 * A 6) (clP A T 0 la) (nmL A b o right)).2 0
def c09 (v : Int) : Int := if v < 0 then 0 else if 9 < v then 9 else v
def thickP (A T : Int → Int) (b : Int) : Int := A (46 + 6 * b + 2) + (if A 2 = 1 ∧ 0 ≤ clP A T 2 0 then c09 ((vmT T (705 * A 6) (clP A T 2 0) (nmS A b)).1 0) else 0)
def fullN (A T : Int → Int) (sh : Int) : Nat → Int
  | 0 => 0
  | p + 1 => fullN A T sh p + thickP A T (A (16 + 10 * sh + p))
def fullP (A T : Int → Int) (sh : Int) : Int := fullN A T sh (A (13 + sh)).toNat
def needP (A T : Int → Int) : Int := if clP A T 3 0 < 0 then A 3 else T (705 * A 6 + 2 + 4 * clP A T 3 0)
def chgP (A T : Int → Int) (x y : Int) : Prop := needP A T ≤ pushP A T (A (46 + 6 * x + 4)) x y 1 + pushP A T (A (46 + 6 * y + 4)) y x 0
def fallP (A T : Int → Int) (b sh pl many : Int) : Int := if clP A T 1 0 < 0 then 0 else (vmT T (705 * A 6) (clP A T 1 0) (nmF A b sh pl many)).2 0
theorem c09_r (v : Int) : 0 ≤ c09 v ∧ c09 v ≤ 9 := by
  unfold c09; (repeat' split) <;> omega
theorem VJ.text {A T : Int → Int} (h : VJ A T) (h6 : 0 ≤ A 6) : VT T (705 * A 6) := h.2.2.2.2.2.2 (A 6) h6 h.2.2.2.2.1.2
theorem clP_r {A T : Int → Int} (h : VJ A T) (so la : Int) : clP A T so la = -1 ∨ (0 ≤ A 6 ∧ 0 ≤ clP A T so la ∧ clP A T so la < T (705 * A 6) ∧ T (705 * A 6 + 1 + 4 * clP A T so la) = so ∧ (so ≠ 0 ∨ T (705 * A 6 + 2 + 4 * clP A T so la) = la)) := by
  unfold clP
  by_cases h6 : A 6 < 0
  · rw [if_pos h6]; exact Or.inl rfl
  · rw [if_neg h6]
    have hv := (h.text (by omega)).1
    rcases clF_spec (T := T) (b := 705 * A 6) (so := so) (la := la) (T (705 * A 6)).toNat 0 with ⟨h1, h2⟩ | ⟨h1, h2, h3, h4⟩
    · exact Or.inl h1
    · exact Or.inr ⟨by omega, by omega, by omega, h3.1, h3.2⟩
theorem clP_ok {A T : Int → Int} (h : VJ A T) {so la : Int} (hs : 0 ≤ so) (hs2 : so ≤ 2) (hk : 0 ≤ clP A T so la) : okL T (705 * A 6) (clP A T so la) so := by
  rcases clP_r h so la with h1 | ⟨h1, h2, h3, h4, h5⟩
  · omega
  · have := ((h.text h1).2 _ h2 h3).2.2.1
    rw [h4] at this
    exact this hs2
theorem needP_r {A T : Int → Int} (h : VJ A T) : 1 ≤ needP A T ∧ needP A T ≤ 2 := by
  unfold needP
  have h3 := h.2.2.1
  split
  · exact h3
  · rename_i hk
    rcases clP_r h 3 0 with h1 | ⟨h1, h2, h3, h4, h5⟩
    · omega
    · exact ((h.text h1).2 _ h2 h3).2.2.2.1 h4
/-- what stays of a clause worked: bounds -/
theorem vmT_r {T : Int → Int} {B k so : Int} {nm : Int → Int} (h : okL T B k so) (hnm : ∀ j, 0 ≤ j → j < 15 → -1000000 ≤ nm j ∧ nm j ≤ 1000000) : (-1000000 ≤ (vmT T B k nm).1 0 ∧ (vmT T B k nm).1 0 ≤ 1000000) ∧ ((vmT T B k nm).2 0 = 0 ∨ (vmT T B k nm).2 0 = 1) := by
  obtain ⟨N, h1, h2, h3, h4, h5, h6, h7⟩ := h
  have e : (T (B + 4 + 4 * k) - T (B + 3 + 4 * k)).toNat = N := by omega
  have := vmR_r (nm := nm) h5 hnm N (Nat.le_refl _)
  unfold vmT
  rw [e]
  exact ⟨this.1 0 (by decide), this.2 0 (by decide)⟩
theorem nmA_r {A T : Int → Int} (h : VJ A T) {b : Int} {f : Int → Int} (h0 : 0 ≤ b) (h1 : b < A 0) (hf : ∀ j, 6 ≤ j → j < 15 → -1000000 ≤ f j ∧ f j ≤ 1000000) : ∀ j, 0 ≤ j → j < 15 → -1000000 ≤ nmA A b f j ∧ nmA A b f j ≤ 1000000 := by
  intro j hj hj2
  have ha := h.1
  have hw := h.2.1
  have ht := (h.2.2.2.2.2.1 b h0 h1).1 (j - 1)
  have hfj := hf j
  unfold nmA
  (repeat' split) <;> omega
theorem nmL_r {A T : Int → Int} (h : VJ A T) {b o right : Int} (h0 : 0 ≤ b) (h1 : b < A 0) (h2 : 0 ≤ o) (h3 : o < A 0) (hr : right = 0 ∨ right = 1) : ∀ j, 0 ≤ j → j < 15 → -1000000 ≤ nmL A b o right j ∧ nmL A b o right j ≤ 1000000 := by
  refine nmA_r h h0 h1 (fun j hj hj2 => ?_)
  have ha := h.1
  have ht := (h.2.2.2.2.2.1 o h2 h3).1 (j - 8)
  (repeat' split) <;> omega
theorem nmF_r {A T : Int → Int} (h : VJ A T) {b sh pl many : Int} (h0 : 0 ≤ b) (h1 : b < A 0) (h2 : 0 ≤ sh ∧ sh ≤ 10) (h3 : 0 ≤ pl ∧ pl ≤ 10) (h4 : 0 ≤ many ∧ many ≤ 10) : ∀ j, 0 ≤ j → j < 15 → -1000000 ≤ nmF A b sh pl many j ∧ nmF A b sh pl many j ≤ 1000000 := by
  refine nmA_r h h0 h1 (fun j hj hj2 => ?_)
  (repeat' split) <;> omega
theorem nmS_r {A T : Int → Int} (h : VJ A T) {b : Int} (h0 : 0 ≤ b) (h1 : b < A 0) : ∀ j, 0 ≤ j → j < 15 → -1000000 ≤ nmS A b j ∧ nmS A b j ≤ 1000000 := nmA_r h h0 h1 (fun j hj hj2 => by omega)
theorem pushP_01 {A T : Int → Int} (h : VJ A T) {la b o right : Int} (h0 : 0 ≤ b) (h1 : b < A 0) (h2 : 0 ≤ o) (h3 : o < A 0) (hr : right = 0 ∨ right = 1) : pushP A T la b o right = 0 ∨ pushP A T la b o right = 1 := by
  unfold pushP
  split
  · exact Or.inl rfl
  · rename_i hk
    exact (vmT_r (clP_ok h (by decide) (by decide) (by omega)) (nmL_r h h0 h1 h2 h3 hr)).2
theorem fallP_01 {A T : Int → Int} (h : VJ A T) {b sh pl many : Int} (h0 : 0 ≤ b) (h1 : b < A 0) (h2 : 0 ≤ sh ∧ sh ≤ 10) (h3 : 0 ≤ pl ∧ pl ≤ 10) (h4 : 0 ≤ many ∧ many ≤ 10) : fallP A T b sh pl many = 0 ∨ fallP A T b sh pl many = 1 := by
  unfold fallP
  split
  · exact Or.inl rfl
  · rename_i hk
    exact (vmT_r (clP_ok h (by decide) (by decide) (by omega)) (nmF_r h h0 h1 h2 h3 h4)).2
theorem thickP_r {A T : Int → Int} (h : VJ A T) {b : Int} (h0 : 0 ≤ b) (h1 : b < A 0) : 1 ≤ thickP A T b ∧ thickP A T b ≤ 18 := by
  have ht := h.2.2.2.2.2.1 b h0 h1
  have h2 := ht.1 2 (by decide) (by decide)
  have hc := c09_r ((vmT T (705 * A 6) (clP A T 2 0) (nmS A b)).1 0)
  unfold thickP
  split <;> omega
