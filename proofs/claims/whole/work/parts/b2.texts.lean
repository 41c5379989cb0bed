/-! No act changes the number of texts. -/
theorem s5_keep {A T : Int → Int} (h : VA A T) : keepF A 5 = A 5 := keep_lo h.2.2.1.2.2.1 (by decide) (by decide)
theorem s5_fall {A T : Int → Int} (h : KA A T) : (fallAll A T 3).1 5 = A 5 := (fallAll_mv h).lo (by decide)
theorem s5_night {A T : Int → Int} (h : VA A T) (h1 : A 1 + 1 ≤ 9999) : nightF A T 5 = A 5 := by
  obtain ⟨a, b, c, d, e, f, i⟩ := nightB_ok h
  have hR := h.2.2.1.1
  have ks : KA (set1 (nightB A T).1 1 (A 1 + 1)) T := set1_KA a (Or.inl ⟨rfl, by omega, h1⟩)
  exact (s5_fall ks).trans ((set1_ne (by decide)).trans ((b 5 (by omega)).trans (s5_keep h)))
theorem s5_nights {A T : Int → Int} (h : VA A T) : ∀ n : Nat, A 1 + n ≤ 9999 → (nightI A T n).1 5 = A 5
  | 0, _ => rfl
  | n + 1, hn => by
    obtain ⟨a, b, _⟩ := nightI_ok h n (by omega)
    exact (s5_night a (by omega)).trans (s5_nights h n (by omega))
theorem s5_nightR {A T : Int → Int} (h : VA A T) (n : Int) : (nightR A T n).1 5 = A 5 := by
  unfold nightR
  split
  · exact s5_nights h _ (by omega)
  · rfl
theorem s5_nudgeR {A T : Int → Int} (h : VA A T) (x p : Int) : (nudgeR A x p).1 5 = A 5 := by
  unfold nudgeR
  split
  · rename_i q
    have gm := h.2.1.2.1 x q.1.1 (by omega)
    exact ((mv_ex (A := keepF A) q.1.1 (by omega : x < 3) q.2.1 (by omega : p < 9)).lo (by decide)).trans (s5_keep h)
  · rfl
theorem s5_takeR {A T : Int → Int} (h : VA A T) (b : Int) : (takeR A b).1 5 = A 5 := by
  unfold takeR
  split
  · rename_i q
    have kv := keep_VA h
    have g := (h.2.1.2.2.2.2 b q.1.1 q.1.2).1
    have g0 := h.2.1.1
    dsimp only
    split
    · rename_i w
      obtain ⟨p0, p1, p2⟩ := placeP_ok h.2.1 q.1.1 q.1.2 w
      have em := keep_bk h (k := 13 + A (46 + 6 * b + 5)) (by omega) (by omega)
      exact ((mv_pull kv.2.1 g.1 (by omega) p0 (by omega)).lo (by decide)).trans (s5_keep h)
    · exact ((mv_wh q.1.1 (by omega)).lo (by decide)).trans (s5_keep h)
  · rfl
theorem s5_putR {A T : Int → Int} (h : VA A T) (b x p : Int) : (putR A T b x p).1 5 = A 5 := by
  unfold putR
  split
  · rename_i q
    obtain ⟨⟨q1, q2, q3, q4, q5⟩, q6⟩ := q
    have g0 := h.2.1.1
    have gm := h.2.1.2.1 x q3.1 (by omega)
    have gr := okB_room h.2.1 q1.1 q1.2 q3.1 (by omega : x < 3) (by omega)
    have em := keep_bk h (k := 13 + x) (by omega) (by omega)
    exact ((mv_set (A := keepF A) (b := b) (x := x) (p := p) q1.1 (by omega) q3.1 (by omega) q4 (by omega) (by omega)).lo (by decide)).trans (s5_keep h)
  · rfl
theorem s5_wetR {A T : Int → Int} (h : VA A T) {v : Int} (hv : v = 0 ∨ v = 1) : (wetR A T v).1 5 = A 5 := by
  unfold wetR
  split
  · rfl
  · split
    · exact (s5_fall (KA_VA (set1_VA (keep_VA h) (j := 2) (v := 1) (Or.inl ⟨rfl, Or.inr rfl⟩)))).trans ((set1_ne (by decide)).trans (s5_keep h))
    · exact (set1_ne (A := keepF A) (j := 2) (v := 0) (k := 5) (by decide)).trans (s5_keep h)
theorem s5_undoR {A T : Int → Int} (h : VA A T) : (undoR A).1 5 = A 5 := by
  unfold undoR
  split
  · rfl
  · show undoF A 5 = A 5
    unfold undoF
    (repeat' split) <;> first | rfl | omega
theorem s5_playR {A T : Int → Int} (h : VA A T) (z : Int) : (playR A T z).1 5 = A 5 := by
  unfold playR
  split
  · exact s5_nightR h _
  · split
    · exact s5_nudgeR h _ _
    · split
      · exact s5_takeR h _
      · split
        · exact s5_putR h _ _ _
        · (repeat' split) <;> first | exact s5_wetR h (Or.inr rfl) | exact s5_wetR h (Or.inl rfl) | rfl
theorem s5_playN {T : Int → Int} {b : Int} : ∀ (n : Nat) (k : Int) {A : Int → Int}, VA A T → (playN T b n k A).1 5 = A 5
  | 0, _, _, _ => rfl
  | n + 1, k, A, h => by
    unfold playN
    split
    · exact s5_playR h _
    · exact (s5_playN n (k + 1) (playR_ok h _).1).trans (s5_playR h _)
theorem s5_playedR {A T : Int → Int} (h : VA A T) (text : Int) : (playedR A T text).1 5 = A 5 := by
  unfold playedR
  split
  · exact s5_playN _ _ h
  · rfl
theorem s5_yRow {A T : Int → Int} (hV : VA A T) {e : Int} (h1 : 1 ≤ A 0) : yRow A e 5 = A 5 := by
  have hB := hV.2.1
  obtain ⟨b0, b1⟩ := yB_r (e := e) h1
  have gw := (hB.2.2.2.2 (yB A e) b0 b1).1
  have g0 := hB.1
  unfold yRow
  by_cases c : yW A e ≤ 2 ∧ 2 ≤ A (13 + yW A e)
  · rw [if_pos c]
    have c1 := c.1
    have c2 := c.2
    have hwe : yW A e = A (46 + 6 * yB A e + 5) := rfl
    obtain ⟨p0, p1, p2⟩ := placeP_ok hB b0 b1 c1
    rw [← hwe] at p1 p2
    have hm := hB.2.1 (yW A e) (by omega) (by omega)
    have q0 : 0 ≤ yQ A e := Int.emod_nonneg _ (by omega)
    have q1 : yQ A e < A (13 + yW A e) := Int.emod_lt_of_pos _ (by omega)
    have m1 := mv_pull (to := 3) hB (x := yW A e) (by omega) (by omega) p0 p1
    have em : pullF A (yW A e) (placeP A (yB A e)) 3 (13 + yW A e) = A (13 + yW A e) - 1 := by rw [pull_many hB (by omega) (by omega) p0 p1 (by omega) (by omega), if_pos rfl]
    exact ((mv_set (A := pullF A (yW A e) (placeP A (yB A e)) 3) (b := yB A e) (x := yW A e) (p := yQ A e) b0 (by omega) (by omega) (by omega) q0 (by omega) (by omega)).lo (by decide)).trans (m1.lo (by decide))
  · rw [if_neg c]
theorem s5_yWet {A T : Int → Int} (hV : VA A T) (e : Int) : yWet A T e 5 = A 5 := by
  unfold yWet
  split
  · unfold twR
    split
    · have hs := set1_VA hV (j := 2) (v := 1) (Or.inl ⟨rfl, Or.inr rfl⟩)
      exact (s5_fall (KA_VA hs)).trans (set1_ne (by decide))
    · dsimp only
      exact set1_ne (by decide)
  · rfl
theorem s5_yearN {T : Int → Int} : ∀ (n : Nat) {A : Int → Int} {e : Int}, VA A T → 1 ≤ A 0 → (yearN T n A e).1 5 = A 5
  | 0, A, e, _, _ => rfl
  | n + 1, A, e, hV, h1 => by
    obtain ⟨a1, a2, _⟩ := yRow_ok (e := e) hV h1
    obtain ⟨c1, c2⟩ := yWet_ok a1 (yE A e)
    exact (s5_yearN n (e := anI (yE A e)) c1 (by omega)).trans ((s5_yWet a1 _).trans (s5_yRow hV h1))
theorem s5_yearR {A T : Int → Int} (hV : VA A T) (sd n : Int) : (yearR A T sd n).1 5 = A 5 := by
  unfold yearR
  split
  · have k0 := keep_bk hV (k := 0) (by decide) (by decide)
    dsimp only
    exact (set1_ne (by decide)).trans ((s5_yearN _ (keep_VA hV) (by omega)).trans (s5_keep hV))
  · rfl
theorem s5_wideR {A T : Int → Int} (x w : Int) : (wideR A T x w).1 5 = A 5 := by
  unfold wideR
  split
  · dsimp only
    exact set1_ne (by omega)
  · rfl
theorem s5_bookR {A T : Int → Int} (h : VA A T) (a b c d e : Int) : (bookR A a b c d e).1 5 = A 5 := by
  have := h.1.1
  unfold bookR
  split
  · exact bookF_ne (A := A) (k := 5) (by decide) (by omega)
  · rfl
theorem s5_needR (A : Int → Int) (w : Int) : (needR A w).1 5 = A 5 := by
  unfold needR
  split
  · dsimp only
    exact set1_ne (by decide)
  · rfl
theorem s5_byR (A : Int → Int) (w : Int) : (byR A w).1 5 = A 5 := by
  unfold byR
  split
  · dsimp only
    exact set1_ne (by decide)
  · rfl
theorem s5_dustR {A T : Int → Int} (h : VA A T) (b o r p : Int) : (dustR A b o r p).1 5 = A 5 := by
  have := h.2.2.1.2.2.2.1
  unfold dustR
  split
  · dsimp only
    exact set1_ne (by decide)
  · split
    · exact dustF_ne (A := A) (k := 5) (by decide) (by omega)
    · rfl
theorem okLg_wideR {A T : Int → Int} (h : okLg A) (x w : Int) : okLg (wideR A T x w).1 := by
  unfold wideR
  split
  · exact okLg_set1 (j := 10 + x) h (by omega)
  · exact h
theorem okLg_bookR {A T : Int → Int} (hV : VA A T) (h : okLg A) (a b c d e : Int) : okLg (bookR A a b c d e).1 := by
  have := hV.1.1
  unfold bookR
  split
  · exact okLg_hi h (fun k q => bookF_ne (A := A) (k := k) (by omega) (by omega))
  · exact h
theorem okLg_needR {A : Int → Int} (h : okLg A) (w : Int) : okLg (needR A w).1 := by
  unfold needR
  split
  · exact okLg_set1 (j := 3) h (by decide)
  · exact h
theorem okLg_byR {A : Int → Int} (h : okLg A) (w : Int) : okLg (byR A w).1 := by
  unfold byR
  split
  · exact okLg_set1 (j := 6) h (by decide)
  · exact h
theorem okLg_dustR {A T : Int → Int} (hV : VA A T) (h : okLg A) (b o r p : Int) : okLg (dustR A b o r p).1 := by
  have := hV.2.2.1.2.2.2.1
  unfold dustR
  split
  · exact okLg_set1 (j := 8) h (by decide)
  · split
    · exact okLg_hi h (fun k q => dustF_ne (A := A) (k := k) (by omega) (by omega))
    · exact h
