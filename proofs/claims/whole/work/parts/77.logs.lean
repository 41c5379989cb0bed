/-! The log's range under the other acts. -/
theorem okLg_nudgeR {A T : Int → Int} (hV : VA A T) (h : okLg A) (x p : Int) : okLg (nudgeR A x p).1 := by
  unfold nudgeR
  split
  · rename_i q
    have gm := hV.2.1.2.1 x q.1.1 (by omega)
    exact okLg_mv (okLg_keep h hV) (mv_ex q.1.1 (by omega : x < 3) q.2.1 (by omega : p < 9))
  · exact h
theorem okLg_takeR {A T : Int → Int} (hV : VA A T) (h : okLg A) (b : Int) : okLg (takeR A b).1 := by
  unfold takeR
  split
  · rename_i q
    have kv := keep_VA hV
    have g := (hV.2.1.2.2.2.2 b q.1.1 q.1.2).1
    have g0 := hV.2.1.1
    dsimp only
    split
    · rename_i w
      obtain ⟨p0, p1, p2⟩ := placeP_ok hV.2.1 q.1.1 q.1.2 w
      have em := keep_bk hV (k := 13 + A (46 + 6 * b + 5)) (by omega) (by omega)
      exact okLg_mv (okLg_keep h hV) (mv_pull kv.2.1 g.1 (by omega) p0 (by omega))
    · exact okLg_mv (okLg_keep h hV) (mv_wh q.1.1 (by omega))
  · exact h
theorem okLg_putR {A T : Int → Int} (hV : VA A T) (h : okLg A) (b x p : Int) : okLg (putR A T b x p).1 := by
  unfold putR
  split
  · rename_i q
    obtain ⟨⟨q1, q2, q3, q4, q5⟩, q6⟩ := q
    have g0 := hV.2.1.1
    have gr := okB_room hV.2.1 q1.1 q1.2 q3.1 (by omega : x < 3) (by omega)
    have em := keep_bk hV (k := 13 + x) (by omega) (by omega)
    exact okLg_mv (okLg_keep h hV) (mv_set q1.1 (by omega) q3.1 (by omega) q4 (by omega) (by omega))
  · exact h
theorem okLg_wetR {A T : Int → Int} (hV : VA A T) (h : okLg A) {v : Int} (hv : v = 0 ∨ v = 1) : okLg (wetR A T v).1 := by
  unfold wetR
  split
  · exact h
  · split
    · have hs := set1_VA (keep_VA hV) (j := 2) (v := 1) (Or.inl ⟨rfl, Or.inr rfl⟩)
      exact okLg_mv (okLg_set1 (okLg_keep h hV) (by decide)) (fallAll_mv hs.K)
    · exact okLg_set1 (okLg_keep h hV) (by decide)
theorem okLg_playR {A T : Int → Int} (hV : VA A T) (h : okLg A) (z : Int) : okLg (playR A T z).1 := by
  unfold playR
  split
  · exact okLg_nightR hV h _
  · split
    · exact okLg_nudgeR hV h _ _
    · split
      · exact okLg_takeR hV h _
      · split
        · exact okLg_putR hV h _ _ _
        · split
          · exact okLg_wetR hV h (Or.inr rfl)
          · split
            · exact okLg_wetR hV h (Or.inl rfl)
            · exact h
theorem okLg_playN {T : Int → Int} {b : Int} : ∀ (n : Nat) (k : Int) {A : Int → Int}, VA A T → okLg A → okLg (playN T b n k A).1
  | 0, _, A, _, h => h
  | n + 1, k, A, hV, h => by
    unfold playN
    split
    · exact okLg_playR hV h _
    · exact okLg_playN n (k + 1) (playR_ok hV _).1 (okLg_playR hV h _)
theorem okLg_playedR {A T : Int → Int} (hV : VA A T) (h : okLg A) (text : Int) : okLg (playedR A T text).1 := by
  unfold playedR
  split
  · exact okLg_playN _ _ hV h
  · exact h
theorem okLg_undoR {A T : Int → Int} (hV : VA A T) (h : okLg A) : okLg (undoR A).1 := by
  have g0 := hV.1.1
  unfold undoR
  split
  · exact h
  · refine okLg_hi h (fun k q => ?_)
    show undoF A k = A k
    unfold undoF
    rw [if_neg (by omega), if_neg (by omega), if_neg (by omega), if_neg (by omega), if_neg (by omega), if_neg (by omega), if_neg (by omega)]
theorem okLg_yRow {A T : Int → Int} (hV : VA A T) (h : okLg A) {e : Int} (h1 : 1 ≤ A 0) : okLg (yRow A e) := by
  have hB := hV.2.1
  obtain ⟨b0, b1⟩ := yB_r (e := e) h1
  have gw := (hB.2.2.2.2 (yB A e) b0 b1).1
  have g0 := hB.1
  unfold yRow
  by_cases c : yW A e ≤ 2 ∧ 2 ≤ A (13 + yW A e)
  · rw [if_pos c]
    have c1 := c.1
    have c2 := c.2
    have hwe : yW A e = A (46 + 6 * yB A e + 5) := rfl
    obtain ⟨p0, p1, p2⟩ := placeP_ok hB b0 b1 c1
    rw [← hwe] at p1 p2
    have hm := hB.2.1 (yW A e) (by omega) (by omega)
    have q0 : 0 ≤ yQ A e := Int.emod_nonneg _ (by omega)
    have q1 : yQ A e < A (13 + yW A e) := Int.emod_lt_of_pos _ (by omega)
    have m1 := mv_pull (to := 3) hB (x := yW A e) (by omega) (by omega) p0 p1
    have em : pullF A (yW A e) (placeP A (yB A e)) 3 (13 + yW A e) = A (13 + yW A e) - 1 := by rw [pull_many hB (by omega) (by omega) p0 p1 (by omega) (by omega), if_pos rfl]
    exact okLg_mv (okLg_mv h m1) (mv_set (A := pullF A (yW A e) (placeP A (yB A e)) 3) (b := yB A e) (x := yW A e) (p := yQ A e) b0 (by omega) (by omega) (by omega) q0 (by omega) (by omega))
  · rw [if_neg c]
    exact h
theorem okLg_yWet {A T : Int → Int} (hV : VA A T) (h : okLg A) (e : Int) : okLg (yWet A T e) := by
  have h2 := hV.1.2.1
  unfold yWet
  split
  · unfold twR
    split
    · have hs := set1_VA hV (j := 2) (v := 1) (Or.inl ⟨rfl, Or.inr rfl⟩)
      exact okLg_mv (okLg_set1 h (by decide)) (fallAll_mv hs.K)
    · exact okLg_set1 h (by decide)
  · exact h
theorem okLg_yearN {T : Int → Int} : ∀ (n : Nat) {A : Int → Int} {e : Int}, VA A T → okLg A → 1 ≤ A 0 → okLg (yearN T n A e).1
  | 0, A, e, _, h, _ => h
  | n + 1, A, e, hV, h, h1 => by
    obtain ⟨a1, a2, _⟩ := yRow_ok (e := e) hV h1
    obtain ⟨c1, c2⟩ := yWet_ok a1 (yE A e)
    exact okLg_yearN n (e := anI (yE A e)) c1 (okLg_yWet a1 (okLg_yRow hV h h1) _) (by omega)
theorem okLg_yearR {A T : Int → Int} (hV : VA A T) (h : okLg A) (sd n : Int) : okLg (yearR A T sd n).1 := by
  unfold yearR
  split
  · have k0 := keep_bk hV (k := 0) (by decide) (by decide)
    exact okLg_set1 (okLg_yearN _ (keep_VA hV) (okLg_keep h hV) (by omega)) (by decide)
  · exact h
/-- the parts of an entry -/
theorem lg_parts {A : Int → Int} (h : okLg A) (j : Int) : 0 ≤ lgA A j ∧ lgA A j < 16777216 ∧ lgA A j % 16 = A (1594 + 4 * (j % 512)) ∧ lgA A j / 16 % 16 = A (1594 + 4 * (j % 512) + 1) ∧ lgA A j / 256 % 4 = A (1594 + 4 * (j % 512) + 2) ∧ lgA A j / 1024 = A (1594 + 4 * (j % 512) + 3) := by
  have g := h (j % 512) (Int.emod_nonneg _ (by decide)) (Int.emod_lt_of_pos _ (by decide))
  unfold lgA
  omega
