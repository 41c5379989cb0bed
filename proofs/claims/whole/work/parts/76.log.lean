/-! What is written down is in its range. -/
def okLg (A : Int → Int) : Prop := ∀ j, 0 ≤ j → j < 512 → (0 ≤ A (1594 + 4 * j) ∧ A (1594 + 4 * j) ≤ 9) ∧ (0 ≤ A (1594 + 4 * j + 1) ∧ A (1594 + 4 * j + 1) ≤ 9) ∧ (0 ≤ A (1594 + 4 * j + 2) ∧ A (1594 + 4 * j + 2) ≤ 2) ∧ (0 ≤ A (1594 + 4 * j + 3) ∧ A (1594 + 4 * j + 3) ≤ 9999)
theorem okLg_hi {A A' : Int → Int} (h : okLg A) (e : ∀ k, 1594 ≤ k → A' k = A k) : okLg A' := by
  intro j a b
  rw [e _ (by omega), e _ (by omega), e _ (by omega), e _ (by omega)]
  exact h j a b
theorem okLg_mv {A A' : Int → Int} (h : okLg A) (m : mv A A') : okLg A' := okLg_hi h (fun k q => m.lo (by omega))
theorem okLg_set1 {A : Int → Int} {j v : Int} (h : okLg A) (hj : j < 1594) : okLg (set1 A j v) := okLg_hi h (fun k q => set1_ne (by omega))
theorem okLg_keep {A T : Int → Int} (h : okLg A) (hV : VA A T) : okLg (keepF A) := okLg_hi h (fun k q => keep_lo hV.2.2.1.2.2.1 (Or.inr q) (by omega))
theorem okLg_wr {A : Int → Int} {b o x : Int} (h : okLg A) (hb : 0 ≤ b ∧ b ≤ 9) (ho : 0 ≤ o ∧ o ≤ 9) (hx : 0 ≤ x ∧ x ≤ 2) (h1 : 0 ≤ A 1 ∧ A 1 ≤ 9999) : okLg (wrF A b o x) := by
  intro j a c
  have g := h j a c
  have hm0 : 0 ≤ A 9 % 512 := Int.emod_nonneg _ (by decide)
  unfold wrF
  refine ⟨?_, ?_, ?_, ?_⟩ <;> ((repeat' split) <;> omega)
theorem okLg_wq {A : Int → Int} {b o x v : Int} (h : okLg A) (hb : 0 ≤ b ∧ b ≤ 9) (ho : 0 ≤ o ∧ o ≤ 9) (hx : 0 ≤ x ∧ x ≤ 2) (h1 : 0 ≤ A 1 ∧ A 1 ≤ 9999) : okLg (wq A b o x v) := by
  unfold wq
  split
  · exact okLg_wr h hb ho hx h1
  · exact h
theorem okLg_chF {A T : Int → Int} {x p : Int} (hK : KA A T) (h : okLg A) (hx0 : 0 ≤ x) (hx1 : x < 3) (hp0 : 0 ≤ p) (hp1 : p + 1 < A (13 + x)) : okLg (chF A T x p) := by
  have hB := hK.2.1
  have g0 := hB.1
  have gm := hB.2.1 x hx0 hx1
  have b1 := hB.2.2.1 x p hx0 hx1 hp0 (by omega)
  have b2 := hB.2.2.1 x (p + 1) hx0 hx1 (by omega) hp1
  have h1 := hK.2.2.1.1
  unfold chF
  split
  · refine okLg_hi (okLg_wq (okLg_wq h ?_ ?_ ?_ h1) ?_ ?_ ?_ ?_) (fun k q => ex_else hx0 hx1 hp0 (by omega) (by omega))
    · omega
    · omega
    · omega
    · omega
    · omega
    · omega
    · rw [wq_pl (by decide) (by decide)]; exact h1
  · exact h
theorem okLg_chS {A T : Int → Int} {x q g : Int} (hK : KA A T) (hx0 : 0 ≤ x) (hx1 : x < 3) (hq0 : 0 ≤ q) (hg : gapS A g) (h : okLg A) : ∀ k : Nat, (0 < k → q + 2 * k ≤ A (13 + x)) → okLg (chS A T x q k).1
  | 0, _ => h
  | k + 1, hk => by
    have hk1 := hk (by omega)
    obtain ⟨a, b, _⟩ := chS_ok hK hx0 hx1 hq0 hg k (fun _ => by omega)
    exact okLg_chF a (okLg_chS hK hx0 hx1 hq0 hg h k (fun _ => by omega)) hx0 hx1 (by omega) (by rw [b _ (by omega)]; omega)
theorem okLg_chA {A T : Int → Int} {q : Int} (hK : KA A T) (hq0 : 0 ≤ q) (hg : gapS A 0) (h : okLg A) : ∀ n : Nat, n ≤ 3 → okLg (chA A T q n).1
  | 0, _ => h
  | n + 1, hn => by
    obtain ⟨a, b, c, _⟩ := chA_ok hK hq0 hg n (by omega)
    refine okLg_chS a (by omega : (0 : Int) ≤ n) (by omega) hq0 c (okLg_chA hK hq0 hg h n (by omega)) _ ?_
    unfold kx
    omega
theorem okLg_night {A T : Int → Int} (hV : VA A T) (h : okLg A) (hn : A 1 + 1 ≤ 9999) : okLg (nightF A T) := by
  obtain ⟨k, g⟩ := keep_ok hV
  have h1 := hV.2.2.1.1
  obtain ⟨a, _⟩ := nightB_ok hV
  have hs : KA (set1 (nightB A T).1 1 (A 1 + 1)) T := set1_KA a (Or.inl ⟨rfl, by omega, by omega⟩)
  exact okLg_mv (okLg_set1 (okLg_chA k (by omega) g (okLg_keep h hV) 3 (by decide)) (by decide)) (fallAll_mv hs)
theorem okLg_nights {A T : Int → Int} (hV : VA A T) (h : okLg A) : ∀ n : Nat, A 1 + n ≤ 9999 → okLg (nightI A T n).1
  | 0, _ => h
  | n + 1, hn => by
    obtain ⟨a, b, _⟩ := nightI_ok hV n (by omega)
    exact okLg_night a (okLg_nights hV h n (by omega)) (by omega)
theorem okLg_nightR {A T : Int → Int} (hV : VA A T) (h : okLg A) (n : Int) : okLg (nightR A T n).1 := by
  unfold nightR
  split
  · exact okLg_nights hV h n.toNat (by omega)
  · exact h
