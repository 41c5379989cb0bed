/-! A new book. -/
def bookF (A : Int → Int) (a b c d e : Int) : Int → Int := fun k => if k = 0 then A 0 + 1 else if k = 46 + 6 * A 0 then a else if k = 46 + 6 * A 0 + 1 then b else if k = 46 + 6 * A 0 + 2 then c else if k = 46 + 6 * A 0 + 3 then d else if k = 46 + 6 * A 0 + 4 then e else if k = 46 + 6 * A 0 + 5 then 3 else A k
theorem bookF_ne {A : Int → Int} {a b c d e k : Int} (h0 : k ≠ 0) (h : ¬ (46 + 6 * A 0 ≤ k ∧ k < 52 + 6 * A 0)) : bookF A a b c d e k = A k := by
  unfold bookF
  rw [if_neg h0, if_neg (by omega), if_neg (by omega), if_neg (by omega), if_neg (by omega), if_neg (by omega), if_neg (by omega)]
theorem bookF_at {A : Int → Int} {a b c d e : Int} (h0 : 0 ≤ A 0) : bookF A a b c d e 0 = A 0 + 1 ∧ bookF A a b c d e (46 + 6 * A 0) = a ∧ bookF A a b c d e (46 + 6 * A 0 + 1) = b ∧ bookF A a b c d e (46 + 6 * A 0 + 2) = c ∧ bookF A a b c d e (46 + 6 * A 0 + 3) = d ∧ bookF A a b c d e (46 + 6 * A 0 + 4) = e ∧ bookF A a b c d e (46 + 6 * A 0 + 5) = 3 := by
  refine ⟨?_, ?_, ?_, ?_, ?_, ?_, ?_⟩ <;> unfold bookF
  · exact if_pos rfl
  · rw [if_neg (by omega), if_pos rfl]
  · rw [if_neg (by omega), if_neg (by omega), if_pos rfl]
  · rw [if_neg (by omega), if_neg (by omega), if_neg (by omega), if_pos rfl]
  · rw [if_neg (by omega), if_neg (by omega), if_neg (by omega), if_neg (by omega), if_pos rfl]
  · rw [if_neg (by omega), if_neg (by omega), if_neg (by omega), if_neg (by omega), if_neg (by omega), if_pos rfl]
  · rw [if_neg (by omega), if_neg (by omega), if_neg (by omega), if_neg (by omega), if_neg (by omega), if_neg (by omega), if_pos rfl]
theorem lb_newbook {s s1 : Nat → Int → Int} {A T : Int → Int} {a b c d e : Int} (h : LB 0 s A T) (hK : KA A T) (h10 : A 0 < 10) (hc : ∀ q, q ≠ 1 → q ≠ 13 + (A 0).toNat → s1 q = s q) (h1 : ∀ k, s1 1 k = if k = 8 then A 0 + 1 else s 1 k) (t0 : s1 (13 + (A 0).toNat) 0 = a) (t1 : s1 (13 + (A 0).toNat) 1 = b) (t2 : s1 (13 + (A 0).toNat) 2 = c) (t3 : s1 (13 + (A 0).toNat) 3 = d) (t4 : s1 (13 + (A 0).toNat) 4 = e) : LB 0 s1 (bookF A a b c d e) T := by
  have hl : lgA (bookF A a b c d e) = lgA A := by
    funext i
    have : 0 ≤ i % 512 := Int.emod_nonneg _ (by decide)
    have g0 := hK.1.1
    unfold lgA
    rw [bookF_ne (by omega) (by omega), bookF_ne (by omega) (by omega), bookF_ne (by omega) (by omega), bookF_ne (by omega) (by omega)]
  have g0 := hK.1.1
  have n : ∀ k, k ≠ 0 → ¬ (46 ≤ k ∧ k < 106) → bookF A a b c d e k = A k := fun k q q2 => bookF_ne q (by omega)
  obtain ⟨f0, f1, f2, f3, f4, f5, f6⟩ := bookF_at (A := A) (a := a) (b := b) (c := c) (d := d) (e := e) g0.1
  have h0 := h
  have hw0 : ∀ k, k ≠ 8 → s1 (0 + 1) k = s (0 + 1) k := fun k q => (h1 k).trans (if_neg q)
  obtain ⟨g1, g2, g3, g4, g5, g6, g7⟩ := h
  refine ⟨?_, ?_, ?_, ?_, sc_mk ?_ ?_ ?_ ?_ ?_ ?_ ?_ ?_ ?_, ?_, ?_⟩
  · rw [hw0 9 (by decide), hw0 10 (by decide), hw0 11 (by decide), hw0 12 (by decide), hw0 7 (by decide), hw0 6 (by decide), f0, n 3 (by omega) (by omega), n 5 (by omega) (by omega), n 6 (by omega) (by omega), n 8 (by omega) (by omega), n 7 (by omega) (by omega)]
    exact ⟨(h1 8).trans (if_pos rfl), g1.2⟩
  · intro y p q
    rw [hc _ (by omega) (by omega), n _ (by omega) (by omega)]; exact g2 y p q
  · intro k v q0 q1 q2 q3
    rw [f0] at q1
    by_cases q : k = A 0
    · rw [q]
      show s1 (13 + (A 0).toNat) v = _
      rcases (by omega : v = 0 ∨ v = 1 ∨ v = 2 ∨ v = 3 ∨ v = 4) with z | z | z | z | z <;> rw [z]
      · rw [t0, show 46 + 6 * A 0 + 0 = 46 + 6 * A 0 by omega, f1]
      · rw [t1, f2]
      · rw [t2, f3]
      · rw [t3, f4]
      · rw [t4, f5]
    · rw [hc _ (by omega) (by omega), bookF_ne (by omega) (by omega)]
      exact g3 k v q0 (by omega) q2 q3
  · intro i p q
    rw [n 8 (by omega) (by omega)] at q
    rw [hc _ (by omega) (by omega), n (106 + 4 * i) (by omega) (by omega), n (107 + 4 * i) (by omega) (by omega), n (108 + 4 * i) (by omega) (by omega), n (109 + 4 * i) (by omega) (by omega)]
    exact g4 i p q
  · rw [hc _ (by omega) (by omega), n _ (by omega) (by omega)]; exact lb_wc h0
  · rw [hc _ (by omega) (by omega), n _ (by omega) (by omega)]; exact lb_wet h0
  · rw [hc _ (by omega) (by omega), n _ (by omega) (by omega)]; exact lb_night h0
  · rw [hc _ (by omega) (by omega), n _ (by omega) (by omega)]; exact lb_drawn h0
  · intro x p q; rw [n _ (by omega) (by omega)]; exact (hK.2.1.2.1 x p q).2
  · intro x p q; rw [hc _ (by omega) (by omega), n _ (by omega) (by omega)]; exact lb_many h0 p q
  · intro x p q0 q1 q2 q3
    rw [n _ (by omega) (by omega)] at q3
    have := hK.2.1.2.1 x q0 q1
    rw [hc _ (by omega) (by omega), n _ (by omega) (by omega)]; exact lb_row h0 q0 q1 q2 q3 (by omega)
  · intro x p q
    rw [hc _ (by omega) (by omega), f0]
    have hw := lb_where0 h0 p q
    rcases (by omega : x < A 0 ∨ x = A 0 ∨ A 0 < x) with z | z | z
    · rw [if_pos (by omega), bookF_ne (by omega) (by omega)]; rw [if_pos z] at hw; exact hw
    · rw [if_pos (by omega), z, f6]; rw [if_neg (by omega), z] at hw; exact hw
    · rw [if_neg (by omega)]; rw [if_neg (by omega)] at hw; exact hw
  · intro i p q
    rw [n 9 (by omega) (by omega)] at q
    rw [hc _ (by omega) (by omega), hl, n 9 (by omega) (by omega)]; exact lb_log h0 p q
  · intro i p q
    rw [n 7 (by omega) (by omega)] at q
    rw [hl, hw0 6 (by decide)]
    exact ((g6 i p q).of (fun e q1 q2 => hc e (by omega) (by omega))).congr (hK.2.2.2 i p q).1 (fun k k0 k1 => n _ (by omega) (by omega)) (fun _ _ _ => rfl)
  · intro i p q
    rw [n 5 (by omega) (by omega)] at q
    exact (g7 i p q).of (fun e q1 q2 => hc e (by omega) (by omega))
theorem book_VA {A T : Int → Int} {a b c d e : Int} (h : VA A T) (h10 : A 0 < 10) (ha : 0 ≤ a ∧ a ≤ 9) (hb : 0 ≤ b ∧ b ≤ 9) (hc : 1 ≤ c ∧ c ≤ 9) (hd : 0 ≤ d ∧ d ≤ 9) (he : 0 ≤ e ∧ e ≤ 5) : VA (bookF A a b c d e) T := by
  obtain ⟨hV, hB, hR, hS, hG, h9⟩ := h
  have g0 := hV.1
  have n : ∀ k, k ≠ 0 → ¬ (46 ≤ k ∧ k < 106) → bookF A a b c d e k = A k := fun k q q2 => bookF_ne q (by omega)
  obtain ⟨f0, f1, f2, f3, f4, f5, f6⟩ := bookF_at (A := A) (a := a) (b := b) (c := c) (d := d) (e := e) g0.1
  have es : ∀ i k, 0 ≤ i → 0 ≤ k → stp (bookF A a b c d e) i k = stp A i k := fun i k a b => n _ (by omega) (by omega)
  refine ⟨?_, ?_, ?_, ?_, ?_, ?_⟩
  · obtain ⟨j1, j2, j3, j4, j5, j6, j7⟩ := hV
    refine ⟨by rw [f0]; omega, by rw [n 2 (by decide) (by decide)]; exact j2, by rw [n 3 (by decide) (by decide)]; exact j3, by rw [n 5 (by decide) (by decide)]; exact j4, by rw [n 5 (by decide) (by decide), n 6 (by decide) (by decide)]; exact j5, ?_, by rw [n 5 (by decide) (by decide)]; exact j7⟩
    intro x p q
    rw [f0] at q
    by_cases z : x = A 0
    · rw [z, f3, f5]
      refine ⟨fun w w0 w1 => ?_, hc.1, he.1, he.2⟩
      rcases (by omega : w = 0 ∨ w = 1 ∨ w = 2 ∨ w = 3) with y | y | y | y <;> rw [y]
      · rw [show 46 + 6 * A 0 + 0 = 46 + 6 * A 0 by omega, f1]; exact ha
      · rw [f2]; exact hb
      · rw [f3]; omega
      · rw [f4]; exact hd
    · have q := j6 x p (by omega)
      exact ⟨fun w w0 w1 => by rw [bookF_ne (by omega) (by omega)]; exact q.1 w w0 w1, by rw [bookF_ne (by omega) (by omega)]; exact q.2.1, by rw [bookF_ne (by omega) (by omega)]; exact q.2.2⟩
  · obtain ⟨j1, j2, j3, j4, j5⟩ := hB
    have em : ∀ x, 0 ≤ x → x < 3 → bookF A a b c d e (13 + x) = A (13 + x) := fun x p q => n _ (by omega) (by omega)
    have ep : ∀ x p, 0 ≤ x → x < 3 → 0 ≤ p → p < A (13 + x) → bookF A a b c d e (16 + 10 * x + p) = A (16 + 10 * x + p) := fun x p q0 q1 q2 q3 => by
      have := j2 x q0 q1
      exact n _ (by omega) (by omega)
    refine ⟨by rw [f0]; omega, fun x p q => by rw [em x p q]; exact j2 x p q, ?_, ?_, ?_⟩
    · intro x p q0 q1 q2 q3
      rw [em x q0 q1] at q3
      have g := j3 x p q0 q1 q2 q3
      rw [ep x p q0 q1 q2 q3, f0, bookF_ne (by omega) (by omega)]
      exact ⟨g.1, by omega, g.2.2⟩
    · intro x p q r0 r1 r2 r3 r4
      rw [em x r0 r1] at r4
      rw [ep x p r0 r1 r2 (by omega), ep x q r0 r1 (by omega) r4]
      exact j4 x p q r0 r1 r2 r3 r4
    · intro x p q
      rw [f0] at q
      by_cases z : x = A 0
      · rw [z, f6]
        exact ⟨by omega, fun y => by omega⟩
      · have g := j5 x p (by omega)
        rw [bookF_ne (k := 46 + 6 * x + 5) (by omega) (by omega)]
        refine ⟨g.1, fun y => ?_⟩
        obtain ⟨p9, a1, a2, a3⟩ := g.2 y
        refine ⟨p9, a1, ?_, ?_⟩
        · rw [em _ g.1.1 (by omega)]; exact a2
        · rw [ep _ _ g.1.1 (by omega) a1 a2]; exact a3
  · obtain ⟨r1, r2, r3, r4, r5, r6⟩ := hR
    refine ⟨by rw [n 1 (by decide) (by decide)]; exact r1, by rw [n 4 (by decide) (by decide)]; exact r2, by rw [n 7 (by decide) (by decide)]; exact r3, by rw [n 8 (by decide) (by decide)]; exact r4, fun y a b => by rw [n _ (by omega) (by omega)]; exact r5 y a b, fun i a b => ?_⟩
    rw [n 8 (by decide) (by decide)] at b
    have := r6 i a b
    rw [n (106 + 4 * i) (by omega) (by omega), n (107 + 4 * i) (by omega) (by omega), n (108 + 4 * i) (by omega) (by omega), n (109 + 4 * i) (by omega) (by omega), f0]
    exact ⟨⟨this.1.1, by omega⟩, ⟨this.2.1.1, by omega⟩, this.2.2⟩
  · intro i p q
    rw [n 7 (by decide) (by decide)] at q ⊢
    have z := hS i p q
    rw [es i 0 p (by decide), es i 1 p (by decide), es i 2 p (by decide), es i 3 p (by decide), es i 4 p (by decide), es (i + 1) 4 (by omega) (by decide), f0]
    exact ⟨okV_congr z.1 (fun k k0 _ => es i k p k0), by omega, z.2.2⟩
  · intro q
    rw [n 7 (by decide) (by decide)] at q ⊢
    rw [es _ 4 (by omega) (by decide), n 9 (by decide) (by decide)]
    exact hG q
  · rw [n 9 (by decide) (by decide), n 1 (by decide) (by decide)]
    exact h9
def bookR (A : Int → Int) (a b c d e : Int) : (Int → Int) × Int := if (0 ≤ a ∧ a ≤ 9) ∧ (0 ≤ b ∧ b ≤ 9) ∧ (1 ≤ c ∧ c ≤ 9) ∧ (0 ≤ d ∧ d ≤ 9) ∧ (0 ≤ e ∧ e ≤ 5) ∧ A 0 < 10 then (bookF A a b c d e, A 0) else (A, -1)
theorem bookR_ok {A T : Int → Int} (h : VA A T) (a b c d e : Int) : VA (bookR A a b c d e).1 T := by
  unfold bookR
  split
  · rename_i q
    exact book_VA h q.2.2.2.2.2 q.1 q.2.1 q.2.2.1 q.2.2.2.1 q.2.2.2.2.1
  · exact h
