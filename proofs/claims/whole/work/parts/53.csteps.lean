/-! The class keeps steps, takes them back, writes down. -/
theorem or_add {x z : Int} (k : Nat) {p : Int} (hp : (2 : Int) ^ k = p) (h0 : 0 ≤ x) (h1 : x < p) (hz : 0 ≤ z) : orI x (z * p) = x + z * p := by
  obtain ⟨n, rfl⟩ := Int.eq_ofNat_of_zero_le h0
  obtain ⟨m, rfl⟩ := Int.eq_ofNat_of_zero_le hz
  have hp2 : p = ((2 ^ k : Nat) : Int) := by rw [← hp, p2c]
  subst hp2
  unfold orI
  have e : ((m : Int) * ((2 ^ k : Nat) : Int)).toNat = 2 ^ k * m := by
    rw [← Int.natCast_mul, Int.toNat_natCast, Nat.mul_comm]
  rw [e, Int.toNat_natCast, Nat.or_comm, ← Nat.two_pow_add_eq_or_of_lt (by omega)]
  rw [Int.natCast_add, Int.natCast_mul, Int.mul_comm, Int.add_comm]
theorem enc4 {b y x n : Int} (hb0 : 0 ≤ b) (hb1 : b < 16) (hy0 : 0 ≤ y) (hy1 : y < 16) (hx0 : 0 ≤ x) (hx1 : x < 4) (hn0 : 0 ≤ n) : orI (orI (orI b (y * 16)) (x * 256)) (n * 1024) = b + 16 * y + 256 * x + 1024 * n := by
  rw [or_add 4 (p := 16) rfl hb0 (by omega) hy0, or_add 8 (p := 256) rfl (by omega) (by omega) hx0, or_add 10 (p := 1024) rfl (by omega) (by omega) hn0]
  omega
/-- night, wet or drawn set -/
def set1 (A : Int → Int) (j v : Int) : Int → Int := fun k => if k = j then v else A k
theorem set1_ne {A : Int → Int} {j v k : Int} (h : k ≠ j) : set1 A j v k = A k := if_neg h
theorem set1_lg {A : Int → Int} {j v : Int} (h : j < 1594) : lgA (set1 A j v) = lgA A := by
  funext i
  have : 0 ≤ i % 512 := Int.emod_nonneg _ (by decide)
  unfold lgA
  rw [set1_ne (by omega), set1_ne (by omega), set1_ne (by omega), set1_ne (by omega)]
theorem LB.set1 {s s1 : Nat → Int → Int} {A T : Int → Int} {j v : Int} (h : LB 0 s A T) (hK : KA A T) (hj : j = 1 ∨ j = 2 ∨ j = 4) (hc : ∀ e, 1 ≤ e → e < 289 → e ≠ 2 → s1 e = s e) (h4 : s1 2 4 = s 2 4) (h5 : s1 2 5 = if j = 2 then v else s 2 5) (h6 : s1 2 6 = if j = 1 then v else s 2 6) (h7 : s1 2 7 = if j = 4 then v else s 2 7) : LB 0 s1 (set1 A j v) T := by
  refine h.upd hK.2.2.2 hK.1.1 hK.1.2.2.2.1 hK.2.2.1.2.2.1.2 hK.2.2.1.2.2.2.1.2 (fun e a b c => hc e a b (by omega)) (fun k hk => set1_ne (by omega)) (fun b w a _ c d => set1_ne (by omega)) (fun i _ _ k _ _ => by rw [set1_lg (by omega)]) (sc_mk ?_ ?_ ?_ ?_ ?_ ?_ ?_ ?_ ?_)
  · rw [h4, set1_ne (by omega)]; exact lb_wc h
  · rw [h5]
    by_cases q : j = 2
    · rw [if_pos q, q]; exact (if_pos rfl).symm
    · rw [if_neg q, set1_ne (by omega)]; exact lb_wet h
  · rw [h6]
    by_cases q : j = 1
    · rw [if_pos q, q]; exact (if_pos rfl).symm
    · rw [if_neg q, set1_ne (by omega)]; exact lb_night h
  · rw [h7]
    by_cases q : j = 4
    · rw [if_pos q, q]; exact (if_pos rfl).symm
    · rw [if_neg q, set1_ne (by omega)]; exact lb_drawn h
  · intro x a b; rw [set1_ne (by omega)]; exact (hK.2.1.2.1 x a b).2
  · intro x a b; rw [hc 7 (by omega) (by omega) (by omega), set1_ne (by omega)]; exact lb_many h a b
  · intro x p a b c d
    rw [set1_ne (by omega)] at d
    have := hK.2.1.2.1 x a b
    rw [hc _ (by omega) (by omega) (by omega), set1_ne (by omega)]; exact lb_row h a b c d (by omega)
  · intro b a c; rw [hc 8 (by omega) (by omega) (by omega), set1_ne (by omega), set1_ne (by omega)]; exact lb_where0 h a c
  · intro i a c
    rw [set1_ne (by omega)] at c
    rw [hc 9 (by omega) (by omega) (by omega), set1_lg (by omega), set1_ne (by omega)]; exact lb_log h a c
theorem set1_KA {A T : Int → Int} {j v : Int} (hK : KA A T) (hj : (j = 1 ∧ 0 ≤ v ∧ v ≤ 9999) ∨ (j = 2 ∧ (v = 0 ∨ v = 1)) ∨ (j = 4 ∧ 0 ≤ v ∧ v ≤ 30112)) : KA (set1 A j v) T := by
  obtain ⟨hV, hB, hR, hS⟩ := hK
  have ne : ∀ k, k ≠ 1 → k ≠ 2 → k ≠ 4 → set1 A j v k = A k := fun k a b c => set1_ne (by omega)
  have e1 : set1 A j v 1 = if j = 1 then v else A 1 := by
    unfold set1
    by_cases q : j = 1
    · rw [if_pos q.symm, if_pos q]
    · rw [if_neg (fun h => q h.symm), if_neg q]
  have e2 : set1 A j v 2 = if j = 2 then v else A 2 := by
    unfold set1
    by_cases q : j = 2
    · rw [if_pos q.symm, if_pos q]
    · rw [if_neg (fun h => q h.symm), if_neg q]
  have e4 : set1 A j v 4 = if j = 4 then v else A 4 := by
    unfold set1
    by_cases q : j = 4
    · rw [if_pos q.symm, if_pos q]
    · rw [if_neg (fun h => q h.symm), if_neg q]
  have hV2 := hV.2.1
  have hR1 := hR.1
  have hR2 := hR.2.1
  refine ⟨?_, okB_lo (fun k a => ne k (by omega) (by omega) (by omega)) hB, okR_lo (fun k a => ne k (by omega) (by omega) (by omega)) (by rw [e1]; split <;> omega) (by rw [e4]; split <;> omega) (by rw [ne 7 (by decide) (by decide) (by decide)]; exact hR.2.2.1) hR, ?_⟩
  · obtain ⟨j1, j2, j3, j4, j5, j6, j7⟩ := hV
    refine ⟨by rw [ne 0 (by decide) (by decide) (by decide)]; exact j1, by rw [e2]; split <;> omega, by rw [ne 3 (by decide) (by decide) (by decide)]; exact j3, by rw [ne 5 (by decide) (by decide) (by decide)]; exact j4, by rw [ne 5 (by decide) (by decide) (by decide), ne 6 (by decide) (by decide) (by decide)]; exact j5, ?_, by rw [ne 5 (by decide) (by decide) (by decide)]; exact j7⟩
    intro b a c
    rw [ne 0 (by decide) (by decide) (by decide)] at c
    have q := j6 b a c
    exact ⟨fun w w0 w1 => by rw [ne _ (by omega) (by omega) (by omega)]; exact q.1 w w0 w1, by rw [ne _ (by omega) (by omega) (by omega)]; exact q.2.1, by rw [ne _ (by omega) (by omega) (by omega)]; exact q.2.2⟩
  · intro i a b
    rw [ne 7 (by decide) (by decide) (by decide)] at b ⊢
    have q := hS i a b
    have es : ∀ i k, 0 ≤ i → 0 ≤ k → stp (set1 A j v) i k = stp A i k := fun i k a b => ne _ (by omega) (by omega) (by omega)
    rw [es i 0 a (by decide), es i 1 a (by decide), es i 2 a (by decide), es i 3 a (by decide), es i 4 a (by decide), es (i + 1) 4 (by omega) (by decide), ne 0 (by decide) (by decide) (by decide)]
    exact ⟨okV_congr q.1 (fun k k0 _ => es i k a k0), q.2⟩
theorem set1_gap {A : Int → Int} {j v g : Int} (hj : j = 1 ∨ j = 2 ∨ j = 4) (h : gapS A g) : gapS (set1 A j v) g := by
  intro q
  rw [set1_ne (by omega)] at q ⊢
  have e : stp (set1 A j v) (A 7 - 1) 4 = stp A (A 7 - 1) 4 := set1_ne (by omega)
  rw [e, set1_ne (by omega)]
  exact h q
/-! the ring -/
theorem wr_ne {A : Int → Int} {b y x k : Int} (h : k < 1594 ∧ k ≠ 9) : wrF A b y x k = A k := by
  have : 0 ≤ A 9 % 512 := Int.emod_nonneg _ (by decide)
  unfold wrF
  rw [if_neg (by omega), if_neg (by omega), if_neg (by omega), if_neg (by omega), if_neg (by omega)]
theorem wr_9 {A : Int → Int} {b y x : Int} : wrF A b y x 9 = A 9 + 1 := by
  have : 0 ≤ A 9 % 512 := Int.emod_nonneg _ (by decide)
  unfold wrF
  rw [if_neg (by omega), if_neg (by omega), if_neg (by omega), if_neg (by omega), if_pos rfl]
theorem wr_lg {A : Int → Int} {b y x j : Int} : lgA (wrF A b y x) j = if j % 512 = A 9 % 512 then b + 16 * y + 256 * x + 1024 * A 1 else lgA A j := by
  have h1 : 0 ≤ A 9 % 512 := Int.emod_nonneg _ (by decide)
  have h2 : 0 ≤ j % 512 := Int.emod_nonneg _ (by decide)
  unfold lgA wrF
  by_cases h : j % 512 = A 9 % 512
  · rw [if_pos h, h]
    rw [if_pos rfl, if_neg (by omega), if_pos rfl, if_neg (by omega), if_neg (by omega), if_pos rfl, if_neg (by omega), if_neg (by omega), if_neg (by omega), if_pos rfl]
  · rw [if_neg h]
    have q : ∀ d, 0 ≤ d → d < 4 → (if 1594 + 4 * (j % 512) + d = 1594 + 4 * (A 9 % 512) then b else if 1594 + 4 * (j % 512) + d = 1594 + 4 * (A 9 % 512) + 1 then y else if 1594 + 4 * (j % 512) + d = 1594 + 4 * (A 9 % 512) + 2 then x else if 1594 + 4 * (j % 512) + d = 1594 + 4 * (A 9 % 512) + 3 then A 1 else if 1594 + 4 * (j % 512) + d = 9 then A 9 + 1 else A (1594 + 4 * (j % 512) + d)) = A (1594 + 4 * (j % 512) + d) := fun d d0 d1 => by
      rw [if_neg (by omega), if_neg (by omega), if_neg (by omega), if_neg (by omega), if_neg (by omega)]
    have q0 := q 0 (by decide) (by decide)
    rw [show 1594 + 4 * (j % 512) + 0 = 1594 + 4 * (j % 512) by omega] at q0
    rw [q0, q 1 (by decide) (by decide), q 2 (by decide) (by decide), q 3 (by decide) (by decide)]
theorem wr_KA {A T : Int → Int} {b y x : Int} (hK : KA A T) : KA (wrF A b y x) T := by
  obtain ⟨hV, hB, hR, hS⟩ := hK
  refine ⟨lo_VJ (fun k a c d e f g _ => wr_ne ⟨by omega, g⟩) hV, okB_lo (fun k a => wr_ne (by omega)) hB, okR_lo (fun k a => wr_ne (by omega)) (by rw [wr_ne (by decide)]; exact hR.1) (by rw [wr_ne (by decide)]; exact hR.2.1) (by rw [wr_ne (by decide)]; exact hR.2.2.1) hR, ?_⟩
  have h7 := hR.2.2.1
  intro i a c
  rw [wr_ne (by decide)] at c ⊢
  have q := hS i a c
  have es : ∀ i k, 0 ≤ i → i < 30 → 0 ≤ k → k < 48 → stp (wrF A b y x) i k = stp A i k := fun i k a b c d => wr_ne (by omega)
  rw [es i 0 a (by omega) (by decide) (by decide), es i 1 a (by omega) (by decide) (by decide), es i 2 a (by omega) (by decide) (by decide), es i 3 a (by omega) (by decide) (by decide), es i 4 a (by omega) (by decide) (by decide), wr_ne (by decide)]
  refine ⟨okV_congr q.1 (fun k k0 k1 => es i k a (by omega) k0 k1), q.2.1, q.2.2.1, q.2.2.2.1, q.2.2.2.2.1, q.2.2.2.2.2.1, fun z => ?_⟩
  rw [es (i + 1) 4 (by omega) (by omega) (by decide) (by decide)]
  exact q.2.2.2.2.2.2 z
theorem wr_gap {A T : Int → Int} {b y x g : Int} (hK : KA A T) (h : gapS A g) : gapS (wrF A b y x) (g + 1) := by
  intro q
  have h7 := hK.2.2.1.2.2.1
  rw [wr_ne (by decide)] at q ⊢
  have e : stp (wrF A b y x) (A 7 - 1) 4 = stp A (A 7 - 1) 4 := wr_ne (by omega)
  rw [e, wr_9]
  have := h q
  omega
theorem LB.wr {s s1 : Nat → Int → Int} {A T : Int → Int} {b y x g : Int} (h : LB 0 s A T) (hK : KA A T) (hg : gapS A g) (hg0 : 0 ≤ g) (hg1 : g ≤ 10) (h9 : 0 ≤ A 9) (hc : ∀ e, 1 ≤ e → e < 289 → e ≠ 2 → e ≠ 9 → s1 e = s e) (h4 : s1 2 4 = minI (A 9 + 1) 60) (h5 : ∀ k, k ≠ 4 → s1 2 k = s 2 k) (hl : ∀ i, 0 ≤ i → i < minI (A 9 + 1) 60 → s1 9 i = if i = minI (A 9 + 1) 60 - 1 then b + 16 * y + 256 * x + 1024 * A 1 else lgA A (A 9 + 1 - minI (A 9 + 1) 60 + i)) : LB 0 s1 (wrF A b y x) T := by
  have hgap := gap_all hK.2.2.2 hg hg0 hg1 hK.2.2.1.2.2.1
  refine h.upd hK.2.2.2 hK.1.1 hK.1.2.2.2.1 hK.2.2.1.2.2.1.2 hK.2.2.1.2.2.2.1.2 (fun e a b c => hc e a b (by omega) (by omega)) (fun k hk => wr_ne (by omega)) (fun b w a _ c d => wr_ne (by omega)) (fun i i0 i1 j j0 j1 => ?_) (sc_mk ?_ ?_ ?_ ?_ ?_ ?_ ?_ ?_ ?_)
  · have g1 := hgap i i0 i1
    have ms := minI_spec (stp A i 4) 60
    have v4 := (hK.2.2.2 i i0 i1).2.2.2.2.2.1
    rw [wr_lg, if_neg (by omega)]
  · rw [h4, wr_9]
  · rw [h5 5 (by decide), wr_ne (by decide)]; exact lb_wet h
  · rw [h5 6 (by decide), wr_ne (by decide)]; exact lb_night h
  · rw [h5 7 (by decide), wr_ne (by decide)]; exact lb_drawn h
  · intro x a b; rw [wr_ne (by omega)]; exact (hK.2.1.2.1 x a b).2
  · intro x a b; rw [hc 7 (by omega) (by omega) (by omega) (by omega), wr_ne (by omega)]; exact lb_many h a b
  · intro x p a b c d
    rw [wr_ne (by omega)] at d
    have := hK.2.1.2.1 x a b
    rw [hc _ (by omega) (by omega) (by omega) (by omega), wr_ne (by omega)]; exact lb_row h a b c d (by omega)
  · intro b a c; rw [hc 8 (by omega) (by omega) (by omega) (by omega), wr_ne (by omega), wr_ne (by omega)]; exact lb_where0 h a c
  · intro i a c
    rw [wr_9] at c ⊢
    have ms := minI_spec (A 9 + 1) 60
    rw [hl i a c, wr_lg]
    by_cases q : i = minI (A 9 + 1) 60 - 1
    · rw [if_pos q, if_pos (by omega)]
    · rw [if_neg q, if_neg (by omega)]
theorem sp_67 {d L t : Nat} {s l : Nat → Int → Int} {uu ww : Nat} (hku : KS L t uu) (hkw : KS L t ww) (hd : uu + 8 ≤ ww ∨ ww + 8 ≤ uu) (hwet : s ww 5 = 0 ∨ s ww 5 = 1) : ∃ s1, mm_Ev mm_ct mm_CM (d + 1) 67 [.ref uu, .ref ww] (MX L t s l) (none, MX L t s1 l) ∧ (∀ c, ¬ (uu ≤ c ∧ c ≤ uu + 7) → s1 c = s c) ∧ CP s1 s uu ww := by
  have hc : (mm_CM 67).2.2.2.2.2.2.2 = mm_cf cd_67 := by rw [cm_67]; rfl
  refine ev_xs ?_
  refine ev_to (mx := 3) (by rw [cm_67]; decide) (by rw [cm_67]; rfl) (by show 2 ≤ _; decide) ?_
  show mm_wp _ _ (0, [some (.ref uu), some (.ref ww), none], [], MX L t s l) (fun res => ∃ s1, res = (none, MX L t s1 l) ∧ (∀ c, ¬ (uu ≤ c ∧ c ≤ uu + 7) → s1 c = s c) ∧ CP s1 s uu ww)
  refine wi_ic hc rfl ?_
  refine wi_is1 (L' := [some (.ref uu), some (.ref ww), some (.int (iI 0))]) hc rfl (Nat.le_of_ble_eq_true rfl) rfl ?_
  refine wi_i1 hc rfl rfl ?_
  refine wi_ic hc rfl ?_
  refine wi_cge hc rfl ⟨by decide, by decide⟩ ⟨by decide, by decide⟩ (fun q => absurd q (by decide)) (fun _ => ?_)
  refine wi_a1 hc rfl rfl ?_
  refine wi_grs (w := ww + 1) hkw.2.1 hc rfl (by have := hkw.1; omega) (by decide) rfl ?_
  refine wi_i1 hc rfl rfl ?_
  refine wi_alds (w := ww + 2) hkw.2.2.1 hc rfl (by decide) (by decide) (by have := hkw.1; omega) (by decide) (by decide) (by decide) rfl ?_
  refine wi_ic hc rfl ?_
  refine wi_a1 hc rfl rfl ?_
  refine wi_grs (w := uu + 1) hku.2.1 hc rfl (by have := hku.1; omega) (by decide) rfl ?_
  refine wi_i1 hc rfl rfl ?_
  refine wi_alds (w := uu + 2) hku.2.2.1 hc rfl (by decide) (by decide) (by have := hku.1; omega) (by decide) (by decide) (by decide) rfl ?_
  refine wi_ic hc rfl ?_
  refine wi_bi hc rfl rfl ?_
  refine wi_cpy (r := []) (N0 := 10) (N1 := 10) hc rfl (Nat.le_of_ble_eq_true rfl) (by have := hkw.1; omega) hkw.2.2.2.1 (by have := hku.1; omega) hku.2.2.2.1 (by omega) (by omega) (by omega) (by omega) (by omega) (by decide) (by decide) ?_
  obtain ⟨s1_, es1_⟩ : ∃ q, q = cpI s (ww + 2) (uu + 2) 0 0 10 := ⟨_, rfl⟩
  rw [← es1_]
  show mm_wp _ _ (26, [some (.ref uu), some (.ref ww), some (.int (iI 0))], [], MX L t s1_ l) _
  refine wi_inc (L' := [some (.ref uu), some (.ref ww), some (.int (iI (0 + 1)))]) hc rfl rfl rfl ?_
  refine wi_go hc rfl ?_
  refine wi_i1 hc rfl rfl ?_
  refine wi_ic hc rfl ?_
  refine wi_cge hc rfl ⟨by decide, by decide⟩ ⟨by decide, by decide⟩ (fun q => absurd q (by decide)) (fun _ => ?_)
  refine wi_a1 hc rfl rfl ?_
  refine wi_grs (w := ww + 1) hkw.2.1 hc rfl (by have := hkw.1; omega) (by decide) rfl ?_
  refine wi_i1 hc rfl rfl ?_
  refine wi_alds (w := ww + 3) hkw.2.2.1 hc rfl (by decide) (by decide) (by have := hkw.1; omega) (by decide) (by decide) (by decide) rfl ?_
  refine wi_ic hc rfl ?_
  refine wi_a1 hc rfl rfl ?_
  refine wi_grs (w := uu + 1) hku.2.1 hc rfl (by have := hku.1; omega) (by decide) rfl ?_
  refine wi_i1 hc rfl rfl ?_
  refine wi_alds (w := uu + 3) hku.2.2.1 hc rfl (by decide) (by decide) (by have := hku.1; omega) (by decide) (by decide) (by decide) rfl ?_
  refine wi_ic hc rfl ?_
  refine wi_bi hc rfl rfl ?_
  refine wi_cpy (r := []) (N0 := 10) (N1 := 10) hc rfl (Nat.le_of_ble_eq_true rfl) (by have := hkw.1; omega) hkw.2.2.2.2.1 (by have := hku.1; omega) hku.2.2.2.2.1 (by omega) (by omega) (by omega) (by omega) (by omega) (by decide) (by decide) ?_
  obtain ⟨s2_, es2_⟩ : ∃ q, q = cpI s1_ (ww + 3) (uu + 3) 0 0 10 := ⟨_, rfl⟩
  rw [← es2_]
  show mm_wp _ _ (26, [some (.ref uu), some (.ref ww), some (.int (iI (0 + 1)))], [], MX L t s2_ l) _
  refine wi_inc (L' := [some (.ref uu), some (.ref ww), some (.int (iI (0 + 1 + 1)))]) hc rfl rfl rfl ?_
  refine wi_go hc rfl ?_
  refine wi_i1 hc rfl rfl ?_
  refine wi_ic hc rfl ?_
  refine wi_cge hc rfl ⟨by decide, by decide⟩ ⟨by decide, by decide⟩ (fun q => absurd q (by decide)) (fun _ => ?_)
  refine wi_a1 hc rfl rfl ?_
  refine wi_grs (w := ww + 1) hkw.2.1 hc rfl (by have := hkw.1; omega) (by decide) rfl ?_
  refine wi_i1 hc rfl rfl ?_
  refine wi_alds (w := ww + 4) hkw.2.2.1 hc rfl (by decide) (by decide) (by have := hkw.1; omega) (by decide) (by decide) (by decide) rfl ?_
  refine wi_ic hc rfl ?_
  refine wi_a1 hc rfl rfl ?_
  refine wi_grs (w := uu + 1) hku.2.1 hc rfl (by have := hku.1; omega) (by decide) rfl ?_
  refine wi_i1 hc rfl rfl ?_
  refine wi_alds (w := uu + 4) hku.2.2.1 hc rfl (by decide) (by decide) (by have := hku.1; omega) (by decide) (by decide) (by decide) rfl ?_
  refine wi_ic hc rfl ?_
  refine wi_bi hc rfl rfl ?_
  refine wi_cpy (r := []) (N0 := 10) (N1 := 10) hc rfl (Nat.le_of_ble_eq_true rfl) (by have := hkw.1; omega) hkw.2.2.2.2.2.1 (by have := hku.1; omega) hku.2.2.2.2.2.1 (by omega) (by omega) (by omega) (by omega) (by omega) (by decide) (by decide) ?_
  obtain ⟨s3_, es3_⟩ : ∃ q, q = cpI s2_ (ww + 4) (uu + 4) 0 0 10 := ⟨_, rfl⟩
  rw [← es3_]
  show mm_wp _ _ (26, [some (.ref uu), some (.ref ww), some (.int (iI (0 + 1 + 1)))], [], MX L t s3_ l) _
  refine wi_inc (L' := [some (.ref uu), some (.ref ww), some (.int (iI (0 + 1 + 1 + 1)))]) hc rfl rfl rfl ?_
  refine wi_go hc rfl ?_
  refine wi_i1 hc rfl rfl ?_
  refine wi_ic hc rfl ?_
  refine wi_cge hc rfl ⟨by decide, by decide⟩ ⟨by decide, by decide⟩ (fun _ => ?_) (fun q => absurd q (by decide))
  refine wi_a1 hc rfl rfl ?_
  refine wi_grs (w := ww + 5) hkw.2.1 hc rfl (by have := hkw.1; omega) (by decide) rfl ?_
  refine wi_ic hc rfl ?_
  refine wi_a1 hc rfl rfl ?_
  refine wi_grs (w := uu + 5) hku.2.1 hc rfl (by have := hku.1; omega) (by decide) rfl ?_
  refine wi_ic hc rfl ?_
  refine wi_ic hc rfl ?_
  refine wi_cpy (r := []) (N0 := 3) (N1 := 3) hc rfl (Nat.le_of_ble_eq_true rfl) (by have := hkw.1; omega) hkw.2.2.2.2.2.2.1 (by have := hku.1; omega) hku.2.2.2.2.2.2.1 (by omega) (by omega) (by omega) (by omega) (by omega) (by decide) (by decide) ?_
  obtain ⟨s4_, es4_⟩ : ∃ q, q = cpI s3_ (ww + 5) (uu + 5) 0 0 3 := ⟨_, rfl⟩
  rw [← es4_]
  show mm_wp _ _ (46, [some (.ref uu), some (.ref ww), some (.int (iI (0 + 1 + 1 + 1)))], [], MX L t s4_ l) _
  refine wi_a1 hc rfl rfl ?_
  refine wi_grs (w := ww + 6) hkw.2.1 hc rfl (by have := hkw.1; omega) (by decide) rfl ?_
  refine wi_ic hc rfl ?_
  refine wi_a1 hc rfl rfl ?_
  refine wi_grs (w := uu + 6) hku.2.1 hc rfl (by have := hku.1; omega) (by decide) rfl ?_
  refine wi_ic hc rfl ?_
  refine wi_bi hc rfl rfl ?_
  refine wi_cpy (r := []) (N0 := 10) (N1 := 10) hc rfl (Nat.le_of_ble_eq_true rfl) (by have := hkw.1; omega) hkw.2.2.2.2.2.2.2.1 (by have := hku.1; omega) hku.2.2.2.2.2.2.2.1 (by omega) (by omega) (by omega) (by omega) (by omega) (by decide) (by decide) ?_
  obtain ⟨s5_, es5_⟩ : ∃ q, q = cpI s4_ (ww + 6) (uu + 6) 0 0 10 := ⟨_, rfl⟩
  rw [← es5_]
  show mm_wp _ _ (61, [some (.ref uu), some (.ref ww), some (.int (iI (0 + 1 + 1 + 1)))], [], MX L t s5_ l) _
  refine wi_a1 hc rfl rfl ?_
  refine wi_grs (w := ww + 7) hkw.2.1 hc rfl (by have := hkw.1; omega) (by decide) rfl ?_
  refine wi_ic hc rfl ?_
  refine wi_a1 hc rfl rfl ?_
  refine wi_grs (w := uu + 7) hku.2.1 hc rfl (by have := hku.1; omega) (by decide) rfl ?_
  refine wi_ic hc rfl ?_
  refine wi_bi hc rfl rfl ?_
  refine wi_cpy (r := []) (N0 := 60) (N1 := 60) hc rfl (Nat.le_of_ble_eq_true rfl) (by have := hkw.1; omega) hkw.2.2.2.2.2.2.2.2 (by have := hku.1; omega) hku.2.2.2.2.2.2.2.2 (by omega) (by omega) (by omega) (by omega) (by omega) (by decide) (by decide) ?_
  obtain ⟨s6_, es6_⟩ : ∃ q, q = cpI s5_ (ww + 7) (uu + 7) 0 0 60 := ⟨_, rfl⟩
  rw [← es6_]
  show mm_wp _ _ (76, [some (.ref uu), some (.ref ww), some (.int (iI (0 + 1 + 1 + 1)))], [], MX L t s6_ l) _
  refine wi_a1 hc rfl rfl ?_
  refine wi_a1 hc rfl rfl ?_
  refine wi_gfs (kz := 4) rfl hkw.2.1 hc rfl (by have := hkw.1; omega) (by decide) rfl (v := s ww 4) (((congrFun (congrFun es6_ _) _).trans (congrFun (cp_c (by omega)) _)).trans (((congrFun (congrFun es5_ _) _).trans (congrFun (cp_c (by omega)) _)).trans (((congrFun (congrFun es4_ _) _).trans (congrFun (cp_c (by omega)) _)).trans (((congrFun (congrFun es3_ _) _).trans (congrFun (cp_c (by omega)) _)).trans (((congrFun (congrFun es2_ _) _).trans (congrFun (cp_c (by omega)) _)).trans ((congrFun (congrFun es1_ _) _).trans (congrFun (cp_c (by omega)) _))))))) ?_
  refine wi_pfs (kz := 4) rfl hku.2.1 hc rfl (by have := hku.1; omega) (by decide) rfl (Nat.le_of_ble_eq_true rfl) ⟨rfl, rfl⟩ rfl ?_
  obtain ⟨s7_, es7_⟩ : ∃ q, q = up s6_ uu 4 (s ww 4) := ⟨_, rfl⟩
  rw [← es7_]
  refine wi_a1 hc rfl rfl ?_
  refine wi_a1 hc rfl rfl ?_
  refine wi_gfs (kz := 5) rfl hkw.2.1 hc rfl (by have := hkw.1; omega) (by decide) rfl (v := s ww 5) (((congrFun (congrFun es7_ _) _).trans (up_c (by omega))).trans (((congrFun (congrFun es6_ _) _).trans (congrFun (cp_c (by omega)) _)).trans (((congrFun (congrFun es5_ _) _).trans (congrFun (cp_c (by omega)) _)).trans (((congrFun (congrFun es4_ _) _).trans (congrFun (cp_c (by omega)) _)).trans (((congrFun (congrFun es3_ _) _).trans (congrFun (cp_c (by omega)) _)).trans (((congrFun (congrFun es2_ _) _).trans (congrFun (cp_c (by omega)) _)).trans ((congrFun (congrFun es1_ _) _).trans (congrFun (cp_c (by omega)) _)))))))) ?_
  refine wi_pfs (kz := 5) rfl hku.2.1 hc rfl (by have := hku.1; omega) (by decide) rfl (Nat.le_of_ble_eq_true rfl) (pf_z (by omega)) rfl ?_
  obtain ⟨s8_, es8_⟩ : ∃ q, q = up s7_ uu 5 (s ww 5) := ⟨_, rfl⟩
  rw [← es8_]
  refine wi_a1 hc rfl rfl ?_
  refine wi_a1 hc rfl rfl ?_
  refine wi_gfs (kz := 6) rfl hkw.2.1 hc rfl (by have := hkw.1; omega) (by decide) rfl (v := s ww 6) (((congrFun (congrFun es8_ _) _).trans (up_c (by omega))).trans (((congrFun (congrFun es7_ _) _).trans (up_c (by omega))).trans (((congrFun (congrFun es6_ _) _).trans (congrFun (cp_c (by omega)) _)).trans (((congrFun (congrFun es5_ _) _).trans (congrFun (cp_c (by omega)) _)).trans (((congrFun (congrFun es4_ _) _).trans (congrFun (cp_c (by omega)) _)).trans (((congrFun (congrFun es3_ _) _).trans (congrFun (cp_c (by omega)) _)).trans (((congrFun (congrFun es2_ _) _).trans (congrFun (cp_c (by omega)) _)).trans ((congrFun (congrFun es1_ _) _).trans (congrFun (cp_c (by omega)) _))))))))) ?_
  refine wi_pfs (kz := 6) rfl hku.2.1 hc rfl (by have := hku.1; omega) (by decide) rfl (Nat.le_of_ble_eq_true rfl) ⟨rfl, rfl⟩ rfl ?_
  obtain ⟨s9_, es9_⟩ : ∃ q, q = up s8_ uu 6 (s ww 6) := ⟨_, rfl⟩
  rw [← es9_]
  refine wi_a1 hc rfl rfl ?_
  refine wi_a1 hc rfl rfl ?_
  refine wi_gfs (kz := 7) rfl hkw.2.1 hc rfl (by have := hkw.1; omega) (by decide) rfl (v := s ww 7) (((congrFun (congrFun es9_ _) _).trans (up_c (by omega))).trans (((congrFun (congrFun es8_ _) _).trans (up_c (by omega))).trans (((congrFun (congrFun es7_ _) _).trans (up_c (by omega))).trans (((congrFun (congrFun es6_ _) _).trans (congrFun (cp_c (by omega)) _)).trans (((congrFun (congrFun es5_ _) _).trans (congrFun (cp_c (by omega)) _)).trans (((congrFun (congrFun es4_ _) _).trans (congrFun (cp_c (by omega)) _)).trans (((congrFun (congrFun es3_ _) _).trans (congrFun (cp_c (by omega)) _)).trans (((congrFun (congrFun es2_ _) _).trans (congrFun (cp_c (by omega)) _)).trans ((congrFun (congrFun es1_ _) _).trans (congrFun (cp_c (by omega)) _)))))))))) ?_
  refine wi_pfs (kz := 7) rfl hku.2.1 hc rfl (by have := hku.1; omega) (by decide) rfl (Nat.le_of_ble_eq_true rfl) ⟨rfl, rfl⟩ rfl ?_
  obtain ⟨s10_, es10_⟩ : ∃ q, q = up s9_ uu 7 (s ww 7) := ⟨_, rfl⟩
  rw [← es10_]
  refine wi_rv hc rfl (by rw [cm_67]; rfl) ?_
  refine ⟨s10_, rfl, fun c hc9_ => ((congrFun es10_ c).trans (up_cc (by omega))).trans (((congrFun es9_ c).trans (up_cc (by omega))).trans (((congrFun es8_ c).trans (up_cc (by omega))).trans (((congrFun es7_ c).trans (up_cc (by omega))).trans (((congrFun es6_ c).trans (cp_c (by omega))).trans (((congrFun es5_ c).trans (cp_c (by omega))).trans (((congrFun es4_ c).trans (cp_c (by omega))).trans (((congrFun es3_ c).trans (cp_c (by omega))).trans (((congrFun es2_ c).trans (cp_c (by omega))).trans ((congrFun es1_ c).trans (cp_c (by omega))))))))))), fun p p0 p1 => ⟨((congrFun (congrFun es10_ _) _).trans (up_c (by omega))).trans (((congrFun (congrFun es9_ _) _).trans (up_c (by omega))).trans (((congrFun (congrFun es8_ _) _).trans (up_c (by omega))).trans (((congrFun (congrFun es7_ _) _).trans (up_c (by omega))).trans (((congrFun (congrFun es6_ _) _).trans (congrFun (cp_c (by omega)) _)).trans (((congrFun (congrFun es5_ _) _).trans (congrFun (cp_c (by omega)) _)).trans (((congrFun (congrFun es4_ _) _).trans (congrFun (cp_c (by omega)) _)).trans (((congrFun (congrFun es3_ _) _).trans (congrFun (cp_c (by omega)) _)).trans (((congrFun (congrFun es2_ _) _).trans (congrFun (cp_c (by omega)) _)).trans ((congrFun (congrFun es1_ _) _).trans (cp_at (by omega) (by omega))))))))))), ((congrFun (congrFun es10_ _) _).trans (up_c (by omega))).trans (((congrFun (congrFun es9_ _) _).trans (up_c (by omega))).trans (((congrFun (congrFun es8_ _) _).trans (up_c (by omega))).trans (((congrFun (congrFun es7_ _) _).trans (up_c (by omega))).trans (((congrFun (congrFun es6_ _) _).trans (congrFun (cp_c (by omega)) _)).trans (((congrFun (congrFun es5_ _) _).trans (congrFun (cp_c (by omega)) _)).trans (((congrFun (congrFun es4_ _) _).trans (congrFun (cp_c (by omega)) _)).trans (((congrFun (congrFun es3_ _) _).trans (congrFun (cp_c (by omega)) _)).trans (((congrFun (congrFun es2_ _) _).trans (cp_at (by omega) (by omega))).trans ((congrFun (congrFun es1_ _) _).trans (congrFun (cp_c (by omega)) _)))))))))), ((congrFun (congrFun es10_ _) _).trans (up_c (by omega))).trans (((congrFun (congrFun es9_ _) _).trans (up_c (by omega))).trans (((congrFun (congrFun es8_ _) _).trans (up_c (by omega))).trans (((congrFun (congrFun es7_ _) _).trans (up_c (by omega))).trans (((congrFun (congrFun es6_ _) _).trans (congrFun (cp_c (by omega)) _)).trans (((congrFun (congrFun es5_ _) _).trans (congrFun (cp_c (by omega)) _)).trans (((congrFun (congrFun es4_ _) _).trans (congrFun (cp_c (by omega)) _)).trans (((congrFun (congrFun es3_ _) _).trans (cp_at (by omega) (by omega))).trans (((congrFun (congrFun es2_ _) _).trans (congrFun (cp_c (by omega)) _)).trans ((congrFun (congrFun es1_ _) _).trans (congrFun (cp_c (by omega)) _)))))))))), ((congrFun (congrFun es10_ _) _).trans (up_c (by omega))).trans (((congrFun (congrFun es9_ _) _).trans (up_c (by omega))).trans (((congrFun (congrFun es8_ _) _).trans (up_c (by omega))).trans (((congrFun (congrFun es7_ _) _).trans (up_c (by omega))).trans (((congrFun (congrFun es6_ _) _).trans (congrFun (cp_c (by omega)) _)).trans (((congrFun (congrFun es5_ _) _).trans (cp_at (by omega) (by omega))).trans (((congrFun (congrFun es4_ _) _).trans (congrFun (cp_c (by omega)) _)).trans (((congrFun (congrFun es3_ _) _).trans (congrFun (cp_c (by omega)) _)).trans (((congrFun (congrFun es2_ _) _).trans (congrFun (cp_c (by omega)) _)).trans ((congrFun (congrFun es1_ _) _).trans (congrFun (cp_c (by omega)) _))))))))))⟩, fun x x0 x1 => ((congrFun (congrFun es10_ _) _).trans (up_c (by omega))).trans (((congrFun (congrFun es9_ _) _).trans (up_c (by omega))).trans (((congrFun (congrFun es8_ _) _).trans (up_c (by omega))).trans (((congrFun (congrFun es7_ _) _).trans (up_c (by omega))).trans (((congrFun (congrFun es6_ _) _).trans (congrFun (cp_c (by omega)) _)).trans (((congrFun (congrFun es5_ _) _).trans (congrFun (cp_c (by omega)) _)).trans (((congrFun (congrFun es4_ _) _).trans (cp_at (by omega) (by omega))).trans (((congrFun (congrFun es3_ _) _).trans (congrFun (cp_c (by omega)) _)).trans (((congrFun (congrFun es2_ _) _).trans (congrFun (cp_c (by omega)) _)).trans ((congrFun (congrFun es1_ _) _).trans (congrFun (cp_c (by omega)) _)))))))))), fun i i0 i1 => ((congrFun (congrFun es10_ _) _).trans (up_c (by omega))).trans (((congrFun (congrFun es9_ _) _).trans (up_c (by omega))).trans (((congrFun (congrFun es8_ _) _).trans (up_c (by omega))).trans (((congrFun (congrFun es7_ _) _).trans (up_c (by omega))).trans (((congrFun (congrFun es6_ _) _).trans (cp_at (by omega) (by omega))).trans (((congrFun (congrFun es5_ _) _).trans (congrFun (cp_c (by omega)) _)).trans (((congrFun (congrFun es4_ _) _).trans (congrFun (cp_c (by omega)) _)).trans (((congrFun (congrFun es3_ _) _).trans (congrFun (cp_c (by omega)) _)).trans (((congrFun (congrFun es2_ _) _).trans (congrFun (cp_c (by omega)) _)).trans ((congrFun (congrFun es1_ _) _).trans (congrFun (cp_c (by omega)) _)))))))))), ((congrFun (congrFun es10_ _) _).trans (up_k (by omega))).trans (((congrFun (congrFun es9_ _) _).trans (up_k (by omega))).trans (((congrFun (congrFun es8_ _) _).trans (up_k (by omega))).trans ((congrFun (congrFun es7_ _) _).trans (up_e (by omega))))), ((congrFun (congrFun es10_ _) _).trans (up_k (by omega))).trans (((congrFun (congrFun es9_ _) _).trans (up_k (by omega))).trans ((congrFun (congrFun es8_ _) _).trans (up_e (by omega)))), ((congrFun (congrFun es10_ _) _).trans (up_k (by omega))).trans ((congrFun (congrFun es9_ _) _).trans (up_e (by omega))), (congrFun (congrFun es10_ _) _).trans (up_e (by omega))⟩
theorem sp_11 {d L t : Nat} {s l : Nat → Int → Int} {A T : Int → Int} (hL : LB 0 s A T) (hV : VA A T) : ∃ s1, mm_Ev mm_ct mm_CM (d + 2) 11 [.ref 1] (MX L t s l) (none, MX L t s1 l) ∧ (∀ c, ¬ (c = 1 ∨ (25 ≤ c ∧ c ≤ 264)) → s1 c = s c) ∧ LB 0 s1 (keepF A) T := by
  have hc : (mm_CM 11).2.2.2.2.2.2.2 = mm_cf cd_11 := by rw [cm_11]; rfl
  refine ev_xs ?_
  refine ev_to (mx := 1) (by rw [cm_11]; decide) (by rw [cm_11]; rfl) (by show 1 ≤ _; decide) ?_
  show mm_wp _ _ (0, [some (.ref 1)], [], MX L t s l) (fun res => ∃ s1, res = (none, MX L t s1 l) ∧ (∀ c, ¬ (c = 1 ∨ (25 ≤ c ∧ c ≤ 264)) → s1 c = s c) ∧ LB 0 s1 (keepF A) T)
  have hvB := hV.2.1
  have hvR := hV.2.2.1
  have h7v := hvR.2.2.1
  have h2v := hV.1.2.1
  have hel := lb_el hL
  have hx0 : 0 ≤ (s 1 6 + A 7) % 30 ∧ (s 1 6 + A 7) % 30 < 30 := by omega
  refine wi_a1 hc rfl rfl ?_
  refine wi_gr (w := 10) hc rfl rfl (by decide) (Nat.le_of_ble_eq_true rfl) rfl ?_
  refine wi_a1 hc rfl rfl ?_
  refine wi_gf (kz := 6) rfl hc rfl rfl (by decide) (Nat.le_of_ble_eq_true rfl) rfl ?_
  refine wi_a1 hc rfl rfl ?_
  refine wi_gfv (kz := 7) rfl hc rfl rfl (by decide) (Nat.le_of_ble_eq_true rfl) rfl (v := A 7) (lb_sc hL) ?_
  refine wi_add hc rfl ?_
  refine wi_bi hc rfl rfl ?_
  refine wi_remp hc rfl ⟨by omega, by omega⟩ ⟨by decide, by decide⟩ (by omega) (by omega) ?_
  refine wi_ald (w := 25 + 8 * (((s 1 6) + (A 7)) % 30).toNat) (N := 30) hc rfl (Nat.le_of_ble_eq_true rfl) (Nat.le_of_ble_eq_true rfl) (by decide) rfl (by decide) (by omega) (by omega) (sh_st10 (by omega) (by omega)) ?_
  refine wi_a1 hc rfl rfl ?_
  refine wi_gr (w := 2) hc rfl rfl (by decide) (Nat.le_of_ble_eq_true rfl) rfl ?_
  obtain ⟨s1_, hE1_, hF1_, hC1_⟩ := sp_67 (d := 0) (L := L) (t := t) (s := s) (l := l) (uu := 25 + 8 * (((s 1 6) + (A 7)) % 30).toNat) (ww := 2) (ks_now (by omega) (by omega)) ks_2 (by omega) (by rw [lb_wet hL]; exact h2v)
  refine wp_cv (b := 25 + 8 * (((s 1 6) + (A 7)) % 30).toNat) (As := [.ref 2]) (r := []) hc rfl (by rw [cm_67]; rfl) rfl (Nat.le_of_ble_eq_true rfl) (show 25 + 8 * (((s 1 6) + (A 7)) % 30).toNat < 621 by omega) (by rw [cm_67]; exact congrArg Prod.fst (ks_now (by omega) (by omega)).2.1) (ev_mono hE1_ (by omega)) ?_
  show mm_wp _ _ (24, [some (.ref 1)], [], MX L t s1_ l) _
  refine wi_a1 hc rfl rfl ?_
  refine wi_gfv (kz := 7) rfl hc rfl rfl (by decide) (Nat.le_of_ble_eq_true rfl) rfl (v := A 7) ((congrFun (hF1_ 1 (by omega)) _).trans (lb_sc hL)) ?_
  refine wi_bi hc rfl rfl ?_
  refine wi_cge hc rfl ⟨by omega, by omega⟩ ⟨by decide, by decide⟩ (fun h1_ => ?_) (fun h1_ => ?_)
  · refine wi_a1 hc rfl rfl ?_
    refine wi_a1 hc rfl rfl ?_
    refine wi_gfv (kz := 6) rfl hc rfl rfl (by decide) (Nat.le_of_ble_eq_true rfl) rfl (v := s 1 6) (congrFun (hF1_ 1 (by omega)) _) ?_
    refine wi_ic hc rfl ?_
    refine wi_add hc rfl ?_
    refine wi_bi hc rfl rfl ?_
    refine wi_remp hc rfl ⟨by omega, by omega⟩ ⟨by decide, by decide⟩ (by omega) (by omega) ?_
    refine wi_pf (kz := 6) rfl hc rfl rfl (by decide) (Nat.le_of_ble_eq_true rfl) rfl (Nat.le_of_ble_eq_true rfl) ⟨rfl, rfl⟩ rfl ?_
    obtain ⟨s2_, es2_⟩ : ∃ q, q = up s1_ 1 6 (((s 1 6) + 1) % 30) := ⟨_, rfl⟩
    rw [← es2_]
    refine wi_rv hc rfl (by rw [cm_11]; rfl) ?_
    have hx0 : 0 ≤ (s 1 6 + A 7) % 30 ∧ (s 1 6 + A 7) % 30 < 30 := by omega
    have hc1 : ∀ c, c ≠ 1 → s2_ c = s1_ c := fun c hc9 => (congrFun es2_ c).trans (up_cc hc9)
    have hn9 : kpN A = if A 7 = 30 then 29 else A 7 := rfl
    refine ⟨s2_, rfl, fun c hc9 => (hc1 c (by omega)).trans (hF1_ c (by omega)), hL.keep hV (fun e q1 q2 q3 => (hc1 e (by omega)).trans (hF1_ e (by omega))) ?_ ?_ ?_ ?_ ?_⟩
    · intro k hk; rw [es2_, up_k (by omega), hF1_ 1 (by omega)]
    · rw [es2_]
      rw [up_k (by decide), hF1_ 1 (by omega), hn9, if_pos (by omega)]
      exact (lb_sc hL).trans (by omega)
    · rw [es2_]
      rw [up_e rfl, if_pos (by omega)]
    · refine (hC1_.sc hL.2.2.2.2.1 (okB_V hvB)).of (fun e q1 q2 => hc1 e (by omega))
    · intro i i0 i1 i2 e q1 q2
      exact (hc1 e (by omega)).trans (hF1_ e (by omega))
  · refine wi_a1 hc rfl rfl ?_
    refine wi_dupr hc rfl ?_
    refine wi_gfv (kz := 7) rfl hc rfl rfl (by decide) (Nat.le_of_ble_eq_true rfl) rfl (v := A 7) ((congrFun (hF1_ 1 (by omega)) _).trans (lb_sc hL)) ?_
    refine wi_ic hc rfl ?_
    refine wi_add hc rfl ?_
    refine wi_pf (kz := 7) rfl hc rfl rfl (by decide) (Nat.le_of_ble_eq_true rfl) rfl (Nat.le_of_ble_eq_true rfl) ⟨rfl, rfl⟩ rfl ?_
    obtain ⟨s3_, es3_⟩ : ∃ q, q = up s1_ 1 7 ((A 7) + 1) := ⟨_, rfl⟩
    rw [← es3_]
    refine wi_go hc rfl ?_
    refine wi_rv hc rfl (by rw [cm_11]; rfl) ?_
    have hx0 : 0 ≤ (s 1 6 + A 7) % 30 ∧ (s 1 6 + A 7) % 30 < 30 := by omega
    have hc1 : ∀ c, c ≠ 1 → s3_ c = s1_ c := fun c hc9 => (congrFun es3_ c).trans (up_cc hc9)
    have hn9 : kpN A = if A 7 = 30 then 29 else A 7 := rfl
    refine ⟨s3_, rfl, fun c hc9 => (hc1 c (by omega)).trans (hF1_ c (by omega)), hL.keep hV (fun e q1 q2 q3 => (hc1 e (by omega)).trans (hF1_ e (by omega))) ?_ ?_ ?_ ?_ ?_⟩
    · intro k hk; rw [es3_, up_k (by omega), hF1_ 1 (by omega)]
    · rw [es3_]
      rw [up_e rfl, hn9, if_neg (by omega)]
    · rw [es3_]
      rw [up_k (by decide), hF1_ 1 (by omega), if_neg (by omega)]
    · refine (hC1_.sc hL.2.2.2.2.1 (okB_V hvB)).of (fun e q1 q2 => hc1 e (by omega))
    · intro i i0 i1 i2 e q1 q2
      exact (hc1 e (by omega)).trans (hF1_ e (by omega))
theorem sp_12 {d L t : Nat} {s l : Nat → Int → Int} {A T : Int → Int} (hL : LB 0 s A T) (hV : VA A T) (h71 : 1 ≤ A 7) : ∃ s1, mm_Ev mm_ct mm_CM (d + 2) 12 [.ref 1] (MX L t s l) (some (.int (iI (A 7 - 1))), MX L t s1 l) ∧ (∀ c, ¬ (1 ≤ c ∧ c ≤ 9) → s1 c = s c) ∧ LB 0 s1 (undoF A) T := by
  have hc : (mm_CM 12).2.2.2.2.2.2.2 = mm_cf cd_12 := by rw [cm_12]; rfl
  refine ev_xs ?_
  refine ev_to (mx := 1) (by rw [cm_12]; decide) (by rw [cm_12]; rfl) (by show 1 ≤ _; decide) ?_
  show mm_wp _ _ (0, [some (.ref 1)], [], MX L t s l) (fun res => ∃ s1, res = (some (.int (iI (A 7 - 1))), MX L t s1 l) ∧ (∀ c, ¬ (1 ≤ c ∧ c ≤ 9) → s1 c = s c) ∧ LB 0 s1 (undoF A) T)
  have hvB := hV.2.1
  have hvR := hV.2.2.1
  have h7v := hvR.2.2.1
  have h2v := hV.1.2.1
  have hel := lb_el hL
  have hx0 : 0 ≤ (s 1 6 + (A 7 - 1)) % 30 ∧ (s 1 6 + (A 7 - 1)) % 30 < 30 := by omega
  have hg9 := hV.2.2.2.1 (A 7 - 1) (by omega) (by omega)
  have hst := hL.2.2.2.2.2.1 (A 7 - 1) (by omega) (by omega)
  rw [show 0 + 25 = 25 from rfl, show 0 + 1 = 1 from rfl] at hst
  refine wi_a1 hc rfl rfl ?_
  refine wi_gfv (kz := 7) rfl hc rfl rfl (by decide) (Nat.le_of_ble_eq_true rfl) rfl (v := A 7) (lb_sc hL) ?_
  refine wi_ic hc rfl ?_
  refine wi_cge hc rfl ⟨by omega, by omega⟩ ⟨by decide, by decide⟩ (fun h1_ => ?_) (fun h1_ => (by exfalso; omega))
  refine wi_a1 hc rfl rfl ?_
  refine wi_dupr hc rfl ?_
  refine wi_gfv (kz := 7) rfl hc rfl rfl (by decide) (Nat.le_of_ble_eq_true rfl) rfl (v := A 7) (lb_sc hL) ?_
  refine wi_ic hc rfl ?_
  refine wi_sub hc rfl ?_
  refine wi_pf (kz := 7) rfl hc rfl rfl (by decide) (Nat.le_of_ble_eq_true rfl) rfl (Nat.le_of_ble_eq_true rfl) ⟨rfl, rfl⟩ rfl ?_
  obtain ⟨s1_, es1_⟩ : ∃ q, q = up s 1 7 ((A 7) - 1) := ⟨_, rfl⟩
  rw [← es1_]
  refine wi_a1 hc rfl rfl ?_
  refine wi_gr (w := 2) hc rfl rfl (by decide) (Nat.le_of_ble_eq_true rfl) rfl ?_
  refine wi_a1 hc rfl rfl ?_
  refine wi_gr (w := 10) hc rfl rfl (by decide) (Nat.le_of_ble_eq_true rfl) rfl ?_
  refine wi_a1 hc rfl rfl ?_
  refine wi_gfv (kz := 6) rfl hc rfl rfl (by decide) (Nat.le_of_ble_eq_true rfl) rfl (v := s 1 6) ((congrFun (congrFun es1_ _) _).trans (up_k (by omega))) ?_
  refine wi_a1 hc rfl rfl ?_
  refine wi_gfv (kz := 7) rfl hc rfl rfl (by decide) (Nat.le_of_ble_eq_true rfl) rfl (v := (A 7) - 1) ((congrFun (congrFun es1_ _) _).trans (up_e (by omega))) ?_
  refine wi_add hc rfl ?_
  refine wi_bi hc rfl rfl ?_
  refine wi_remp hc rfl ⟨by omega, by omega⟩ ⟨by decide, by decide⟩ (by omega) (by omega) ?_
  refine wi_ald (w := 25 + 8 * (((s 1 6) + ((A 7) - 1)) % 30).toNat) (N := 30) hc rfl (Nat.le_of_ble_eq_true rfl) (Nat.le_of_ble_eq_true rfl) (by decide) rfl (by decide) (by omega) (by omega) (sh_st10 (by omega) (by omega)) ?_
  obtain ⟨s2_, hE2_, hF2_, hC2_⟩ := sp_67 (d := 0) (L := L) (t := t) (s := s1_) (l := l) (uu := 2) (ww := 25 + 8 * (((s 1 6) + ((A 7) - 1)) % 30).toNat) ks_2 (ks_now (by omega) (by omega)) (by omega) (by rw [es1_, up_c (by omega), hst.2.1]; exact hg9.2.2.2.1)
  refine wp_cv (b := 2) (As := [.ref (25 + 8 * (((s 1 6) + ((A 7) - 1)) % 30).toNat)]) (r := []) hc rfl (by rw [cm_67]; rfl) rfl (Nat.le_of_ble_eq_true rfl) (show 2 < 621 by decide) (by rw [cm_67]; rfl) (ev_mono hE2_ (by omega)) ?_
  show mm_wp _ _ (44, [some (.ref 1)], [], MX L t s2_ l) _
  refine wi_a1 hc rfl rfl ?_
  refine wi_gfv (kz := 7) rfl hc rfl rfl (by decide) (Nat.le_of_ble_eq_true rfl) rfl (v := (A 7) - 1) ((congrFun (hF2_ 1 (by omega)) _).trans ((congrFun (congrFun es1_ _) _).trans (up_e (by omega)))) ?_
  refine wi_ri hc rfl (by rw [cm_12]; rfl) ?_
  refine ⟨s2_, ?_, fun c hc9 => (hF2_ c (by omega)).trans ((congrFun es1_ c).trans (up_cc (by omega))), hL.undo hV (by omega) (fun e q1 q2 => (hF2_ e (by omega)).trans ((congrFun es1_ e).trans (up_cc (by omega)))) ?_ ?_ ?_⟩
  · rfl
  · intro k hk; rw [hF2_ 1 (by omega), es1_, up_k hk]
  · rw [hF2_ 1 (by omega), es1_, up_e rfl]
  · exact hC2_.sc (hst.of (fun e q1 q2 => (congrFun es1_ e).trans (up_cc (by omega)))) hg9.1
theorem sp_75 {d L t : Nat} {s l : Nat → Int → Int} {A T : Int → Int} (hL : LB 0 s A T) (hK : KA A T) : ∃ s1, mm_Ev mm_ct mm_CM (d + 1) 75 [.ref 2] (MX L t s l) (none, MX L t s1 l) ∧ (∀ c, c ≠ 2 → s1 c = s c) ∧ LB 0 s1 (set1 A 4 ((A 4 * 179 + 101) % 30113)) T := by
  have hc : (mm_CM 75).2.2.2.2.2.2.2 = mm_cf cd_75 := by rw [cm_75]; rfl
  refine ev_xs ?_
  refine ev_to (mx := 1) (by rw [cm_75]; decide) (by rw [cm_75]; rfl) (by show 1 ≤ _; decide) ?_
  show mm_wp _ _ (0, [some (.ref 2)], [], MX L t s l) (fun res => ∃ s1, res = (none, MX L t s1 l) ∧ (∀ c, c ≠ 2 → s1 c = s c) ∧ LB 0 s1 (set1 A 4 ((A 4 * 179 + 101) % 30113)) T)
  have h4v := hK.2.2.1.2.1
  refine wi_a1 hc rfl rfl ?_
  refine wi_a1 hc rfl rfl ?_
  refine wi_gfv (kz := 7) rfl hc rfl rfl (by decide) (Nat.le_of_ble_eq_true rfl) rfl (v := A 4) (lb_drawn hL) ?_
  refine wi_si hc rfl rfl ?_
  refine wi_mul hc rfl ?_
  refine wi_bi hc rfl rfl ?_
  refine wi_add hc rfl ?_
  refine wi_si hc rfl rfl ?_
  refine wi_remp hc rfl ⟨by omega, by omega⟩ ⟨by decide, by decide⟩ (by omega) (by omega) ?_
  refine wi_pf (kz := 7) rfl hc rfl rfl (by decide) (Nat.le_of_ble_eq_true rfl) rfl (Nat.le_of_ble_eq_true rfl) ⟨rfl, rfl⟩ rfl ?_
  obtain ⟨s1_, es1_⟩ : ∃ q, q = up s 2 7 ((((A 4) * 179) + 101) % 30113) := ⟨_, rfl⟩
  rw [← es1_]
  refine wi_rv hc rfl (by rw [cm_75]; rfl) ?_
  refine ⟨s1_, rfl, fun c hc9 => (congrFun es1_ c).trans (up_cc hc9), hL.set1 hK (by omega) (fun e q1 q2 q3 => (congrFun es1_ e).trans (up_cc q3)) ?_ ?_ ?_ ?_⟩
  · rw [es1_, up_k (by decide)]
  · rw [es1_, up_k (by decide), if_neg (by decide)]
  · rw [es1_, up_k (by decide), if_neg (by decide)]
  · rw [es1_, up_e rfl, if_pos rfl]
theorem sp_74 {d L t : Nat} {s l : Nat → Int → Int} {A T : Int → Int} (hL : LB 0 s A T) (hK : KA A T) {b y x g : Int} (hb0 : 0 ≤ b) (hb1 : b < 10) (hy0 : 0 ≤ y) (hy1 : y < 10) (hx0 : 0 ≤ x) (hx1 : x < 3) (hg : gapS A g) (hg0 : 0 ≤ g) (hg1 : g ≤ 10) (h90 : 0 ≤ A 9) : ∃ s1, mm_Ev mm_ct mm_CM (d + 1) 74 [.ref 2, .int (iI b), .int (iI y), .int (iI x)] (MX L t s l) (none, MX L t s1 l) ∧ (∀ c, c ≠ 2 ∧ c ≠ 9 → s1 c = s c) ∧ LB 0 s1 (wrF A b y x) T := by
  have hc : (mm_CM 74).2.2.2.2.2.2.2 = mm_cf cd_74 := by rw [cm_74]; rfl
  refine ev_xs ?_
  refine ev_to (mx := 4) (by rw [cm_74]; decide) (by rw [cm_74]; rfl) (by show 4 ≤ _; decide) ?_
  show mm_wp _ _ (0, [some (.ref 2), some (.int (iI b)), some (.int (iI y)), some (.int (iI x))], [], MX L t s l) (fun res => ∃ s1, res = (none, MX L t s1 l) ∧ (∀ c, c ≠ 2 ∧ c ≠ 9 → s1 c = s c) ∧ LB 0 s1 (wrF A b y x) T)
  have hn9 := hK.2.2.1.1
  have hms0 := minI_spec (A 9) 60
  have ho1 : 0 ≤ orI b (y * 16) := Int.natCast_nonneg _
  have ho2 : 0 ≤ orI (orI b (y * 16)) (x * 256) := Int.natCast_nonneg _
  refine wi_a1 hc rfl rfl ?_
  refine wi_gfv (kz := 4) rfl hc rfl rfl (by decide) (Nat.le_of_ble_eq_true rfl) rfl (v := minI (A 9) 60) (lb_wc hL) ?_
  refine wi_bi hc rfl rfl ?_
  refine wi_clt hc rfl ⟨by omega, by omega⟩ ⟨by decide, by decide⟩ (fun h1_ => ?_) (fun h1_ => ?_)
  · refine wi_a1 hc rfl rfl ?_
    refine wi_gr (w := 9) hc rfl rfl (by decide) (Nat.le_of_ble_eq_true rfl) rfl ?_
    refine wi_a1 hc rfl rfl ?_
    refine wi_gfv (kz := 4) rfl hc rfl rfl (by decide) (Nat.le_of_ble_eq_true rfl) rfl (v := minI (A 9) 60) (lb_wc hL) ?_
    refine wi_i1 hc rfl rfl ?_
    refine wi_i1 hc rfl rfl ?_
    refine wi_ic hc rfl ?_
    refine wi_shl 16 rfl hc rfl (by omega) (by omega) ?_
    refine wi_or hc rfl (by omega) (by omega) ?_
    refine wi_i1 hc rfl rfl ?_
    refine wi_bi hc rfl rfl ?_
    refine wi_shl 256 rfl hc rfl (by omega) (by omega) ?_
    refine wi_or hc rfl (by omega) (by omega) ?_
    refine wi_a1 hc rfl rfl ?_
    refine wi_gfv (kz := 6) rfl hc rfl rfl (by decide) (Nat.le_of_ble_eq_true rfl) rfl (v := A 1) (lb_night hL) ?_
    refine wi_bi hc rfl rfl ?_
    refine wi_shl 1024 rfl hc rfl (by omega) (by omega) ?_
    refine wi_or hc rfl (by omega) (by omega) ?_
    refine wi_ist (N := 60) hc rfl rfl (by decide) (by decide) (by omega) (by omega) ?_
    obtain ⟨s1_, es1_⟩ : ∃ q, q = up s 9 (minI (A 9) 60) (orI (orI (orI b (y * 16)) (x * 256)) ((A 1) * 1024)) := ⟨_, rfl⟩
    rw [← es1_]
    refine wi_a1 hc rfl rfl ?_
    refine wi_dupr hc rfl ?_
    refine wi_gfv (kz := 4) rfl hc rfl rfl (by decide) (Nat.le_of_ble_eq_true rfl) rfl (v := minI (A 9) 60) (((congrFun (congrFun es1_ _) _).trans (up_c (by decide))).trans (lb_wc hL)) ?_
    refine wi_ic hc rfl ?_
    refine wi_add hc rfl ?_
    refine wi_pf (kz := 4) rfl hc rfl rfl (by decide) (Nat.le_of_ble_eq_true rfl) rfl (Nat.le_of_ble_eq_true rfl) ⟨rfl, rfl⟩ rfl ?_
    obtain ⟨s2_, es2_⟩ : ∃ q, q = up s1_ 2 4 ((minI (A 9) 60) + 1) := ⟨_, rfl⟩
    rw [← es2_]
    refine wi_rv hc rfl (by rw [cm_74]; rfl) ?_
    have hms := minI_spec (A 9) 60
    have hms1 := minI_spec (A 9 + 1) 60
    have hfr : ∀ c, c ≠ 2 → c ≠ 9 → s2_ c = s c := fun c q1 q2 => ((congrFun es2_ c).trans (up_cc (by omega))).trans ((congrFun es1_ c).trans (up_cc (by omega)))
    refine ⟨s2_, rfl, fun c hc9 => hfr c (by omega) (by omega), hL.wr hK hg hg0 hg1 h90 (fun e q1 q2 q3 q4 => hfr e q3 q4) ?_ ?_ ?_⟩
    · rw [es2_, up_e rfl]; omega
    · intro k hk; rw [es2_, up_k hk, es1_, up_c (by decide)]
    · intro i i0 i1
      rw [es2_, up_c (by decide), es1_]
      by_cases q : i = minI (A 9) 60
      · rw [up_e q, if_pos (by omega), enc4 hb0 (by omega) hy0 (by omega) hx0 (by omega) (by omega)]
      · rw [up_k q, if_neg (by omega), lb_log hL (by omega) (by omega)]
        congr 1
        omega
  · refine wi_a1 hc rfl rfl ?_
    refine wi_gr (w := 9) hc rfl rfl (by decide) (Nat.le_of_ble_eq_true rfl) rfl ?_
    refine wi_ic hc rfl ?_
    refine wi_a1 hc rfl rfl ?_
    refine wi_gr (w := 9) hc rfl rfl (by decide) (Nat.le_of_ble_eq_true rfl) rfl ?_
    refine wi_ic hc rfl ?_
    refine wi_bi hc rfl rfl ?_
    refine wi_cpy (r := []) (N0 := 60) (N1 := 60) hc rfl (Nat.le_of_ble_eq_true rfl) (by decide) rfl (by decide) rfl (by omega) (by omega) (by omega) (by omega) (by omega) (by decide) (by decide) ?_
    obtain ⟨s3_, es3_⟩ : ∃ q, q = cpI s 9 9 1 0 59 := ⟨_, rfl⟩
    rw [← es3_]
    show mm_wp _ _ (24, [some (.ref 2), some (.int (iI b)), some (.int (iI y)), some (.int (iI x))], [], MX L t s3_ l) _
    refine wi_a1 hc rfl rfl ?_
    refine wi_bi hc rfl rfl ?_
    refine wi_pf (kz := 4) rfl hc rfl rfl (by decide) (Nat.le_of_ble_eq_true rfl) rfl (Nat.le_of_ble_eq_true rfl) ⟨rfl, rfl⟩ rfl ?_
    obtain ⟨s4_, es4_⟩ : ∃ q, q = up s3_ 2 4 59 := ⟨_, rfl⟩
    rw [← es4_]
    refine wi_a1 hc rfl rfl ?_
    refine wi_gr (w := 9) hc rfl rfl (by decide) (Nat.le_of_ble_eq_true rfl) rfl ?_
    refine wi_a1 hc rfl rfl ?_
    refine wi_gfv (kz := 4) rfl hc rfl rfl (by decide) (Nat.le_of_ble_eq_true rfl) rfl (v := 59) ((congrFun (congrFun es4_ _) _).trans (up_e (by omega))) ?_
    refine wi_i1 hc rfl rfl ?_
    refine wi_i1 hc rfl rfl ?_
    refine wi_ic hc rfl ?_
    refine wi_shl 16 rfl hc rfl (by omega) (by omega) ?_
    refine wi_or hc rfl (by omega) (by omega) ?_
    refine wi_i1 hc rfl rfl ?_
    refine wi_bi hc rfl rfl ?_
    refine wi_shl 256 rfl hc rfl (by omega) (by omega) ?_
    refine wi_or hc rfl (by omega) (by omega) ?_
    refine wi_a1 hc rfl rfl ?_
    refine wi_gfv (kz := 6) rfl hc rfl rfl (by decide) (Nat.le_of_ble_eq_true rfl) rfl (v := A 1) (((congrFun (congrFun es4_ _) _).trans (up_k (by omega))).trans (((congrFun (congrFun es3_ _) _).trans (congrFun (cp_c (by omega)) _)).trans (lb_night hL))) ?_
    refine wi_bi hc rfl rfl ?_
    refine wi_shl 1024 rfl hc rfl (by omega) (by omega) ?_
    refine wi_or hc rfl (by omega) (by omega) ?_
    refine wi_ist (N := 60) hc rfl rfl (by decide) (by decide) (by omega) (by omega) ?_
    obtain ⟨s5_, es5_⟩ : ∃ q, q = up s4_ 9 59 (orI (orI (orI b (y * 16)) (x * 256)) ((A 1) * 1024)) := ⟨_, rfl⟩
    rw [← es5_]
    refine wi_a1 hc rfl rfl ?_
    refine wi_dupr hc rfl ?_
    refine wi_gfv (kz := 4) rfl hc rfl rfl (by decide) (Nat.le_of_ble_eq_true rfl) rfl (v := 59) (((congrFun (congrFun es5_ _) _).trans (up_c (by decide))).trans ((congrFun (congrFun es4_ _) _).trans (up_e (by omega)))) ?_
    refine wi_ic hc rfl ?_
    refine wi_add hc rfl ?_
    refine wi_pf (kz := 4) rfl hc rfl rfl (by decide) (Nat.le_of_ble_eq_true rfl) rfl (Nat.le_of_ble_eq_true rfl) ⟨rfl, rfl⟩ rfl ?_
    obtain ⟨s6_, es6_⟩ : ∃ q, q = up s5_ 2 4 (59 + 1) := ⟨_, rfl⟩
    rw [← es6_]
    refine wi_rv hc rfl (by rw [cm_74]; rfl) ?_
    have hms := minI_spec (A 9) 60
    have hms1 := minI_spec (A 9 + 1) 60
    have hfr : ∀ c, c ≠ 2 → c ≠ 9 → s6_ c = s c := fun c q1 q2 => ((congrFun es6_ c).trans (up_cc (by omega))).trans (((congrFun es5_ c).trans (up_cc (by omega))).trans (((congrFun es4_ c).trans (up_cc (by omega))).trans ((congrFun es3_ c).trans (cp_c (by omega)))))
    refine ⟨s6_, rfl, fun c hc9 => hfr c (by omega) (by omega), hL.wr hK hg hg0 hg1 h90 (fun e q1 q2 q3 q4 => hfr e q3 q4) ?_ ?_ ?_⟩
    · rw [es6_, up_e rfl]; omega
    · intro k hk; rw [es6_, up_k hk, es5_, up_c (by decide)]; rw [es4_, up_k hk, es3_, cp_c (by decide)]
    · intro i i0 i1
      rw [es6_, up_c (by decide), es5_]
      by_cases q : i = 59
      · rw [up_e q, if_pos (by omega), enc4 hb0 (by omega) hy0 (by omega) hx0 (by omega) (by omega)]
      · rw [up_k q, if_neg (by omega), es4_, up_c (by decide), es3_]
        unfold cpI
        rw [if_pos ⟨rfl, by omega, by omega⟩, lb_log hL (by omega) (by omega)]
        congr 1
        omega
