/-! What falls, on both sides. -/
/-- the falling of the first n places of a shelf, as bits -/
def fallS (A T : Int → Int) (x : Int) : Nat → Int
  | 0 => 0
  | n + 1 => if fallP A T (A (16 + 10 * x + n)) x n (A (13 + x)) = 1 then orI (fallS A T x n) (1 * 2 ^ (A (16 + 10 * x + n)).toNat) else fallS A T x n
theorem orI_nn (x y : Int) : 0 ≤ orI x y := Int.natCast_nonneg _
theorem pow_lt10 {k : Int} (h0 : 0 ≤ k) (h1 : k < 10) : (1 : Int) ≤ 2 ^ k.toNat ∧ (2 : Int) ^ k.toNat ≤ 512 := by
  rcases (by omega : k = 0 ∨ k = 1 ∨ k = 2 ∨ k = 3 ∨ k = 4 ∨ k = 5 ∨ k = 6 ∨ k = 7 ∨ k = 8 ∨ k = 9) with h | h | h | h | h | h | h | h | h | h <;> (subst h; decide)
theorem or_lt {s k : Int} (h0 : 0 ≤ s) (h1 : s < 1024) (k0 : 0 ≤ k) (k1 : k < 10) : orI s (1 * 2 ^ k.toNat) < 1024 := by
  have hp := pow_lt10 k0 k1
  obtain ⟨n, rfl⟩ := Int.eq_ofNat_of_zero_le h0
  unfold orI
  have : (n ||| (1 * (2 : Int) ^ k.toNat).toNat) < 2 ^ 10 := Nat.or_lt_two_pow (by omega) (by omega)
  rw [Int.toNat_natCast]
  omega
theorem fallS_r {A T : Int → Int} {x : Int} (hB : okB A) (hx0 : 0 ≤ x) (hx1 : x < 3) : ∀ n : Nat, (n : Int) ≤ A (13 + x) → 0 ≤ fallS A T x n ∧ fallS A T x n < 1024
  | 0, _ => by unfold fallS; omega
  | n + 1, hn => by
    have ih := fallS_r hB hx0 hx1 (T := T) n (by omega)
    have g := hB.2.2.1 x n hx0 hx1 (by omega) (by omega)
    have g0 := hB.1
    unfold fallS
    split
    · exact ⟨orI_nn _ _, or_lt ih.1 ih.2 g.1 (by omega)⟩
    · exact ih
theorem fallS_bit {A T : Int → Int} {x : Int} (hB : okB A) (hx0 : 0 ≤ x) (hx1 : x < 3) {b : Int} (hb : 0 ≤ b) : ∀ n : Nat, (n : Int) ≤ A (13 + x) → ((fallS A T x n / 2 ^ b.toNat) % 2 = 0 ∨ (fallS A T x n / 2 ^ b.toNat) % 2 = 1) ∧ ((fallS A T x n / 2 ^ b.toNat) % 2 = 1 ↔ ∃ p : Nat, p < n ∧ A (16 + 10 * x + p) = b ∧ fallP A T (A (16 + 10 * x + p)) x p (A (13 + x)) = 1)
  | 0, _ => by
    unfold fallS
    rw [Int.zero_ediv]
    exact ⟨Or.inl rfl, ⟨fun h => absurd h (by decide), fun ⟨p, h, _⟩ => absurd h (by omega)⟩⟩
  | n + 1, hn => by
    have ih := fallS_bit hB hx0 hx1 hb (T := T) n (by omega)
    have g := hB.2.2.1 x n hx0 hx1 (by omega) (by omega)
    have hr := fallS_r hB hx0 hx1 (T := T) n (by omega)
    unfold fallS
    by_cases h : fallP A T (A (16 + 10 * x + n)) x n (A (13 + x)) = 1
    · rw [if_pos h, bit_or hr.1 g.1 hb]
      by_cases q : b = A (16 + 10 * x + n)
      · rw [if_pos q]
        exact ⟨Or.inr rfl, ⟨fun _ => ⟨n, by omega, q.symm, h⟩, fun _ => rfl⟩⟩
      · rw [if_neg q]
        refine ⟨ih.1, ih.2.trans ⟨fun ⟨p, a, c, d⟩ => ⟨p, by omega, c, d⟩, fun ⟨p, a, c, d⟩ => ?_⟩⟩
        refine ⟨p, ?_, c, d⟩
        have : p ≠ n := fun z => q (by rw [← c, z])
        omega
    · rw [if_neg h]
      refine ⟨ih.1, ih.2.trans ⟨fun ⟨p, a, c, d⟩ => ⟨p, by omega, c, d⟩, fun ⟨p, a, c, d⟩ => ?_⟩⟩
      refine ⟨p, ?_, c, d⟩
      have : p ≠ n := fun z => h (by rw [← z]; exact d)
      omega
/-- who is kept when books below b that fall are gone -/
def kbb (A T : Int → Int) (x b : Int) : Int → Int := fun j => if 0 ≤ j ∧ j < A (13 + x) ∧ fallP A T (A (16 + 10 * x + j)) x j (A (13 + x)) = 1 ∧ A (16 + 10 * x + j) < b then 0 else 1
theorem kbb_01 (A T : Int → Int) (x b : Int) : ∀ j, kbb A T x b j = 0 ∨ kbb A T x b j = 1 := fun j => by unfold kbb; split <;> simp
theorem trim_stop {T : Int → Int} {x : Int} {A : Int → Int} (h : ¬ A (10 + x) < fullP A T x) : ∀ n, trim T x n A = A
  | 0 => rfl
  | n + 1 => by unfold trim; rw [if_neg h]
theorem trim_step {T : Int → Int} {x : Int} {A : Int → Int} (h : A (10 + x) < fullP A T x) {n : Nat} (hn : 1 ≤ n) : trim T x n A = trim T x (n - 1) (pullF A x (A (13 + x) - 1) 4) := by
  obtain ⟨m, rfl⟩ : ∃ m, n = m + 1 := ⟨n - 1, by omega⟩
  rw [trim, if_pos h]
  rfl
theorem fil_at {A T : Int → Int} {x : Int} (hB : okB A) (hx0 : 0 ≤ x) (hx1 : x < 3) {n : Nat} (hn : (n : Int) < A (13 + x)) : (filF A T x n).1 (16 + 10 * x + (n - (filF A T x n).2)) = A (16 + 10 * x + n) ∧ 0 ≤ n - (filF A T x n).2 ∧ n - (filF A T x n).2 < (filF A T x n).1 (13 + x) := by
  obtain ⟨f, f1, f2, f3, f4⟩ := filF_ok (T := T) hB hx0 hx1 n (by omega)
  have kn : kap A T x n n = 1 := by unfold kap; rw [if_neg (by omega)]
  have := f.2.2.2.2.1 n hn kn
  rw [f1] at this
  exact ⟨this, by omega, by omega⟩
theorem sp_128 {d L t : Nat} {s l : Nat → Int → Int} {x b : Int} (hx : rI x) (h0 : 0 ≤ b) (h1 : b < 32) (hb : 0 ≤ x) : mm_Ev mm_ct mm_CM (d + 1) 128 [.int (iI x), .int (iI b)] (MX L t s l) (some (.int (iI (x / 2 ^ b.toNat % 2))), MX L t s l) := by
  have hc : (mm_CM 128).2.2.2.2.2.2.2 = mm_cf cd_128 := by rw [cm_128]; rfl
  refine ev_of (mx := 2) (by rw [cm_128]; decide) (by rw [cm_128]; rfl) (by show 2 ≤ _; decide) ?_
  show mm_wp _ _ (0, [some (.int (iI x)), some (.int (iI b))], [], MX L t s l) (fun r => r = (some (.int (iI (x / 2 ^ b.toNat % 2))), MX L t s l))
  have hm : x / 2 ^ b.toNat % 2 = 0 ∨ x / 2 ^ b.toNat % 2 = 1 := by omega
  have hs9 : (x / 2 ^ b.toNat) % 2 = x / 2 ^ b.toNat % 2 := rfl
  refine wi_i1 hc rfl rfl ?_
  refine wi_i1 hc rfl rfl ?_
  refine wi_shr (2 ^ b.toNat) rfl hc rfl hx (by omega) (by omega) ?_
  refine wi_ic hc rfl ?_
  refine wi_msk 1 2 rfl (by decide) (by decide) hc rfl ?_
  refine wi_b01 hc rfl rfl rfl rfl (by omega) ?_
  refine wi_rx (by omega) hc rfl (by rw [cm_128]; rfl) ?_
  rfl
theorem sp_5 {d L t : Nat} {s l : Nat → Int → Int} {A T : Int → Int} (hJ : JC s A T) (hK : KA A T) {x : Int} (hx0 : 0 ≤ x) (hx1 : x < 3) : ∃ s1, mm_Ev mm_ct mm_CM (d + 3) 5 [.ref 577, .ref 1, .int (iI x)] (MX L t s l) (some (.int (iI (fallS A T x (A (13 + x)).toNat))), MX L t s1 l) ∧ (∀ c, c ≠ 578 ∧ c ≠ 579 → s1 c = s c) ∧ JC s1 A T := by
  have hc : (mm_CM 5).2.2.2.2.2.2.2 = mm_cf cd_5 := by rw [cm_5]; rfl
  refine ev_xs ?_
  refine ev_to (mx := 8) (by rw [cm_5]; decide) (by rw [cm_5]; rfl) (by show 3 ≤ _; decide) ?_
  show mm_wp _ _ (0, [some (.ref 577), some (.ref 1), some (.int (iI x)), none, none, none, none, none], [], MX L t s l) (fun res => ∃ s1, res = (some (.int (iI (fallS A T x (A (13 + x)).toNat))), MX L t s1 l) ∧ (∀ c, c ≠ 578 ∧ c ≠ 579 → s1 c = s c) ∧ JC s1 A T)
  have hV := hK.1
  have hB := hK.2.1
  have hL := hJ.1
  have g0 := hB.1
  have g5 := hV.2.2.2.1
  have g6 := hV.2.2.2.2.1
  have gm := hB.2.1 x hx0 hx1
  have hc1 := clP_b hV 1 0
  refine wi_a1 hc rfl rfl ?_
  refine wi_a1 hc rfl rfl ?_
  refine wi_gfv (kz := 11) rfl hc rfl rfl (by decide) (Nat.le_of_ble_eq_true rfl) rfl (v := A 6) (lb_rul hJ.1) ?_
  by_cases h6_ : A 6 < 0
  · refine wp_cv (b := 1) (As := [.int (iI (A 6))]) (r := []) hc rfl (by rw [cm_13]; rfl) rfl (Nat.le_of_ble_eq_true rfl) (show 1 < 621 by decide) (by rw [cm_13]; rfl) (ev_mono (sp_13n (d := 0) ⟨by omega, by omega⟩ (Or.inl h6_)) (by omega)) ?_
    show mm_wp _ _ (8, [some (.ref 577), some (.ref 1), some (.int (iI x)), none, none, none, none, none], [.null], MX L t s l) _
    refine wi_asn1 (L' := [some (.ref 577), some (.ref 1), some (.int (iI x)), some (.null), none, none, none, none]) hc rfl (Nat.le_of_ble_eq_true rfl) rfl ?_
    refine wi_aln1 hc rfl rfl ?_
    refine wi_ifnn hc rfl ?_
    refine wi_ic hc rfl ?_
    refine wi_ri hc rfl (by rw [cm_5]; rfl) ?_
    refine ⟨s, ?_, fun c _ => rfl, hJ⟩
    rw [show fallS A T x (A (13 + x)).toNat = 0 from ?_]
    have key : ∀ n : Nat, fallS A T x n = 0 := by
      intro n
      induction n with
      | zero => rfl
      | succ n ih =>
        unfold fallS
        rw [if_neg, ih]
        unfold fallP
        rw [if_pos (by first | omega | (unfold clP; rw [if_pos (by omega)]; decide))]
        decide
    exact key _
  · refine wp_cv (b := 1) (As := [.int (iI (A 6))]) (r := []) hc rfl (by rw [cm_13]; rfl) rfl (Nat.le_of_ble_eq_true rfl) (show 1 < 621 by decide) (by rw [cm_13]; rfl) (ev_mono (sp_13 (d := 0) (x := A 6) (by omega) (by omega)) (by omega)) ?_
    show mm_wp _ _ (8, [some (.ref 577), some (.ref 1), some (.int (iI x)), none, none, none, none, none], [.ref (265 + 6 * (A 6).toNat)], MX L t s l) _
    refine wi_as1 (L' := [some (.ref 577), some (.ref 1), some (.int (iI x)), some (.ref (265 + 6 * (A 6).toNat)), none, none, none, none]) hc rfl (Nat.le_of_ble_eq_true rfl) rfl ?_
    refine wi_a1 hc rfl rfl ?_
    refine wi_ifnr hc rfl ?_
    refine wi_a1 hc rfl rfl ?_
    refine wi_bi hc rfl rfl ?_
    have hts_ := tx_slot hJ.1 hV (by omega) (slot := 6) (so := 1) (la := 0) (Or.inr (Or.inl ⟨rfl, rfl, rfl⟩))
    have htb_ := clP_b hV 1 0
    have htr_ : rI (s (265 + 6 * (A 6).toNat + 4) 6) ∧ rI (s (265 + 6 * (A 6).toNat + 5) 6) ∧ (s (265 + 6 * (A 6).toNat + 4) 6 < s (265 + 6 * (A 6).toNat + 5) 6 ↔ 0 ≤ clP A T 1 0) := by
      by_cases q : clP A T 1 0 < 0
      · have := hts_.1 q
        rw [this.1, this.2]
        exact ⟨r0, r0, by omega⟩
      · have := hts_.2 (by omega)
        rw [this.1, this.2]
        obtain ⟨N, q1, q2, q3, q4, q5, q6, q7⟩ := clP_ok hV (so := 1) (la := 0) (by decide) (by decide) (by omega)
        exact ⟨⟨by omega, by omega⟩, ⟨by omega, by omega⟩, by omega⟩
    refine wp_cv (b := 265 + 6 * (A 6).toNat) (As := [.int (iI 6)]) (r := []) hc rfl (by rw [cm_80]; rfl) rfl (Nat.le_of_ble_eq_true rfl) (show 265 + 6 * (A 6).toNat < 621 by omega) (by rw [cm_80]; exact congrArg Prod.fst (kt_now (by omega) (by omega)).2.1) (ev_mono (sp_80 (d := 0) (kt_now (by omega) (by omega)) (x := 6) (by omega) (by omega) htr_.1 htr_.2.1) (by omega)) ?_
    show mm_wp _ _ (19, [some (.ref 577), some (.ref 1), some (.int (iI x)), some (.ref (265 + 6 * (A 6).toNat)), none, none, none, none], [.int (iI (bI (s (265 + 6 * (A 6).toNat + 4) 6 < s (265 + 6 * (A 6).toNat + 5) 6)))], MX L t s l) _
    refine wi_bne hc rfl (fun h1_ => ?_) (fun h1_ => ?_)
    · refine wi_ic hc rfl ?_
      refine wi_is2 (L' := [some (.ref 577), some (.ref 1), some (.int (iI x)), some (.ref (265 + 6 * (A 6).toNat)), some (.int (iI 0)), none, none, none]) hc rfl (Nat.le_of_ble_eq_true rfl) rfl ?_
      refine wi_a1 hc rfl rfl ?_
      refine wi_gr (w := 2) hc rfl rfl (by decide) (Nat.le_of_ble_eq_true rfl) rfl ?_
      refine wi_gr (w := 7) hc rfl rfl (by decide) (Nat.le_of_ble_eq_true rfl) rfl ?_
      refine wi_i1 hc rfl rfl ?_
      refine wi_ildv (N := 3) hc rfl rfl (by decide) (by decide) (by omega) (by omega) (v := A (13 + x)) (lb_many hJ.1 (by omega) (by omega)) ?_
      refine wi_is2 (L' := [some (.ref 577), some (.ref 1), some (.int (iI x)), some (.ref (265 + 6 * (A 6).toNat)), some (.int (iI 0)), some (.int (iI (A (13 + x)))), none, none]) hc rfl (Nat.le_of_ble_eq_true rfl) rfl ?_
      refine wi_ic hc rfl ?_
      refine wi_is2 (L' := [some (.ref 577), some (.ref 1), some (.int (iI x)), some (.ref (265 + 6 * (A 6).toNat)), some (.int (iI 0)), some (.int (iI (A (13 + x)))), some (.int (iI 0)), none]) hc rfl (Nat.le_of_ble_eq_true rfl) rfl ?_
      have loop41_ : ∀ p : Int, p ≤ A (13 + x) → 0 ≤ p → ∀ (f : Int) (q7 : Option Value) (s2 : Nat → Int → Int), f = fallS A T x p.toNat → 0 ≤ f → f < 1024 → (∀ c, c ≠ 578 ∧ c ≠ 579 → s2 c = s c) → JC s2 A T → mm_wp (mm_Ev mm_ct mm_CM (d + 2)) 5 (41, [some (.ref 577), some (.ref 1), some (.int (iI x)), some (.ref (265 + 6 * (A 6).toNat)), some (.int (iI f)), some (.int (iI (A (13 + x)))), some (.int (iI p)), q7], [], MX L t s2 l) (fun res => ∃ s1, res = (some (.int (iI (fallS A T x (A (13 + x)).toNat))), MX L t s1 l) ∧ (∀ c, c ≠ 578 ∧ c ≠ 579 → s1 c = s c) ∧ JC s1 A T) := by
        refine up_ind ?_
        intro p hp ih hp0 f q7 s2 hf hf0 hf1 hF hJ2
        refine wi_i2 hc rfl rfl ?_
        refine wi_i2 hc rfl rfl ?_
        refine wi_cge hc rfl ⟨by omega, by omega⟩ ⟨by omega, by omega⟩ (fun h2_ => ?_) (fun h2_ => ?_)
        · refine wi_i2 hc rfl rfl ?_
          refine wi_ri hc rfl (by rw [cm_5]; rfl) ?_
          have e9 : p = A (13 + x) := by omega
          refine ⟨s2, ?_, hF, hJ2⟩
          rw [hf, e9]
        · refine wi_a1 hc rfl rfl ?_
          refine wi_gr (w := 2) hc rfl rfl (by decide) (Nat.le_of_ble_eq_true rfl) rfl ?_
          refine wi_gr (w := 3) hc rfl rfl (by decide) (Nat.le_of_ble_eq_true rfl) rfl ?_
          refine wi_i1 hc rfl rfl ?_
          refine wi_ald (w := 4 + x.toNat) (N := 3) hc rfl (Nat.le_of_ble_eq_true rfl) (Nat.le_of_ble_eq_true rfl) (by decide) rfl (by decide) (by omega) (by omega) (sh_row3 (by omega) (by omega)) ?_
          refine wi_i2 hc rfl rfl ?_
          obtain ⟨bk, hbk⟩ : ∃ q, q = A (16 + 10 * x + p) := ⟨_, rfl⟩
          have gb := hB.2.2.1 x p (by omega) (by omega) (by omega) (by omega)
          rw [← hbk] at gb
          refine wi_ildv (N := 10) hc rfl (sh_rows (by omega) (by omega)) (by omega) (by decide) (by omega) (by omega) (v := bk) ((lb_row hJ2.1 (by omega) (by omega) (by omega) (by omega) (by omega)).trans hbk.symm) ?_
          refine wi_is2 (L' := [some (.ref 577), some (.ref 1), some (.int (iI x)), some (.ref (265 + 6 * (A 6).toNat)), some (.int (iI f)), some (.int (iI (A (13 + x)))), some (.int (iI p)), some (.int (iI bk))]) hc rfl (Nat.le_of_ble_eq_true rfl) rfl ?_
          refine wi_a1 hc rfl rfl ?_
          refine wi_a1 hc rfl rfl ?_
          refine wi_i2 hc rfl rfl ?_
          obtain ⟨s1_, hE1_, hF1_, hM1_, hJ1_⟩ := sp_6 (d := 0) (L := L) (t := t) (l := l) hJ2 hV (b := bk) (by omega) (by omega)
          refine wp_cv (b := 577) (As := [.ref 1, .int (iI bk)]) (r := []) hc rfl (by rw [cm_6]; rfl) rfl (Nat.le_of_ble_eq_true rfl) (show 577 < 621 by decide) (by rw [cm_6]; rfl) (ev_mono hE1_ (by omega)) ?_
          show mm_wp _ _ (69, [some (.ref 577), some (.ref 1), some (.int (iI x)), some (.ref (265 + 6 * (A 6).toNat)), some (.int (iI f)), some (.int (iI (A (13 + x)))), some (.int (iI p)), some (.int (iI bk))], [], MX L t s1_ l) _
          refine wi_a1 hc rfl rfl ?_
          refine wi_gr (w := 578) hc rfl rfl (by decide) (Nat.le_of_ble_eq_true rfl) rfl ?_
          refine wi_bi hc rfl rfl ?_
          refine wi_i1 hc rfl rfl ?_
          refine wi_ist (N := 15) hc rfl rfl (by decide) (by decide) (by omega) (by omega) ?_
          obtain ⟨s2_, es2_⟩ : ∃ q, q = up s1_ 578 12 x := ⟨_, rfl⟩
          rw [← es2_]
          refine wi_a1 hc rfl rfl ?_
          refine wi_gr (w := 578) hc rfl rfl (by decide) (Nat.le_of_ble_eq_true rfl) rfl ?_
          refine wi_bi hc rfl rfl ?_
          refine wi_i2 hc rfl rfl ?_
          refine wi_ist (N := 15) hc rfl rfl (by decide) (by decide) (by omega) (by omega) ?_
          obtain ⟨s3_, es3_⟩ : ∃ q, q = up s2_ 578 13 p := ⟨_, rfl⟩
          rw [← es3_]
          refine wi_a1 hc rfl rfl ?_
          refine wi_gr (w := 578) hc rfl rfl (by decide) (Nat.le_of_ble_eq_true rfl) rfl ?_
          refine wi_bi hc rfl rfl ?_
          refine wi_i2 hc rfl rfl ?_
          refine wi_ist (N := 15) hc rfl rfl (by decide) (by decide) (by omega) (by omega) ?_
          obtain ⟨s4_, es4_⟩ : ∃ q, q = up s3_ 578 14 (A (13 + x)) := ⟨_, rfl⟩
          rw [← es4_]
          have hMR : ∀ j, 0 ≤ j → j < 15 → okNm 1 j → s4_ 578 j = nmF A bk x p (A (13 + x)) j := fun j hj hj2 hj3 => by
            unfold okNm at hj3
            rcases (by omega : j = 12 ∨ j = 13 ∨ j = 14 ∨ j < 6) with q | q | q | q
            · rw [q]; exact ((congrFun (congrFun es4_ _) _).trans (up_k (by omega))).trans (((congrFun (congrFun es3_ _) _).trans (up_k (by omega))).trans ((congrFun (congrFun es2_ _) _).trans (up_e (by omega))))
            · rw [q]; exact ((congrFun (congrFun es4_ _) _).trans (up_k (by omega))).trans ((congrFun (congrFun es3_ _) _).trans (up_e (by omega)))
            · rw [q]; exact (congrFun (congrFun es4_ _) _).trans (up_e (by omega))
            · rw [es4_, up_k (by omega), es3_, up_k (by omega), es2_, up_k (by omega), hM1_ j hj]
              unfold nmF nmA
              (repeat' split) <;> first | rfl | omega
          have hLR : LB 0 s4_ A T := hJ1_.1.of hV.1 hV.2.2.2.1 (fun c q1 q2 => ((congrFun es4_ c).trans (up_cc (by omega))).trans (((congrFun es3_ c).trans (up_cc (by omega))).trans ((congrFun es2_ c).trans (up_cc (by omega)))))
          have hNR : ∀ v, 0 ≤ v → v < 15 → -1000000 ≤ s4_ 578 v ∧ s4_ 578 v ≤ 1000000 := fun v hv hv2 => by
            rcases (by omega : v = 12 ∨ v = 13 ∨ v = 14 ∨ v < 12) with q | q | q | q
            · rw [q, show s4_ 578 12 = _ from ((congrFun (congrFun es4_ _) _).trans (up_k (by omega))).trans (((congrFun (congrFun es3_ _) _).trans (up_k (by omega))).trans ((congrFun (congrFun es2_ _) _).trans (up_e (by omega))))]; omega
            · rw [q, show s4_ 578 13 = _ from ((congrFun (congrFun es4_ _) _).trans (up_k (by omega))).trans ((congrFun (congrFun es3_ _) _).trans (up_e (by omega)))]; omega
            · rw [q, show s4_ 578 14 = _ from (congrFun (congrFun es4_ _) _).trans (up_e (by omega))]; omega
            · rw [es4_, up_k (by omega), es3_, up_k (by omega), es2_, up_k (by omega)]; exact hJ1_.2 v hv hv2
          have hf01 := fallP_01 hV (b := bk) (sh := x) (pl := p) (many := A (13 + x)) (by omega) (by omega) (by omega) (by omega) (by omega)
          refine wi_a1 hc rfl rfl ?_
          refine wi_a1 hc rfl rfl ?_
          refine wi_bi hc rfl rfl ?_
          obtain ⟨s5_, hE5_, hF5_⟩ := sw_7 (d := 0) (L := L) (t := t) (l := l) hLR hNR hV (by omega) (slot := 6) (so := 1) (la := 0) (Or.inr (Or.inl ⟨rfl, rfl, rfl⟩)) (by omega)
          refine wp_cv (b := 577) (As := [.ref (265 + 6 * (A 6).toNat), .int (iI 6)]) (r := []) hc rfl (by rw [cm_7]; rfl) rfl (Nat.le_of_ble_eq_true rfl) (show 577 < 621 by decide) (by rw [cm_7]; rfl) (ev_mono hE5_ (by omega)) ?_
          have hJ5_ : JC s5_ A T := ⟨hLR.of hV.1 hV.2.2.2.1 (fun e q1 q2 => hF5_ e (by omega)), by rw [hF5_ 578 (by decide)]; exact hNR⟩
          have hrv : (if (1 : Int) = 2 then (vmT T (705 * A 6) (clP A T 1 0) (s4_ 578)).1 0 else (vmT T (705 * A 6) (clP A T 1 0) (s4_ 578)).2 0) = fallP A T bk x p (A (13 + x)) := by unfold fallP; rw [if_neg (by decide), if_neg (by omega)]; exact congrArg (fun q : (Int → Int) × (Int → Int) => q.2 0) (vmT_congr (clP_ok hV (so := 1) (by decide) (by decide) (by omega)) (fun v hv0 hv1 hv2 => hMR v hv0 hv1 hv2))
          rw [hrv]
          show mm_wp _ _ (102, [some (.ref 577), some (.ref 1), some (.int (iI x)), some (.ref (265 + 6 * (A 6).toNat)), some (.int (iI f)), some (.int (iI (A (13 + x)))), some (.int (iI p)), some (.int (iI bk))], [.int (iI (fallP A T bk x p (A (13 + x))))], MX L t s5_ l) _
          refine wi_zeq hc rfl ⟨by omega, by omega⟩ (fun h3_ => ?_) (fun h3_ => ?_)
          · refine wi_inc (L' := [some (.ref 577), some (.ref 1), some (.int (iI x)), some (.ref (265 + 6 * (A 6).toNat)), some (.int (iI f)), some (.int (iI (A (13 + x)))), some (.int (iI (p + 1))), some (.int (iI bk))]) hc rfl rfl rfl ?_
            refine wi_go hc rfl ?_
            refine ih (by omega) (by omega) _ _ s5_ ?_ ?_ ?_ (fun c hc9_ => (hF5_ c (by omega)).trans (((congrFun es4_ c).trans (up_cc (by omega))).trans (((congrFun es3_ c).trans (up_cc (by omega))).trans (((congrFun es2_ c).trans (up_cc (by omega))).trans ((hF1_ c (by omega)).trans (hF c (by omega))))))) hJ5_
            · rw [show (p + 1).toNat = p.toNat + 1 by omega, fallS, if_neg (by rw [show ((p.toNat : Nat) : Int) = p by omega, ← hbk]; omega)]; exact hf
            · exact hf0
            · exact hf1
          · have hp9 := pow_lt10 (k := bk) (by omega) (by omega)
            refine wi_i2 hc rfl rfl ?_
            refine wi_ic hc rfl ?_
            refine wi_i2 hc rfl rfl ?_
            refine wi_shl (2 ^ bk.toNat) rfl hc rfl (by omega) (by omega) ?_
            refine wi_or hc rfl (by omega) (by omega) ?_
            refine wi_is2 (L' := [some (.ref 577), some (.ref 1), some (.int (iI x)), some (.ref (265 + 6 * (A 6).toNat)), some (.int (iI (orI f (1 * (2 ^ bk.toNat))))), some (.int (iI (A (13 + x)))), some (.int (iI p)), some (.int (iI bk))]) hc rfl (Nat.le_of_ble_eq_true rfl) rfl ?_
            refine wi_inc (L' := [some (.ref 577), some (.ref 1), some (.int (iI x)), some (.ref (265 + 6 * (A 6).toNat)), some (.int (iI (orI f (1 * (2 ^ bk.toNat))))), some (.int (iI (A (13 + x)))), some (.int (iI (p + 1))), some (.int (iI bk))]) hc rfl rfl rfl ?_
            refine wi_go hc rfl ?_
            refine ih (by omega) (by omega) _ _ s5_ ?_ ?_ ?_ (fun c hc9_ => (hF5_ c (by omega)).trans (((congrFun es4_ c).trans (up_cc (by omega))).trans (((congrFun es3_ c).trans (up_cc (by omega))).trans (((congrFun es2_ c).trans (up_cc (by omega))).trans ((hF1_ c (by omega)).trans (hF c (by omega))))))) hJ5_
            · rw [show (p + 1).toNat = p.toNat + 1 by omega, fallS, if_pos (by rw [show ((p.toNat : Nat) : Int) = p by omega, ← hbk]; omega), hf, show ((p.toNat : Nat) : Int) = p by omega, ← hbk]
            · exact orI_nn _ _
            · exact or_lt hf0 hf1 gb.1 (by omega)
      exact loop41_ 0 (by omega) (by omega) 0 none s rfl (by decide) (by decide) (fun c _ => rfl) hJ
    · refine wi_ic hc rfl ?_
      refine wi_ri hc rfl (by rw [cm_5]; rfl) ?_
      refine ⟨s, ?_, fun c _ => rfl, hJ⟩
      rw [show fallS A T x (A (13 + x)).toNat = 0 from ?_]
      have key : ∀ n : Nat, fallS A T x n = 0 := by
        intro n
        induction n with
        | zero => rfl
        | succ n ih =>
          unfold fallS
          rw [if_neg, ih]
          unfold fallP
          rw [if_pos (by first | omega | (unfold clP; rw [if_pos (by omega)]; decide))]
          decide
      exact key _
theorem sp_222 {d L t : Nat} {s l : Nat → Int → Int} {A T : Int → Int} (hJ : JM s A T) (hK : KA A T) {k x p many b : Int} (hk : k = clP A T 1 0) (hk0 : 0 ≤ k) (hx : 0 ≤ x ∧ x ≤ 10) (hp : 0 ≤ p ∧ p ≤ 10) (hm : 0 ≤ many ∧ many ≤ 10) (hb0 : 0 ≤ b) (hb1 : b < A 0) : ∃ s1 l1, mm_Ev mm_ct mm_CM (d + 4) 222 [.ref 598, .int (iI k), .int (iI x), .int (iI p), .int (iI many), .int (iI b)] (MX L t s l) (some (.int (iI (fallP A T b x p many))), MX L t s1 l1) ∧ (∀ c, c ≠ 604 ∧ c ≠ 606 → s1 c = s c) ∧ (∀ c, c ≠ 605 → l1 c = l c) ∧ JM s1 A T := by
  have hc : (mm_CM 222).2.2.2.2.2.2.2 = mm_cf cd_222 := by rw [cm_222]; rfl
  refine ev_xsl ?_
  refine ev_to (mx := 6) (by rw [cm_222]; decide) (by rw [cm_222]; rfl) (by show 6 ≤ _; decide) ?_
  show mm_wp _ _ (0, [some (.ref 598), some (.int (iI k)), some (.int (iI x)), some (.int (iI p)), some (.int (iI many)), some (.int (iI b))], [], MX L t s l) (fun res => ∃ s1 l1, res = (some (.int (iI (fallP A T b x p many))), MX L t s1 l1) ∧ (∀ c, c ≠ 604 ∧ c ≠ 606 → s1 c = s c) ∧ (∀ c, c ≠ 605 → l1 c = l c) ∧ JM s1 A T)
  have hV := hK.1
  have g0 := hV.1
  have hc1 := clP_b hV 1 0
  have hc1b := clP_r hV 1 0
  have hf01 := fallP_01 hV (b := b) (sh := x) (pl := p) (many := many) hb0 hb1 hx hp hm
  refine wi_a1 hc rfl rfl ?_
  refine wi_i2 hc rfl rfl ?_
  obtain ⟨s1_, hE1_, hF1_, hM1_, hJ1_⟩ := sp_206 (d := 0) (L := L) (t := t) (l := l) hJ hV (b := b) (by omega) (by omega)
  refine wp_cv (b := 598) (As := [.int (iI b)]) (r := []) hc rfl (by rw [cm_206]; rfl) rfl (Nat.le_of_ble_eq_true rfl) (show 598 < 621 by decide) (by rw [cm_206]; rfl) (ev_mono hE1_ (by omega)) ?_
  show mm_wp _ _ (6, [some (.ref 598), some (.int (iI k)), some (.int (iI x)), some (.int (iI p)), some (.int (iI many)), some (.int (iI b))], [], MX L t s1_ l) _
  refine wi_a1 hc rfl rfl ?_
  refine wi_gr (w := 604) hc rfl rfl (by decide) (Nat.le_of_ble_eq_true rfl) rfl ?_
  refine wi_bi hc rfl rfl ?_
  refine wi_i1 hc rfl rfl ?_
  refine wi_ist (N := 15) hc rfl rfl (by decide) (by decide) (by omega) (by omega) ?_
  obtain ⟨s2_, es2_⟩ : ∃ q, q = up s1_ 604 12 x := ⟨_, rfl⟩
  rw [← es2_]
  refine wi_a1 hc rfl rfl ?_
  refine wi_gr (w := 604) hc rfl rfl (by decide) (Nat.le_of_ble_eq_true rfl) rfl ?_
  refine wi_bi hc rfl rfl ?_
  refine wi_i1 hc rfl rfl ?_
  refine wi_ist (N := 15) hc rfl rfl (by decide) (by decide) (by omega) (by omega) ?_
  obtain ⟨s3_, es3_⟩ : ∃ q, q = up s2_ 604 13 p := ⟨_, rfl⟩
  rw [← es3_]
  refine wi_a1 hc rfl rfl ?_
  refine wi_gr (w := 604) hc rfl rfl (by decide) (Nat.le_of_ble_eq_true rfl) rfl ?_
  refine wi_bi hc rfl rfl ?_
  refine wi_i2 hc rfl rfl ?_
  refine wi_ist (N := 15) hc rfl rfl (by decide) (by decide) (by omega) (by omega) ?_
  obtain ⟨s4_, es4_⟩ : ∃ q, q = up s3_ 604 14 many := ⟨_, rfl⟩
  rw [← es4_]
  refine wi_a1 hc rfl rfl ?_
  refine wi_i1 hc rfl rfl ?_
  have hMR : ∀ j, 0 ≤ j → j < 15 → okNm 1 j → s4_ 604 j = nmF A b x p many j := fun j hj hj2 hj3 => by
    unfold okNm at hj3
    rcases (by omega : j = 12 ∨ j = 13 ∨ j = 14 ∨ j < 6) with q | q | q | q
    · rw [q]; exact ((congrFun (congrFun es4_ _) _).trans (up_k (by omega))).trans (((congrFun (congrFun es3_ _) _).trans (up_k (by omega))).trans ((congrFun (congrFun es2_ _) _).trans (up_e (by omega))))
    · rw [q]; exact ((congrFun (congrFun es4_ _) _).trans (up_k (by omega))).trans ((congrFun (congrFun es3_ _) _).trans (up_e (by omega)))
    · rw [q]; exact (congrFun (congrFun es4_ _) _).trans (up_e (by omega))
    · rw [es4_, up_k (by omega), es3_, up_k (by omega), es2_, up_k (by omega), hM1_ j hj]
      unfold nmF nmA
      (repeat' split) <;> first | rfl | omega
  have hJR : JM s4_ A T := ⟨(((congrFun es4_ 599).trans (up_cc (by omega))).trans (((congrFun es3_ 599).trans (up_cc (by omega))).trans ((congrFun es2_ 599).trans (up_cc (by omega))))).trans hJ1_.1, (((congrFun es4_ 601).trans (up_cc (by omega))).trans (((congrFun es3_ 601).trans (up_cc (by omega))).trans ((congrFun es2_ 601).trans (up_cc (by omega))))).trans hJ1_.2.1, fun v hv hv2 => by
    rcases (by omega : v = 12 ∨ v = 13 ∨ v = 14 ∨ v < 12) with q | q | q | q
    · rw [q, show s4_ 604 12 = _ from ((congrFun (congrFun es4_ _) _).trans (up_k (by omega))).trans (((congrFun (congrFun es3_ _) _).trans (up_k (by omega))).trans ((congrFun (congrFun es2_ _) _).trans (up_e (by omega))))]; omega
    · rw [q, show s4_ 604 13 = _ from ((congrFun (congrFun es4_ _) _).trans (up_k (by omega))).trans ((congrFun (congrFun es3_ _) _).trans (up_e (by omega)))]; omega
    · rw [q, show s4_ 604 14 = _ from (congrFun (congrFun es4_ _) _).trans (up_e (by omega))]; omega
    · rw [es4_, up_k (by omega), es3_, up_k (by omega), es2_, up_k (by omega)]; exact hJ1_.2.2 v hv hv2⟩
  obtain ⟨s5_, l5_, hE5_, hF5_, hG5_, hv5_, ht5_, hJ5_⟩ := sw_203 (d := 0) (L := L) (t := t) (l := l) hJR hV (k := k) (so := 1) (by rw [hk]; exact clP_ok hV (by decide) (by decide) (by omega)) (by omega) (by omega) (by omega)
  refine wp_cv (b := 598) (As := [.int (iI k)]) (r := []) hc rfl (by rw [cm_203]; rfl) rfl (Nat.le_of_ble_eq_true rfl) (show 598 < 621 by decide) (by rw [cm_203]; rfl) (ev_mono hE5_ (by omega)) ?_
  have hv := ht5_ (by decide)
  have hpv : fallP A T b x p many = s5_ 606 0 := by
    unfold fallP
    rw [if_neg (by omega), hv, hk]
    exact congrArg (fun q : (Int → Int) × (Int → Int) => q.2 0) (vmT_congr (clP_ok hV (so := 1) (by decide) (by decide) (by omega)) (fun v hv0 hv1 hv2 => (hMR v hv0 hv1 hv2).symm))
  show mm_wp _ _ (36, [some (.ref 598), some (.int (iI k)), some (.int (iI x)), some (.int (iI p)), some (.int (iI many)), some (.int (iI b))], [], MX L t s5_ l5_) _
  refine wi_a1 hc rfl rfl ?_
  refine wi_gr (w := 606) hc rfl rfl (by decide) (Nat.le_of_ble_eq_true rfl) rfl ?_
  refine wi_ic hc rfl ?_
  refine wi_bld (N := 330) hc rfl rfl (by decide) (by decide) (by omega) (by omega) ?_
  refine wi_rx (by omega) hc rfl (by rw [cm_222]; rfl) ?_
  refine ⟨s5_, l5_, ?_, fun c hc9_ => (hF5_ c (by omega)).trans (((congrFun es4_ c).trans (up_cc (by omega))).trans (((congrFun es3_ c).trans (up_cc (by omega))).trans (((congrFun es2_ c).trans (up_cc (by omega))).trans (hF1_ c (by omega))))), fun c hc9_ => hG5_ c (by omega), hJ5_⟩
  rw [hpv]
theorem sp_223 {d L t : Nat} {s l : Nat → Int → Int} {A T : Int → Int} (hJ : JM s A T) (hK : KA A T) {x : Int} (hx0 : 0 ≤ x) (hx1 : x < 3) : ∃ s1 l1, mm_Ev mm_ct mm_CM (d + 6) 223 [.ref 598, .int (iI x)] (MX L t s l) (some (.int (iI (A (13 + x) - fallF A T x (13 + x)))), MX L t s1 l1) ∧ (∀ c, c ≠ 599 ∧ c ≠ 604 ∧ c ≠ 606 → s1 c = s c) ∧ (∀ c, c ≠ 605 → l1 c = l c) ∧ JM s1 (fallF A T x) T := by
  have hc : (mm_CM 223).2.2.2.2.2.2.2 = mm_cf cd_223 := by rw [cm_223]; rfl
  refine ev_xsl ?_
  refine ev_to (mx := 6) (by rw [cm_223]; decide) (by rw [cm_223]; rfl) (by show 2 ≤ _; decide) ?_
  show mm_wp _ _ (0, [some (.ref 598), some (.int (iI x)), none, none, none, none], [], MX L t s l) (fun res => ∃ s1 l1, res = (some (.int (iI (A (13 + x) - fallF A T x (13 + x)))), MX L t s1 l1) ∧ (∀ c, c ≠ 599 ∧ c ≠ 604 ∧ c ≠ 606 → s1 c = s c) ∧ (∀ c, c ≠ 605 → l1 c = l c) ∧ JM s1 (fallF A T x) T)
  have hV := hK.1
  have hB := hK.2.1
  have hR := hK.2.2.1
  have g0 := hB.1
  have gm := hB.2.1 x hx0 hx1
  have hc1 := clP_b hV 1 0
  refine wi_a1 hc rfl rfl ?_
  refine wi_ic hc rfl ?_
  refine wi_ic hc rfl ?_
  refine wp_cv (b := 598) (As := [.int (iI 1), .int (iI 0)]) (r := []) hc rfl (by rw [cm_204]; rfl) rfl (Nat.le_of_ble_eq_true rfl) (show 598 < 621 by decide) (by rw [cm_204]; rfl) (ev_mono (sp_204 (d := 0) hJ hK.1 ⟨by decide, by decide⟩ ⟨by decide, by decide⟩) (by omega)) ?_
  show mm_wp _ _ (6, [some (.ref 598), some (.int (iI x)), none, none, none, none], [.int (iI (clP A T 1 0))], MX L t s l) _
  refine wi_is1 (L' := [some (.ref 598), some (.int (iI x)), some (.int (iI (clP A T 1 0))), none, none, none]) hc rfl (Nat.le_of_ble_eq_true rfl) rfl ?_
  refine wi_a1 hc rfl rfl ?_
  refine wi_gr (w := 599) hc rfl rfl (by decide) (Nat.le_of_ble_eq_true rfl) rfl ?_
  refine wi_bi hc rfl rfl ?_
  refine wi_i1 hc rfl rfl ?_
  refine wi_add hc rfl ?_
  refine wi_ildv (N := 3642) hc rfl rfl (by decide) (by decide) (by omega) (by omega) (v := A (13 + x)) (congrFun (hJ.1) _) ?_
  refine wi_is1 (L' := [some (.ref 598), some (.int (iI x)), some (.int (iI (clP A T 1 0))), some (.int (iI (A (13 + x)))), none, none]) hc rfl (Nat.le_of_ble_eq_true rfl) rfl ?_
  have join78_ : ∀ (m n : Nat) (E : Int → Int) (g : Int) (s3 l3 : Nat → Int → Int) (q5 : Option Value), E (13 + x) = m → m ≤ n → KA E T → mv A E → trim T x n E = fallF A T x → g + E (13 + x) = A (13 + x) → (∀ c, c ≠ 599 ∧ c ≠ 604 ∧ c ≠ 606 → s3 c = s c) → (∀ c, c ≠ 605 → l3 c = l c) → JM s3 E T → mm_wp (mm_Ev mm_ct mm_CM (d + 5)) 223 (78, [some (.ref 598), some (.int (iI x)), some (.int (iI (clP A T 1 0))), some (.int (iI (A (13 + x)))), some (.int (iI g)), q5], [], MX L t s3 l3) (fun res => ∃ s1 l1, res = (some (.int (iI (A (13 + x) - fallF A T x (13 + x)))), MX L t s1 l1) ∧ (∀ c, c ≠ 599 ∧ c ≠ 604 ∧ c ≠ 606 → s1 c = s c) ∧ (∀ c, c ≠ 605 → l1 c = l c) ∧ JM s1 (fallF A T x) T) := by
    intro m
    induction m using Nat.strongRecOn with
    | ind m ihm =>
    intro n E g s3 l3 q5 hEm hmn hKE hmE htr hgE hF3 hG3 hJ3
    have hwE : E (10 + x) = A (10 + x) := hmE.lo (by omega)
    have hw9 := hR.2.2.2.2.1 x hx0 hx1
    have hE13 := hKE.2.1.2.1 x hx0 hx1
    have hfr := fullN_r hKE.1 hKE.2.1 hx0 hx1 (E (13 + x)).toNat (by omega)
    have hfd : fullP E T x = fullN E T x (E (13 + x)).toNat := rfl
    have h0E : E 0 = A 0 := hmE.lo (by decide)
    refine wi_a1 hc rfl rfl ?_
    refine wi_i1 hc rfl rfl ?_
    obtain ⟨s1_, l1_, hE1_, hF1_, hG1_, hJ1_⟩ := sp_208 (d := 0) (L := L) (t := t) (l := l3) hJ3 hKE.1 (x := x) (by omega) (by omega) (hKE.2.1.2.1 _ (by omega) (by omega)).1 (hKE.2.1.2.1 _ (by omega) (by omega)).2 (fun p p0 p1 => ⟨(hKE.2.1.2.2.1 _ p (by omega) (by omega) p0 p1).1, (hKE.2.1.2.2.1 _ p (by omega) (by omega) p0 p1).2.1⟩)
    refine wp_cv (b := 598) (As := [.int (iI x)]) (r := []) hc rfl (by rw [cm_208]; rfl) rfl (Nat.le_of_ble_eq_true rfl) (show 598 < 621 by decide) (by rw [cm_208]; rfl) (ev_mono hE1_ (by omega)) ?_
    show mm_wp _ _ (83, [some (.ref 598), some (.int (iI x)), some (.int (iI (clP A T 1 0))), some (.int (iI (A (13 + x)))), some (.int (iI g)), q5], [.int (iI (fullP E T x))], MX L t s1_ l1_) _
    refine wi_a1 hc rfl rfl ?_
    refine wi_gr (w := 599) hc rfl rfl (by decide) (Nat.le_of_ble_eq_true rfl) rfl ?_
    refine wi_bi hc rfl rfl ?_
    refine wi_i1 hc rfl rfl ?_
    refine wi_add hc rfl ?_
    refine wi_ildv (N := 3642) hc rfl rfl (by decide) (by decide) (by omega) (by omega) (v := E (10 + x)) (congrFun (hJ1_.1) _) ?_
    refine wi_cle hc rfl ⟨by omega, by omega⟩ ⟨by omega, by omega⟩ (fun h1_ => ?_) (fun h1_ => ?_)
    · refine wi_i2 hc rfl rfl ?_
      refine wi_ri hc rfl (by rw [cm_223]; rfl) ?_
      have hst := trim_stop (T := T) (x := x) (A := E) (by omega) n
      rw [hst] at htr
      subst htr
      refine ⟨s1_, l1_, ?_, fun c hc9_ => (hF1_ c (by omega)).trans (hF3 c (by omega)), fun c hc9_ => (hG1_ c (by omega)).trans (hG3 c (by omega)), hJ1_⟩
      rw [show A (13 + x) - fallF A T x (13 + x) = g by omega]
    · refine wi_a1 hc rfl rfl ?_
      refine wi_i1 hc rfl rfl ?_
      refine wi_a1 hc rfl rfl ?_
      refine wi_gr (w := 599) hc rfl rfl (by decide) (Nat.le_of_ble_eq_true rfl) rfl ?_
      refine wi_bi hc rfl rfl ?_
      refine wi_i1 hc rfl rfl ?_
      refine wi_add hc rfl ?_
      refine wi_ildv (N := 3642) hc rfl rfl (by decide) (by decide) (by omega) (by omega) (v := E (13 + x)) (congrFun (hJ1_.1) _) ?_
      refine wi_ic hc rfl ?_
      refine wi_sub hc rfl ?_
      refine wi_ic hc rfl ?_
      obtain ⟨s2_, hE2_, hF2_, hA2_⟩ := sp_217 (d := 0) (L := L) (t := t) (l := l1_) hJ1_.1 (x := x) (p := (E (13 + x)) - 1) (to := 4) (by omega) (by omega) (by omega) (by omega) (hKE.2.1.2.1 x (by omega) (by omega)).2 (hKE.2.1.2.2.1 x ((E (13 + x)) - 1) (by omega) (by omega) (by omega) (by omega)).1 (by have q1 := (hKE.2.1.2.2.1 x ((E (13 + x)) - 1) (by omega) (by omega) (by omega) (by omega)).2.1; have q2 := hKE.2.1.1; omega)
      refine wp_cv (b := 598) (As := [.int (iI x), .int (iI ((E (13 + x)) - 1)), .int (iI 4)]) (r := []) hc rfl (by rw [cm_217]; rfl) rfl (Nat.le_of_ble_eq_true rfl) (show 598 < 621 by decide) (by rw [cm_217]; rfl) (ev_mono hE2_ (by omega)) ?_
      have hJ2_ : JM s2_ (pullF E x ((E (13 + x)) - 1) 4) T := ⟨hA2_, (hF2_ 601 (by decide)).trans hJ1_.2.1, by rw [hF2_ 604 (by decide)]; exact hJ1_.2.2⟩
      have hK2_ : KA (pullF E x ((E (13 + x)) - 1) 4) T := (mv_pull hKE.2.1 (by omega) (by omega) (by omega) (by omega)).KA hKE (pull_ok hKE.2.1 (by omega) (by omega) (by omega) (by omega) (by omega))
      show mm_wp _ _ (112, [some (.ref 598), some (.int (iI x)), some (.int (iI (clP A T 1 0))), some (.int (iI (A (13 + x)))), some (.int (iI g)), q5], [], MX L t s2_ l1_) _
      refine wi_inc (L' := [some (.ref 598), some (.int (iI x)), some (.int (iI (clP A T 1 0))), some (.int (iI (A (13 + x)))), some (.int (iI (g + 1))), q5]) hc rfl rfl rfl ?_
      refine wi_go hc rfl ?_
      have hpm := pull_many (to := 4) hKE.2.1 hx0 hx1 (p := E (13 + x) - 1) (by omega) (by omega) hx0 hx1
      rw [if_pos rfl] at hpm
      refine ihm (m - 1) (by omega) (n - 1) (pullF E x ((E (13 + x)) - 1) 4) _ s2_ l1_ _ (by rw [hpm]; omega) (by omega) hK2_ (hmE.tr (mv_pull hKE.2.1 hx0 hx1 (by omega) (by omega))) ?_ (by rw [hpm]; omega) (fun c hc9_ => (hF2_ c (by omega)).trans ((hF1_ c (by omega)).trans (hF3 c (by omega)))) (fun c hc9_ => (hG1_ c (by omega)).trans (hG3 c (by omega))) hJ2_
      rw [← htr]
      exact (trim_step (by omega) (by omega)).symm
  refine wi_ic hc rfl ?_
  refine wi_is2 (L' := [some (.ref 598), some (.int (iI x)), some (.int (iI (clP A T 1 0))), some (.int (iI (A (13 + x)))), some (.int (iI 0)), none]) hc rfl (Nat.le_of_ble_eq_true rfl) rfl ?_
  refine wi_ic hc rfl ?_
  refine wi_is2 (L' := [some (.ref 598), some (.int (iI x)), some (.int (iI (clP A T 1 0))), some (.int (iI (A (13 + x)))), some (.int (iI 0)), some (.int (iI 0))]) hc rfl (Nat.le_of_ble_eq_true rfl) rfl ?_
  have loop23_ : ∀ p : Int, p ≤ A (13 + x) → 0 ≤ p → ∀ (C : Int → Int) (g : Int) (s2 l2 : Nat → Int → Int), (∀ c, c ≠ 599 ∧ c ≠ 604 ∧ c ≠ 606 → s2 c = s c) → (∀ c, c ≠ 605 → l2 c = l c) → C = (filF A T x p.toNat).1 → g = (filF A T x p.toNat).2 → JM s2 C T →  mm_wp (mm_Ev mm_ct mm_CM (d + 5)) 223 (23, [some (.ref 598), some (.int (iI x)), some (.int (iI (clP A T 1 0))), some (.int (iI (A (13 + x)))), some (.int (iI g)), some (.int (iI p))], [], MX L t s2 l2) (fun res => ∃ s1 l1, res = (some (.int (iI (A (13 + x) - fallF A T x (13 + x)))), MX L t s1 l1) ∧ (∀ c, c ≠ 599 ∧ c ≠ 604 ∧ c ≠ 606 → s1 c = s c) ∧ (∀ c, c ≠ 605 → l1 c = l c) ∧ JM s1 (fallF A T x) T) := by
    refine up_ind ?_
    intro p hp ih hp0 C g s2 l2 hF hG hC hg hJ2
    obtain ⟨ff, ff1, ff2, ff3, ff4⟩ := filF_ok (T := T) hB hx0 hx1 p.toNat (by omega)
    rw [← hC] at ff ff4
    rw [← hg] at ff1 ff2 ff3 ff4
    have hmC : mv A C := ff.1
    have hKC : KA C T := hmC.KA hK ff.2.1
    have hmC13 := ff.2.1.2.1 x hx0 hx1
    refine wi_i2 hc rfl rfl ?_
    refine wi_i1 hc rfl rfl ?_
    refine wi_cge hc rfl ⟨by omega, by omega⟩ ⟨by omega, by omega⟩ (fun h2_ => ?_) (fun h2_ => ?_)
    · by_cases hcl : clP A T 1 0 < 0
      · have hCA : ∀ n : Nat, filF A T x n = (A, 0) := by
          intro n
          induction n with
          | zero => rfl
          | succ n ih =>
            unfold filF
            rw [if_neg, ih]
            unfold fallP
            rw [if_pos hcl]
            decide
        rw [hCA] at hC hg
        refine join78_ (C (13 + x)).toNat 10 C g s2 l2 _ (by omega) (by omega) hKC hmC ?_ (by omega) hF hG hJ2
        unfold fallF
        rw [hCA, hC]
      · have hpe : p = A (13 + x) := by omega
        refine join78_ (C (13 + x)).toNat 10 C g s2 l2 _ (by omega) (by omega) hKC hmC ?_ (by omega) hF hG hJ2
        unfold fallF
        rw [hC, hpe]
    · refine wi_i1 hc rfl rfl ?_
      refine wi_zlt hc rfl ⟨by omega, by omega⟩ (fun h3_ => ?_) (fun h3_ => ?_)
      · by_cases hcl : clP A T 1 0 < 0
        · have hCA : ∀ n : Nat, filF A T x n = (A, 0) := by
            intro n
            induction n with
            | zero => rfl
            | succ n ih =>
              unfold filF
              rw [if_neg, ih]
              unfold fallP
              rw [if_pos hcl]
              decide
          rw [hCA] at hC hg
          refine join78_ (C (13 + x)).toNat 10 C g s2 l2 _ (by omega) (by omega) hKC hmC ?_ (by omega) hF hG hJ2
          unfold fallF
          rw [hCA, hC]
        · have hpe : p = A (13 + x) := by omega
          refine join78_ (C (13 + x)).toNat 10 C g s2 l2 _ (by omega) (by omega) hKC hmC ?_ (by omega) hF hG hJ2
          unfold fallF
          rw [hC, hpe]
      · refine wi_a1 hc rfl rfl ?_
        refine wi_i1 hc rfl rfl ?_
        refine wi_i1 hc rfl rfl ?_
        refine wi_i2 hc rfl rfl ?_
        refine wi_i1 hc rfl rfl ?_
        refine wi_a1 hc rfl rfl ?_
        refine wi_i1 hc rfl rfl ?_
        refine wi_i2 hc rfl rfl ?_
        refine wi_i2 hc rfl rfl ?_
        refine wi_sub hc rfl ?_
        refine wp_cv (b := 598) (As := [.int (iI x), .int (iI (p - g))]) (r := [.int (iI (A (13 + x))), .int (iI p), .int (iI x), .int (iI (clP A T 1 0)), .ref 598]) hc rfl (by rw [cm_155]; rfl) rfl (Nat.le_of_ble_eq_true rfl) (show 598 < 621 by decide) (by rw [cm_155]; rfl) (ev_mono (sg_155 (d := 0) (hJ2.1) (by omega) (by omega) (by omega) (by omega)) (by omega)) ?_
        show mm_wp _ _ (49, [some (.ref 598), some (.int (iI x)), some (.int (iI (clP A T 1 0))), some (.int (iI (A (13 + x)))), some (.int (iI g)), some (.int (iI p))], [.int (iI (C (16 + 10 * x + (p - g)))), .int (iI (A (13 + x))), .int (iI p), .int (iI x), .int (iI (clP A T 1 0)), .ref 598], MX L t s2 l2) _
        have hfa := fil_at (T := T) hB hx0 hx1 (n := p.toNat) (by omega)
        rw [show ((p.toNat : Nat) : Int) = p by omega, ← hC, ← hg] at hfa
        have gb9 := hB.2.2.1 x p hx0 hx1 (by omega) (by omega)
        have h0C : C 0 = A 0 := hmC.lo (by decide)
        obtain ⟨s3_, l3_, hE3_, hF3_, hG3_, hJ3_⟩ := sp_222 (d := 0) (L := L) (t := t) (l := l2) hJ2 hKC (k := clP A T 1 0) (x := x) (p := p) (many := A (13 + x)) (b := C (16 + 10 * x + (p - g))) (by rw [clP_mv (hmC.lo (by decide))]) (by omega) (by omega) (by omega) (by omega) (by rw [hfa.1]; omega) (by rw [hfa.1, h0C]; omega)
        refine wp_cv (b := 598) (As := [.int (iI (clP A T 1 0)), .int (iI x), .int (iI p), .int (iI (A (13 + x))), .int (iI (C (16 + 10 * x + (p - g))))]) (r := []) hc rfl (by rw [cm_222]; rfl) rfl (Nat.le_of_ble_eq_true rfl) (show 598 < 621 by decide) (by rw [cm_222]; rfl) (ev_mono hE3_ (by omega)) ?_
        have hfm : fallP C T (C (16 + 10 * x + (p - g))) x p (A (13 + x)) = fallP A T (A (16 + 10 * x + p)) x p (A (13 + x)) := by rw [hfa.1]; exact fall_mv hmC hV gb9.1
        rw [hfm]
        have hf01 := fallP_01 hV (b := A (16 + 10 * x + p)) (sh := x) (pl := p) (many := A (13 + x)) (by omega) (by omega) (by omega) (by omega) (by omega)
        show mm_wp _ _ (52, [some (.ref 598), some (.int (iI x)), some (.int (iI (clP A T 1 0))), some (.int (iI (A (13 + x)))), some (.int (iI g)), some (.int (iI p))], [.int (iI (fallP A T (A (16 + 10 * x + p)) x p (A (13 + x))))], MX L t s3_ l3_) _
        refine wi_zne hc rfl ⟨by omega, by omega⟩ (fun h4_ => ?_) (fun h4_ => ?_)
        · refine wi_a1 hc rfl rfl ?_
          refine wi_i1 hc rfl rfl ?_
          refine wi_i2 hc rfl rfl ?_
          refine wi_i2 hc rfl rfl ?_
          refine wi_sub hc rfl ?_
          refine wi_ic hc rfl ?_
          obtain ⟨s4_, hE4_, hF4_, hA4_⟩ := sp_217 (d := 0) (L := L) (t := t) (l := l3_) hJ3_.1 (x := x) (p := p - g) (to := 4) (by omega) (by omega) (by omega) (by omega) (hKC.2.1.2.1 x (by omega) (by omega)).2 (hKC.2.1.2.2.1 x (p - g) (by omega) (by omega) (by omega) (by omega)).1 (by have q1 := (hKC.2.1.2.2.1 x (p - g) (by omega) (by omega) (by omega) (by omega)).2.1; have q2 := hKC.2.1.1; omega)
          refine wp_cv (b := 598) (As := [.int (iI x), .int (iI (p - g)), .int (iI 4)]) (r := []) hc rfl (by rw [cm_217]; rfl) rfl (Nat.le_of_ble_eq_true rfl) (show 598 < 621 by decide) (by rw [cm_217]; rfl) (ev_mono hE4_ (by omega)) ?_
          have hJ4_ : JM s4_ (pullF C x (p - g) 4) T := ⟨hA4_, (hF4_ 601 (by decide)).trans hJ3_.2.1, by rw [hF4_ 604 (by decide)]; exact hJ3_.2.2⟩
          have hK4_ : KA (pullF C x (p - g) 4) T := (mv_pull hKC.2.1 (by omega) (by omega) (by omega) (by omega)).KA hKC (pull_ok hKC.2.1 (by omega) (by omega) (by omega) (by omega) (by omega))
          show mm_wp _ _ (69, [some (.ref 598), some (.int (iI x)), some (.int (iI (clP A T 1 0))), some (.int (iI (A (13 + x)))), some (.int (iI g)), some (.int (iI p))], [], MX L t s4_ l3_) _
          refine wi_inc (L' := [some (.ref 598), some (.int (iI x)), some (.int (iI (clP A T 1 0))), some (.int (iI (A (13 + x)))), some (.int (iI (g + 1))), some (.int (iI p))]) hc rfl rfl rfl ?_
          refine wi_inc (L' := [some (.ref 598), some (.int (iI x)), some (.int (iI (clP A T 1 0))), some (.int (iI (A (13 + x)))), some (.int (iI (g + 1))), some (.int (iI (p + 1)))]) hc rfl rfl rfl ?_
          refine wi_go hc rfl ?_
          refine ih (by omega) (by omega) (pullF C x (p - g) 4) _ s4_ l3_ (fun c hc9_ => (hF4_ c (by omega)).trans ((hF3_ c (by omega)).trans (hF c (by omega)))) (fun c hc9_ => (hG3_ c (by omega)).trans (hG c (by omega))) ?_ ?_ hJ4_
          · rw [show (p + 1).toNat = p.toNat + 1 by omega, filF, if_pos (by rw [show ((p.toNat : Nat) : Int) = p by omega]; omega), ← hC, ← hg, show ((p.toNat : Nat) : Int) = p by omega]
          · rw [show (p + 1).toNat = p.toNat + 1 by omega, filF, if_pos (by rw [show ((p.toNat : Nat) : Int) = p by omega]; omega), ← hg]
        · refine wi_go hc rfl ?_
          refine wi_inc (L' := [some (.ref 598), some (.int (iI x)), some (.int (iI (clP A T 1 0))), some (.int (iI (A (13 + x)))), some (.int (iI g)), some (.int (iI (p + 1)))]) hc rfl rfl rfl ?_
          refine wi_go hc rfl ?_
          refine ih (by omega) (by omega) (C) _ s3_ l3_ (fun c hc9_ => (hF3_ c (by omega)).trans (hF c (by omega))) (fun c hc9_ => (hG3_ c (by omega)).trans (hG c (by omega))) ?_ ?_ hJ3_
          · rw [show (p + 1).toNat = p.toNat + 1 by omega, filF, if_neg (by rw [show ((p.toNat : Nat) : Int) = p by omega]; omega)]; exact hC
          · rw [show (p + 1).toNat = p.toNat + 1 by omega, filF, if_neg (by rw [show ((p.toNat : Nat) : Int) = p by omega]; omega)]; exact hg
  exact loop23_ 0 (by omega) (by omega) A 0 s l (fun c _ => rfl) (fun c _ => rfl) rfl rfl hJ
