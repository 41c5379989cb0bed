/-! REST on both sides. -/
/-- the books of a shelf by places -/
def shF (A : Int → Int) (x : Int) : Int → Int := fun p => A (16 + 10 * x + p)
theorem rwN_s {f : Int → Int} {i : Int} (i0 : 0 ≤ i) : rwN f (i + 1).toNat = orI (rwN f i.toNat) (f i * 2 ^ (4 * i).toNat) := by
  rw [show (i + 1).toNat = i.toNat + 1 by omega, rwN, show ((i.toNat : Nat) : Int) = i by omega]
theorem shS_s {A : Int → Int} {x i : Int} (i0 : 0 ≤ i) : shS A x (i + 1).toNat = if A (46 + 6 * i + 5) = x then orI (shS A x i.toNat) (1 * 2 ^ i.toNat) else shS A x i.toNat := by
  rw [show (i + 1).toNat = i.toNat + 1 by omega, shS, show ((i.toNat : Nat) : Int) = i by omega]
/-- one row of the table as far as book j -/
def rwT (c : Int → Int → Int) (set i : Int) : Nat → Int
  | 0 => 0
  | n + 1 => if set / 2 ^ i.toNat % 2 = 1 ∧ set / 2 ^ n % 2 = 1 ∧ c i n = 1 then orI (rwT c set i n) (1 * 2 ^ n) else rwT c set i n
theorem rwT_nn (c : Int → Int → Int) (set i : Int) : ∀ n : Nat, 0 ≤ rwT c set i n
  | 0 => Int.le_refl 0
  | n + 1 => by
    unfold rwT
    split
    · exact Int.natCast_nonneg _
    · exact rwT_nn c set i n
theorem rwT_lt (c : Int → Int → Int) (set i : Int) : ∀ n : Nat, n ≤ 10 → rwT c set i n < 1024
  | 0, _ => (by decide : (0 : Int) < 1024)
  | n + 1, h => by
    unfold rwT
    have := rwT_lt c set i n (by omega)
    split
    · exact or1_lt (rwT_nn c set i n) this (by omega)
    · exact this
theorem rwT_bit (c : Int → Int → Int) (h01 : ∀ x y, c x y = 0 ∨ c x y = 1) (set i : Int) (b : Nat) : ∀ n : Nat, rwT c set i n / 2 ^ b % 2 = if b < n ∧ set / 2 ^ i.toNat % 2 = 1 ∧ set / 2 ^ b % 2 = 1 then c i b else 0
  | 0 => by
    rw [if_neg (by omega)]
    show (0 : Int) / 2 ^ b % 2 = 0
    rw [Int.zero_ediv]
    rfl
  | n + 1 => by
    unfold rwT
    have ih := rwT_bit c h01 set i b n
    have h := h01 i b
    split
    · rename_i g
      rw [bit_or1 (rwT_nn c set i n), ih]
      by_cases e : b = n
      · rw [if_pos e, if_pos ⟨by omega, g.1, by rw [e]; exact g.2.1⟩, e]; exact g.2.2.symm
      · rw [if_neg e]
        by_cases d : b < n ∧ set / 2 ^ i.toNat % 2 = 1 ∧ set / 2 ^ b % 2 = 1
        · rw [if_pos d, if_pos ⟨by omega, d.2⟩]
        · rw [if_neg d, if_neg (fun q => d ⟨by omega, q.2⟩)]
    · rename_i g
      rw [ih]
      by_cases e : b = n
      · rw [if_neg (by omega)]
        by_cases d : b < n + 1 ∧ set / 2 ^ i.toNat % 2 = 1 ∧ set / 2 ^ b % 2 = 1
        · rw [if_pos d]
          rcases h with h | h
          · exact h.symm
          · exact absurd ⟨d.2.1, by rw [← e]; exact d.2.2, by rw [← e]; exact h⟩ g
        · rw [if_neg d]
      · by_cases d : b < n ∧ set / 2 ^ i.toNat % 2 = 1 ∧ set / 2 ^ b % 2 = 1
        · rw [if_pos d, if_pos ⟨by omega, d.2⟩]
        · rw [if_neg d, if_neg (fun q => d ⟨by omega, q.2⟩)]
theorem rwT_s {c : Int → Int → Int} {set i j : Int} (j0 : 0 ≤ j) : rwT c set i (j + 1).toNat = if set / 2 ^ i.toNat % 2 = 1 ∧ set / 2 ^ j.toNat % 2 = 1 ∧ c i j = 1 then orI (rwT c set i j.toNat) (1 * 2 ^ j.toNat) else rwT c set i j.toNat := by
  rw [show (j + 1).toNat = j.toNat + 1 by omega, rwT, show ((j.toNat : Nat) : Int) = j by omega]
/-- a set of less than 2^n has no books from n on -/
theorem set_bit {set : Int} {n b : Nat} (h0 : 0 ≤ set) (h1 : set < 2 ^ n) (hb : set / 2 ^ b % 2 = 1) : b < n := by
  rcases Nat.lt_or_ge b n with q | q
  · exact q
  · exfalso
    have h2 : (2 : Int) ^ n ≤ 2 ^ b := by
      rw [p2c, p2c]
      exact_mod_cast Nat.pow_le_pow_right (by decide) q
    rw [Int.ediv_eq_zero_of_lt h0 (by omega)] at hb
    exact absurd hb (by decide)
/-- REST -/
def restP (A T : Int → Int) (x : Int) : Int := if 0 ≤ x ∧ x ≤ 2 then rsF (cF A T) (A (13 + x)) (A 1) (shF A x) 501 0 else -1
theorem shS_low (A : Int → Int) (x : Int) : ∀ n : Nat, n ≤ 10 → shS A x n < 2 ^ n
  | 0, _ => (by decide : (0 : Int) < 2 ^ 0)
  | n + 1, h => by
    unfold shS
    have ih := shS_low A x n (by omega)
    have h0 := shS_nn A x n
    have h2 : (2 : Int) ^ n < 2 ^ (n + 1) := by
      rw [p2c, p2c]
      exact_mod_cast Nat.pow_lt_pow_right (by decide) (by omega)
    split
    · have e : orI (shS A x n) (1 * 2 ^ n) = (((shS A x n).toNat ||| 2 ^ n : Nat) : Int) := by
        unfold orI
        rw [Int.one_mul, p2c, Int.toNat_natCast]
      have : (shS A x n).toNat ||| 2 ^ n < 2 ^ (n + 1) := Nat.or_lt_two_pow (by
        rw [p2c] at ih
        have : (2 : Nat) ^ n < 2 ^ (n + 1) := Nat.pow_lt_pow_right (by decide) (by omega)
        omega) (Nat.pow_lt_pow_right (by decide) (by omega))
      rw [e, p2c]
      exact_mod_cast this
    · omega
theorem sp_76 {d L t : Nat} {s l : Nat → Int → Int} {A T : Int → Int} (hJ : JC s A T) (hK : KA A T) {x : Int} (x0 : 0 ≤ x) (x1 : x < 3) : mm_Ev mm_ct mm_CM (d + 1) 76 [.ref 2, .int (iI x)] (MX L t s l) (some (.long (lI (rwE (shF A x) (A (13 + x))))), MX L t s l) := by
  have hc : (mm_CM 76).2.2.2.2.2.2.2 = mm_cf cd_76 := by rw [cm_76]; rfl
  refine ev_of (mx := 5) (by rw [cm_76]; decide) (by rw [cm_76]; rfl) (by show 2 ≤ _; decide) ?_
  show mm_wp _ _ (0, [some (.ref 2), some (.int (iI x)), none, none, none], [], MX L t s l) (fun r => r = (some (.long (lI (rwE (shF A x) (A (13 + x))))), MX L t s l))
  have hV := hK.1
  have hB := hK.2.1
  have g0 := hB.1
  have gm := hB.2.1 x x0 x1
  refine wl_ic (z := 0) hc ⟨_, rfl, rfl⟩ ?_
  refine wi_ls1 (L' := [some (.ref 2), some (.int (iI x)), some (.long (lI 0)), none, none]) hc rfl (Nat.le_of_ble_eq_true rfl) rfl ?_
  refine wi_ic hc rfl ?_
  refine wi_is2 (L' := [some (.ref 2), some (.int (iI x)), some (.long (lI 0)), none, some (.int (iI 0))]) hc rfl (Nat.le_of_ble_eq_true rfl) rfl ?_
  have loop5_ : ∀ i : Int, i ≤ A (13 + x) → 0 ≤ i → mm_wp (mm_Ev mm_ct mm_CM d) 76 (5, [some (.ref 2), some (.int (iI x)), some (.long (lI (rwN (shF A x) i.toNat))), none, some (.int (iI i))], [], MX L t s l) (fun r => r = (some (.long (lI (rwE (shF A x) (A (13 + x))))), MX L t s l)) := by
    refine up_ind ?_
    intro i hi9 ih i0
    have hnn := rwN_nn (shF A x) i.toNat
    refine wi_i2 hc rfl rfl ?_
    refine wi_a1 hc rfl rfl ?_
    refine wi_gr (w := 7) hc rfl rfl (by decide) (Nat.le_of_ble_eq_true rfl) rfl ?_
    refine wi_i1 hc rfl rfl ?_
    refine wi_ildv (N := 3) hc rfl rfl (by decide) (by decide) (by omega) (by omega) (v := A (13 + x)) (lb_many hJ.1 (by omega) (by omega)) ?_
    refine wi_cge hc rfl ⟨by omega, by omega⟩ ⟨by omega, by omega⟩ (fun h1_ => ?_) (fun h1_ => ?_)
    · refine wi_l1 hc rfl rfl ?_
      refine wi_rl hc rfl (by rw [cm_76]; rfl) ?_
      rw [show i = A (13 + x) by omega]
      rfl
    · have gb := hB.2.2.1 x i x0 x1 i0 (by omega)
      refine wi_l1 hc rfl rfl ?_
      refine wi_a1 hc rfl rfl ?_
      refine wi_gr (w := 3) hc rfl rfl (by decide) (Nat.le_of_ble_eq_true rfl) rfl ?_
      refine wi_i1 hc rfl rfl ?_
      refine wi_ald (w := 4 + x.toNat) (N := 3) hc rfl (Nat.le_of_ble_eq_true rfl) (Nat.le_of_ble_eq_true rfl) (by decide) rfl (by decide) (by omega) (by omega) (sh_row3 (by omega) (by omega)) ?_
      refine wi_i2 hc rfl rfl ?_
      refine wi_ildv (N := 10) hc rfl (sh_rows (by omega) (by omega)) (by omega) (by decide) (by omega) (by omega) (v := A (16 + 10 * x + i)) (lb_row hJ.1 (by omega) (by omega) (by omega) (by omega) (by omega)) ?_
      refine wl_i2l hc rfl (rI_of (by omega) (by omega)) ?_
      refine wi_ic hc rfl ?_
      refine wi_i2 hc rfl rfl ?_
      refine wi_mul hc rfl ?_
      have hm9 : 0 ≤ A (16 + 10 * x + i) * (2 ^ (4 * i).toNat) := Int.mul_nonneg gb.1 (by rw [p2c]; exact Int.natCast_nonneg _)
      refine wl_shl (2 ^ (4 * i).toNat) rfl hc rfl (by omega) (by omega) ?_
      refine wl_or hc rfl (by omega) (by omega) ?_
      refine wi_ls1 (L' := [some (.ref 2), some (.int (iI x)), some (.long (lI (orI (rwN (shF A x) i.toNat) ((A (16 + 10 * x + i)) * (2 ^ (4 * i).toNat))))), none, some (.int (iI i))]) hc rfl (Nat.le_of_ble_eq_true rfl) rfl ?_
      refine wi_inc (L' := [some (.ref 2), some (.int (iI x)), some (.long (lI (orI (rwN (shF A x) i.toNat) ((A (16 + 10 * x + i)) * (2 ^ (4 * i).toNat))))), none, some (.int (iI (i + 1)))]) hc rfl rfl rfl ?_
      refine wi_go hc rfl ?_
      have e9 := rwN_s (f := shF A x) i0
      have e8 : orI (rwN (shF A x) i.toNat) ((A (16 + 10 * x + i)) * (2 ^ (4 * i).toNat)) = rwN (shF A x) (i + 1).toNat := e9.symm
      rw [e8]
      exact ih (by omega) (by omega)
  exact loop5_ 0 (by omega) (by omega)
theorem rwT_no {c : Int → Int → Int} {set i : Int} (h : ¬ set / 2 ^ i.toNat % 2 = 1) : ∀ n m : Nat, rwT c set i n = rwT c set i m := by
  have key : ∀ n : Nat, rwT c set i n = 0 := by
    intro n
    induction n with
    | zero => rfl
    | succ n ih => rw [rwT, if_neg (fun q => h q.1), ih]
  intro n m
  rw [key n, key m]
theorem sp_16 {d L t : Nat} {s l : Nat → Int → Int} {A T : Int → Int} (hJ : JC s A T) (hK : KA A T) {set : Int} (hs0 : 0 ≤ set) (hs1 : set < 2 ^ (A 0).toNat) : ∃ s1, mm_Ev mm_ct mm_CM (d + 5) 16 [.ref 590, .ref 1, .ref 577, .int (iI set)] (MX L t s l) (none, MX L t s1 l) ∧ (∀ c, c ≠ 578 ∧ c ≠ 579 ∧ c ≠ 592 → s1 c = s c) ∧ JC s1 A T ∧ CHc s1 (cF A T) set := by
  have hc : (mm_CM 16).2.2.2.2.2.2.2 = mm_cf cd_16 := by rw [cm_16]; rfl
  refine ev_xs ?_
  refine ev_to (mx := 7) (by rw [cm_16]; decide) (by rw [cm_16]; rfl) (by show 4 ≤ _; decide) ?_
  show mm_wp _ _ (0, [some (.ref 590), some (.ref 1), some (.ref 577), some (.int (iI set)), none, none, none], [], MX L t s l) (fun res => ∃ s1, res = (none, MX L t s1 l) ∧ (∀ c, c ≠ 578 ∧ c ≠ 579 ∧ c ≠ 592 → s1 c = s c) ∧ JC s1 A T ∧ CHc s1 (cF A T) set)
  have hV := hK.1
  have hB := hK.2.1
  have g0 := hB.1
  have hn9 := needP_r hV
  have hpw := pw_10 g0.1 g0.2
  refine wi_a1 hc rfl rfl ?_
  refine wp_cv (b := 1) (As := []) (r := []) hc rfl (by rw [cm_14]; rfl) rfl (Nat.le_of_ble_eq_true rfl) (show 1 < 621 by decide) (by rw [cm_14]; rfl) (ev_mono (sp_14 (d := 0) hJ hK.1) (by omega)) ?_
  show mm_wp _ _ (4, [some (.ref 590), some (.ref 1), some (.ref 577), some (.int (iI set)), none, none, none], [.int (iI (needP A T))], MX L t s l) _
  refine wi_is2 (L' := [some (.ref 590), some (.ref 1), some (.ref 577), some (.int (iI set)), some (.int (iI (needP A T))), none, none]) hc rfl (Nat.le_of_ble_eq_true rfl) rfl ?_
  refine wi_ic hc rfl ?_
  refine wi_is2 (L' := [some (.ref 590), some (.ref 1), some (.ref 577), some (.int (iI set)), some (.int (iI (needP A T))), some (.int (iI 0)), none]) hc rfl (Nat.le_of_ble_eq_true rfl) rfl ?_
  have loop9_ : ∀ i : Int, i ≤ 10 → 0 ≤ i → ∀ (o2 : Option Value) (s2 : Nat → Int → Int), (∀ c, c ≠ 578 ∧ c ≠ 579 ∧ c ≠ 592 → s2 c = s c) → JC s2 A T → (∀ x, 0 ≤ x → x < i → s2 592 x = rwT (cF A T) set x 10) → mm_wp (mm_Ev mm_ct mm_CM (d + 4)) 16 (9, [some (.ref 590), some (.ref 1), some (.ref 577), some (.int (iI set)), some (.int (iI (needP A T))), some (.int (iI i)), o2], [], MX L t s2 l) (fun res => ∃ s1, res = (none, MX L t s1 l) ∧ (∀ c, c ≠ 578 ∧ c ≠ 579 ∧ c ≠ 592 → s1 c = s c) ∧ JC s1 A T ∧ CHc s1 (cF A T) set) := by
    refine up_ind ?_
    intro i hi9 ih i0 o2 s2 hF2 hJ2 hT2
    refine wi_i2 hc rfl rfl ?_
    refine wi_bi hc rfl rfl ?_
    refine wi_cge hc rfl ⟨by omega, by omega⟩ ⟨by decide, by decide⟩ (fun h1_ => ?_) (fun h1_ => ?_)
    · refine wi_rv hc rfl (by rw [cm_16]; rfl) ?_
      exact ⟨s2, rfl, hF2, hJ2, fun x x0 x1 => ⟨by rw [hT2 x x0 (by omega)]; exact ⟨rwT_nn _ _ _ _, rwT_lt _ _ _ _ (by decide)⟩, fun y y0 y1 => by
        rw [hT2 x x0 (by omega), rwT_bit _ (cF_01 A T) set x y.toNat 10, show ((y.toNat : Nat) : Int) = y by omega]
        by_cases q : set / 2 ^ x.toNat % 2 = 1 ∧ set / 2 ^ y.toNat % 2 = 1
        · rw [if_pos ⟨by omega, q⟩, if_pos q]
        · rw [if_neg (fun z => q z.2), if_neg q]⟩⟩
    · refine wi_a1 hc rfl rfl ?_
      refine wi_gr (w := 592) hc rfl rfl (by decide) (Nat.le_of_ble_eq_true rfl) rfl ?_
      refine wi_i2 hc rfl rfl ?_
      refine wi_ic hc rfl ?_
      refine wi_ist (N := 10) hc rfl rfl (by decide) (by decide) (by omega) (by omega) ?_
      obtain ⟨s1_, es1_⟩ : ∃ q, q = up s2 592 i 0 := ⟨_, rfl⟩
      rw [← es1_]
      refine wi_ic hc rfl ?_
      refine wi_is2 (L' := [some (.ref 590), some (.ref 1), some (.ref 577), some (.int (iI set)), some (.int (iI (needP A T))), some (.int (iI i)), some (.int (iI 0))]) hc rfl (Nat.le_of_ble_eq_true rfl) rfl ?_
      have loop27_ : ∀ j : Int, j ≤ 10 → 0 ≤ j → ∀ s3 : Nat → Int → Int, (∀ c, c ≠ 578 ∧ c ≠ 579 ∧ c ≠ 592 → s3 c = s c) → JC s3 A T → (∀ x, 0 ≤ x → x < i → s3 592 x = rwT (cF A T) set x 10) → s3 592 i = rwT (cF A T) set i j.toNat → mm_wp (mm_Ev mm_ct mm_CM (d + 4)) 16 (27, [some (.ref 590), some (.ref 1), some (.ref 577), some (.int (iI set)), some (.int (iI (needP A T))), some (.int (iI i)), some (.int (iI j))], [], MX L t s3 l) (fun res => ∃ s1, res = (none, MX L t s1 l) ∧ (∀ c, c ≠ 578 ∧ c ≠ 579 ∧ c ≠ 592 → s1 c = s c) ∧ JC s1 A T ∧ CHc s1 (cF A T) set) := by
        refine up_ind ?_
        intro j hj9 ih3 j0 s3 hF3 hJ3 hT3 hR3
        have hrn := rwT_nn (cF A T) set i j.toNat
        have hrl := rwT_lt (cF A T) set i j.toNat (by omega)
        refine wi_i2 hc rfl rfl ?_
        refine wi_bi hc rfl rfl ?_
        refine wi_cge hc rfl ⟨by omega, by omega⟩ ⟨by decide, by decide⟩ (fun h2_ => ?_) (fun h2_ => ?_)
        · refine wi_inc (L' := [some (.ref 590), some (.ref 1), some (.ref 577), some (.int (iI set)), some (.int (iI (needP A T))), some (.int (iI (i + 1))), some (.int (iI j))]) hc rfl rfl rfl ?_
          refine wi_go hc rfl ?_
          have e9 : s3 592 i = rwT (cF A T) set i 10 := by
            first
            | (rw [hR3, show j.toNat = 10 by omega])
            | (rw [hR3]; exact rwT_no (by omega) _ _)
          exact ih (by omega) (by omega) _ s3 hF3 hJ3 (fun x x0 x1 => by
            by_cases q : x = i
            · rw [q]; exact e9
            · exact hT3 x x0 (by omega))
        · refine wi_i1 hc rfl rfl ?_
          refine wi_i2 hc rfl rfl ?_
          refine wp_cs (As := [.int (iI set), .int (iI i)]) (r := []) hc rfl (by rw [cm_128]; rfl) rfl (Nat.le_of_ble_eq_true rfl) (ev_mono (sp_128 (d := 0) (rI_of (by omega) (by omega)) (by omega) (by omega) (by omega)) (by omega)) ?_
          show mm_wp _ _ (40, [some (.ref 590), some (.ref 1), some (.ref 577), some (.int (iI set)), some (.int (iI (needP A T))), some (.int (iI i)), some (.int (iI j))], [.int (iI (set / 2 ^ i.toNat % 2))], MX L t s3 l) _
          refine wi_zeq hc rfl ⟨by omega, by omega⟩ (fun h3_ => ?_) (fun h3_ => ?_)
          · refine wi_inc (L' := [some (.ref 590), some (.ref 1), some (.ref 577), some (.int (iI set)), some (.int (iI (needP A T))), some (.int (iI (i + 1))), some (.int (iI j))]) hc rfl rfl rfl ?_
            refine wi_go hc rfl ?_
            have e9 : s3 592 i = rwT (cF A T) set i 10 := by
              first
              | (rw [hR3, show j.toNat = 10 by omega])
              | (rw [hR3]; exact rwT_no (by omega) _ _)
            exact ih (by omega) (by omega) _ s3 hF3 hJ3 (fun x x0 x1 => by
              by_cases q : x = i
              · rw [q]; exact e9
              · exact hT3 x x0 (by omega))
          · refine wi_i2 hc rfl rfl ?_
            refine wi_i2 hc rfl rfl ?_
            refine wi_ceq hc rfl ⟨by omega, by omega⟩ ⟨by omega, by omega⟩ (fun h4_ => ?_) (fun h4_ => ?_)
            · refine wi_inc (L' := [some (.ref 590), some (.ref 1), some (.ref 577), some (.int (iI set)), some (.int (iI (needP A T))), some (.int (iI i)), some (.int (iI (j + 1)))]) hc rfl rfl rfl ?_
              refine wi_go hc rfl ?_
              exact ih3 (by omega) (by omega) s3 hF3 hJ3 hT3 (by rw [hR3, rwT_s j0, if_neg (by
                intro q
                first
                | omega
                | (have q3 := q.2.2; unfold cF at q3; rw [if_pos (by omega)] at q3; omega))])
            · refine wi_i1 hc rfl rfl ?_
              refine wi_i2 hc rfl rfl ?_
              refine wp_cs (As := [.int (iI set), .int (iI j)]) (r := []) hc rfl (by rw [cm_128]; rfl) rfl (Nat.le_of_ble_eq_true rfl) (ev_mono (sp_128 (d := 0) (rI_of (by omega) (by omega)) (by omega) (by omega) (by omega)) (by omega)) ?_
              show mm_wp _ _ (56, [some (.ref 590), some (.ref 1), some (.ref 577), some (.int (iI set)), some (.int (iI (needP A T))), some (.int (iI i)), some (.int (iI j))], [.int (iI (set / 2 ^ j.toNat % 2))], MX L t s3 l) _
              refine wi_zeq hc rfl ⟨by omega, by omega⟩ (fun h5_ => ?_) (fun h5_ => ?_)
              · refine wi_inc (L' := [some (.ref 590), some (.ref 1), some (.ref 577), some (.int (iI set)), some (.int (iI (needP A T))), some (.int (iI i)), some (.int (iI (j + 1)))]) hc rfl rfl rfl ?_
                refine wi_go hc rfl ?_
                exact ih3 (by omega) (by omega) s3 hF3 hJ3 hT3 (by rw [hR3, rwT_s j0, if_neg (by
                  intro q
                  first
                  | omega
                  | (have q3 := q.2.2; unfold cF at q3; rw [if_pos (by omega)] at q3; omega))])
              · refine wi_a1 hc rfl rfl ?_
                refine wi_a1 hc rfl rfl ?_
                refine wi_i2 hc rfl rfl ?_
                refine wi_i2 hc rfl rfl ?_
                have b1 := set_bit hs0 hs1 (b := i.toNat) (by omega)
                have b2 := set_bit hs0 hs1 (b := j.toNat) (by omega)
                have gx := hV.2.2.2.2.2.1 i i0 (by omega)
                have gy := hV.2.2.2.2.2.1 j j0 (by omega)
                obtain ⟨v1, hv1⟩ : ∃ q, q = pushP A T (A (46 + 6 * i + 4)) i j 1 := ⟨_, rfl⟩
                obtain ⟨v2, hv2⟩ : ∃ q, q = pushP A T (A (46 + 6 * j + 4)) j i 0 := ⟨_, rfl⟩
                have h01 : v1 = 0 ∨ v1 = 1 := by rw [hv1]; exact pushP_01 hV i0 (by omega) j0 (by omega) (Or.inr rfl)
                have h02 : v2 = 0 ∨ v2 = 1 := by rw [hv2]; exact pushP_01 hV j0 (by omega) i0 (by omega) (Or.inl rfl)
                obtain ⟨s2_, hE2_, hF2_, hJ2_⟩ := sp_2 (d := 0) (L := L) (t := t) (l := l) hJ3 hV (x := i) (y := j) (by omega) (by omega) (by omega) (by omega)
                refine wp_cv (b := 577) (As := [.ref 1, .int (iI i), .int (iI j)]) (r := []) hc rfl (by rw [cm_2]; rfl) rfl (Nat.le_of_ble_eq_true rfl) (show 577 < 621 by decide) (by rw [cm_2]; rfl) (ev_mono hE2_ (by omega)) ?_
                rw [← hv1, ← hv2]
                have hpop := pop12 h01 h02
                show mm_wp _ _ (68, [some (.ref 590), some (.ref 1), some (.ref 577), some (.int (iI set)), some (.int (iI (needP A T))), some (.int (iI i)), some (.int (iI j))], [.int (iI (v1 + 2 * v2))], MX L t s2_ l) _
                refine wp_cs (As := [.int (iI (v1 + 2 * v2))]) (r := []) hc rfl (by rw [cm_288]; rfl) rfl (Nat.le_of_ble_eq_true rfl) (ev_mono (sp_288 (d := 0) (by omega) (by omega)) (by omega)) ?_
                show mm_wp _ _ (71, [some (.ref 590), some (.ref 1), some (.ref 577), some (.int (iI set)), some (.int (iI (needP A T))), some (.int (iI i)), some (.int (iI j))], [.int (iI (popI (v1 + 2 * v2)))], MX L t s2_ l) _
                refine wi_i2 hc rfl rfl ?_
                refine wi_clt hc rfl ⟨by omega, by omega⟩ ⟨by omega, by omega⟩ (fun h6_ => ?_) (fun h6_ => ?_)
                · refine wi_inc (L' := [some (.ref 590), some (.ref 1), some (.ref 577), some (.int (iI set)), some (.int (iI (needP A T))), some (.int (iI i)), some (.int (iI (j + 1)))]) hc rfl rfl rfl ?_
                  refine wi_go hc rfl ?_
                  have hch : ¬ cF A T i j = 1 := by
                    unfold cF
                    rw [if_neg (by omega)]
                    unfold chgI
                    rw [bI_f (by omega)]
                    decide
                  exact ih3 (by omega) (by omega) s2_ (fun c hc9_ => (hF2_ c (by omega)).trans (hF3 c (by omega))) hJ2_ (fun x x0 x1 => (congrFun (hF2_ 592 (by decide)) _).trans (hT3 x x0 x1)) ((congrFun (hF2_ 592 (by decide)) _).trans (by rw [hR3, rwT_s j0, if_neg (fun q => hch q.2.2)]))
                · refine wi_a1 hc rfl rfl ?_
                  refine wi_gr (w := 592) hc rfl rfl (by decide) (Nat.le_of_ble_eq_true rfl) rfl ?_
                  refine wi_i2 hc rfl rfl ?_
                  refine wi_dup2 hc rfl ?_
                  refine wi_ildv (N := 10) hc rfl rfl (by decide) (by decide) (by omega) (by omega) (v := rwT (cF A T) set i j.toNat) ((congrFun (hF2_ 592 (by decide)) _).trans hR3) ?_
                  refine wi_ic hc rfl ?_
                  refine wi_i2 hc rfl rfl ?_
                  refine wi_shl (2 ^ j.toNat) rfl hc rfl (by omega) (by omega) ?_
                  have m9 : (0 : Int) ≤ 2 ^ j.toNat := by rw [p2c]; exact Int.natCast_nonneg _
                  refine wi_or hc rfl (by omega) (by omega) ?_
                  refine wi_ist (N := 10) hc rfl rfl (by decide) (by decide) (by omega) (by omega) ?_
                  obtain ⟨s3_, es3_⟩ : ∃ q, q = up s2_ 592 i (orI (rwT (cF A T) set i j.toNat) (1 * (2 ^ j.toNat))) := ⟨_, rfl⟩
                  rw [← es3_]
                  refine wi_inc (L' := [some (.ref 590), some (.ref 1), some (.ref 577), some (.int (iI set)), some (.int (iI (needP A T))), some (.int (iI i)), some (.int (iI (j + 1)))]) hc rfl rfl rfl ?_
                  refine wi_go hc rfl ?_
                  have hch : cF A T i j = 1 := by
                    unfold cF
                    rw [if_neg (by omega)]
                    unfold chgI
                    exact bI_t (by omega)
                  have hJ9 : JC s3_ A T := (JC.of hJ2_ hV (fun e h1_ h2_ => (congrFun es3_ e).trans (up_cc (by omega))) ((congrFun es3_ 578).trans (up_cc (by decide))))
                  exact ih3 (by omega) (by omega) s3_ (fun c hc9_ => ((congrFun es3_ c).trans (up_cc (by omega))).trans ((hF2_ c (by omega)).trans (hF3 c (by omega)))) hJ9 (fun x x0 x1 => (congrFun (congrFun es3_ _) _).trans ((up_k (by omega)).trans ((congrFun (hF2_ 592 (by decide)) _).trans (hT3 x x0 x1)))) (by rw [es3_, up_at, rwT_s j0, if_pos ⟨by omega, by omega, hch⟩])
      have hJ9 : JC s1_ A T := (JC.of hJ2 hV (fun e h1_ h2_ => (congrFun es1_ e).trans (up_cc (by omega))) ((congrFun es1_ 578).trans (up_cc (by decide))))
      exact loop27_ 0 (by omega) (by omega) s1_ (fun c hc9_ => ((congrFun es1_ c).trans (up_cc (by omega))).trans (hF2 c (by omega))) hJ9 (fun x x0 x1 => (congrFun (congrFun es1_ _) _).trans ((up_k (by omega)).trans (hT2 x x0 x1))) (by rw [es1_, up_at]; rfl)
  exact loop9_ 0 (by omega) (by omega) _ s (fun c _ => rfl) hJ (fun x x0 x1 => by omega)
theorem sp_141 {d L t : Nat} {s l : Nat → Int → Int} {A T : Int → Int} (hJ : JC s A T) (hK : KA A T) {x : Int} (x0 : 0 ≤ x) (x1 : x < 3) : ∃ s1, mm_Ev mm_ct mm_CM (d + 6) 141 [.ref 0, .int (iI x)] (MX L t s l) (none, MX L t s1 l) ∧ (∀ c, c ≠ 578 ∧ c ≠ 579 ∧ c ≠ 592 → s1 c = s c) ∧ JC s1 A T ∧ CHc s1 (cF A T) (shS A x (A 0).toNat) := by
  have hc : (mm_CM 141).2.2.2.2.2.2.2 = mm_cf cd_141 := by rw [cm_141]; rfl
  refine ev_xs ?_
  refine ev_to (mx := 4) (by rw [cm_141]; decide) (by rw [cm_141]; rfl) (by show 2 ≤ _; decide) ?_
  show mm_wp _ _ (0, [some (.ref 0), some (.int (iI x)), none, none], [], MX L t s l) (fun res => ∃ s1, res = (none, MX L t s1 l) ∧ (∀ c, c ≠ 578 ∧ c ≠ 579 ∧ c ≠ 592 → s1 c = s c) ∧ JC s1 A T ∧ CHc s1 (cF A T) (shS A x (A 0).toNat))
  have hV := hK.1
  have hB := hK.2.1
  have g0 := hB.1
  refine wi_ic hc rfl ?_
  refine wi_is1 (L' := [some (.ref 0), some (.int (iI x)), some (.int (iI 0)), none]) hc rfl (Nat.le_of_ble_eq_true rfl) rfl ?_
  refine wi_ic hc rfl ?_
  refine wi_is1 (L' := [some (.ref 0), some (.int (iI x)), some (.int (iI 0)), some (.int (iI 0))]) hc rfl (Nat.le_of_ble_eq_true rfl) rfl ?_
  have loop4_ : ∀ i : Int, i ≤ A 0 → 0 ≤ i → mm_wp (mm_Ev mm_ct mm_CM (d + 5)) 141 (4, [some (.ref 0), some (.int (iI x)), some (.int (iI (shS A x i.toNat))), some (.int (iI i))], [], MX L t s l) (fun res => ∃ s1, res = (none, MX L t s1 l) ∧ (∀ c, c ≠ 578 ∧ c ≠ 579 ∧ c ≠ 592 → s1 c = s c) ∧ JC s1 A T ∧ CHc s1 (cF A T) (shS A x (A 0).toNat)) := by
    refine up_ind ?_
    intro i hi9 ih i0
    have q0 := shS_nn A x i.toNat
    have q1 := shS_r A x i.toNat (by omega)
    refine wi_i1 hc rfl rfl ?_
    refine wi_a1 hc rfl rfl ?_
    refine wi_gr (w := 1) hc rfl rfl (by decide) (Nat.le_of_ble_eq_true rfl) rfl ?_
    refine wi_gfv (kz := 8) rfl hc rfl rfl (by decide) (Nat.le_of_ble_eq_true rfl) rfl (v := A 0) (lb_books hJ.1) ?_
    refine wi_cge hc rfl ⟨by omega, by omega⟩ ⟨by omega, by omega⟩ (fun h1_ => ?_) (fun h1_ => ?_)
    · have e8 : i = A 0 := by omega
      have q2 := shS_low A x i.toNat (by omega)
      rw [e8] at q0 q2
      rw [e8]
      skip
      refine wi_a1 hc rfl rfl ?_
      refine wi_gr (w := 590) hc rfl rfl (by decide) (Nat.le_of_ble_eq_true rfl) rfl ?_
      refine wi_a1 hc rfl rfl ?_
      refine wi_gr (w := 1) hc rfl rfl (by decide) (Nat.le_of_ble_eq_true rfl) rfl ?_
      refine wi_a1 hc rfl rfl ?_
      refine wi_gr (w := 577) hc rfl rfl (by decide) (Nat.le_of_ble_eq_true rfl) rfl ?_
      refine wi_i1 hc rfl rfl ?_
      obtain ⟨s1_, hE1_, hF1_, hJ1_, hC1_⟩ := sp_16 (d := 0) (L := L) (t := t) (l := l) hJ hK (set := shS A x (A 0).toNat) (by omega) (by omega)
      refine wp_cv (b := 590) (As := [.ref 1, .ref 577, .int (iI (shS A x (A 0).toNat))]) (r := []) hc rfl (by rw [cm_16]; rfl) rfl (Nat.le_of_ble_eq_true rfl) (show 590 < 621 by decide) (by rw [cm_16]; rfl) (ev_mono hE1_ (by omega)) ?_
      show mm_wp _ _ (59, [some (.ref 0), some (.int (iI x)), some (.int (iI (shS A x (A 0).toNat))), some (.int (iI (A 0)))], [], MX L t s1_ l) _
      refine wi_rv hc rfl (by rw [cm_141]; rfl) ?_
      exact ⟨s1_, rfl, fun c hc9_ => hF1_ c (by omega), hJ1_, hC1_⟩
    · have gw := (hB.2.2.2.2 i i0 (by omega)).1
      refine wi_a1 hc rfl rfl ?_
      refine wi_gr (w := 1) hc rfl rfl (by decide) (Nat.le_of_ble_eq_true rfl) rfl ?_
      refine wi_gr (w := 2) hc rfl rfl (by decide) (Nat.le_of_ble_eq_true rfl) rfl ?_
      refine wi_gr (w := 8) hc rfl rfl (by decide) (Nat.le_of_ble_eq_true rfl) rfl ?_
      refine wi_i1 hc rfl rfl ?_
      refine wi_ildv (N := 10) hc rfl rfl (by decide) (by decide) (by omega) (by omega) (v := A (46 + 6 * i + 5)) (lb_where hJ.1 (by omega) (by omega) (by omega)) ?_
      refine wi_i1 hc rfl rfl ?_
      refine wi_cne hc rfl ⟨by omega, by omega⟩ ⟨by omega, by omega⟩ (fun h2_ => ?_) (fun h2_ => ?_)
      · refine wi_inc (L' := [some (.ref 0), some (.int (iI x)), some (.int (iI (shS A x i.toNat))), some (.int (iI (i + 1)))]) hc rfl rfl rfl ?_
        refine wi_go hc rfl ?_
        have e9 : shS A x i.toNat = shS A x (i + 1).toNat := by rw [shS_s i0, if_neg (by omega)]
        rw [e9]
        exact ih (by omega) (by omega)
      · have m9 : 0 ≤ 1 * (2 : Int) ^ i.toNat := by rw [Int.one_mul, p2c]; exact Int.natCast_nonneg _
        refine wi_i1 hc rfl rfl ?_
        refine wi_ic hc rfl ?_
        refine wi_i1 hc rfl rfl ?_
        refine wi_shl (2 ^ i.toNat) rfl hc rfl (by omega) (by omega) ?_
        refine wi_or hc rfl (by omega) (by omega) ?_
        refine wi_is1 (L' := [some (.ref 0), some (.int (iI x)), some (.int (iI (orI (shS A x i.toNat) (1 * (2 ^ i.toNat))))), some (.int (iI i))]) hc rfl (Nat.le_of_ble_eq_true rfl) rfl ?_
        refine wi_inc (L' := [some (.ref 0), some (.int (iI x)), some (.int (iI (orI (shS A x i.toNat) (1 * (2 ^ i.toNat))))), some (.int (iI (i + 1)))]) hc rfl rfl rfl ?_
        refine wi_go hc rfl ?_
        have e9 : orI (shS A x i.toNat) (1 * (2 ^ i.toNat)) = shS A x (i + 1).toNat := by rw [shS_s i0, if_pos (by omega)]
        rw [e9]
        exact ih (by omega) (by omega)
  exact loop4_ 0 (by omega) (by omega)
theorem sp_106 {d L t : Nat} {s l : Nat → Int → Int} {A T : Int → Int} (hJ : JC s A T) (hK : KA A T) {x : Int} (hx : rI x) : ∃ s1 l1, mm_Ev mm_ct mm_CM (d + 7) 106 [.ref 0, .int (iI x)] (MX L t s l) (some (.int (iI (restP A T x))), MX L t s1 l1) ∧ (∀ c, c ≠ 578 ∧ c ≠ 579 ∧ c ≠ 592 → s1 c = s c) ∧ (∀ c, c ≠ 590 → l1 c = l c) ∧ JC s1 A T := by
  have hc : (mm_CM 106).2.2.2.2.2.2.2 = mm_cf cd_106 := by rw [cm_106]; rfl
  refine ev_xsl ?_
  refine ev_to (mx := 2) (by rw [cm_106]; decide) (by rw [cm_106]; rfl) (by show 2 ≤ _; decide) ?_
  show mm_wp _ _ (0, [some (.ref 0), some (.int (iI x))], [], MX L t s l) (fun res => ∃ s1 l1, res = (some (.int (iI (restP A T x))), MX L t s1 l1) ∧ (∀ c, c ≠ 578 ∧ c ≠ 579 ∧ c ≠ 592 → s1 c = s c) ∧ (∀ c, c ≠ 590 → l1 c = l c) ∧ JC s1 A T)
  have hV := hK.1
  have hB := hK.2.1
  have g0 := hB.1
  have h1 := hK.2.2.1.1
  refine wi_i1 hc rfl rfl ?_
  refine wp_cs (As := [.int (iI x)]) (r := []) hc rfl (by rw [cm_125]; rfl) rfl (Nat.le_of_ble_eq_true rfl) (ev_mono (sp_125 (d := 0) hx) (by omega)) ?_
  show mm_wp _ _ (4, [some (.ref 0), some (.int (iI x))], [.int (iI (bI (0 ≤ x ∧ x ≤ 2)))], MX L t s l) _
  refine wi_bne hc rfl (fun h1_ => ?_) (fun h1_ => ?_)
  · have gm := hB.2.1 x (by omega) (by omega)
    refine wi_a1 hc rfl rfl ?_
    refine wi_i1 hc rfl rfl ?_
    obtain ⟨s1_, hE1_, hF1_, hJ1_, hC1_⟩ := sp_141 (d := 0) (L := L) (t := t) (l := l) hJ hK (x := x) (by omega) (by omega)
    refine wp_cv (b := 0) (As := [.int (iI x)]) (r := []) hc rfl (by rw [cm_141]; rfl) rfl (Nat.le_of_ble_eq_true rfl) (show 0 < 621 by decide) (by rw [cm_141]; rfl) (ev_mono hE1_ (by omega)) ?_
    show mm_wp _ _ (14, [some (.ref 0), some (.int (iI x))], [], MX L t s1_ l) _
    refine wi_a1 hc rfl rfl ?_
    refine wi_gr (w := 590) hc rfl rfl (by decide) (Nat.le_of_ble_eq_true rfl) rfl ?_
    refine wi_a1 hc rfl rfl ?_
    refine wi_gr (w := 1) hc rfl rfl (by decide) (Nat.le_of_ble_eq_true rfl) rfl ?_
    refine wi_gr (w := 2) hc rfl rfl (by decide) (Nat.le_of_ble_eq_true rfl) rfl ?_
    refine wi_i1 hc rfl rfl ?_
    refine wp_cv (b := 2) (As := [.int (iI x)]) (r := [.ref 590]) hc rfl (by rw [cm_76]; rfl) rfl (Nat.le_of_ble_eq_true rfl) (show 2 < 621 by decide) (by rw [cm_76]; rfl) (ev_mono (sp_76 (d := 0) hJ1_ hK (x := x) (by omega) (by omega)) (by omega)) ?_
    show mm_wp _ _ (29, [some (.ref 0), some (.int (iI x))], [.long (lI (rwE (shF A x) (A (13 + x)))), .ref 590], MX L t s1_ l) _
    refine wi_a1 hc rfl rfl ?_
    refine wi_gr (w := 1) hc rfl rfl (by decide) (Nat.le_of_ble_eq_true rfl) rfl ?_
    refine wi_gr (w := 2) hc rfl rfl (by decide) (Nat.le_of_ble_eq_true rfl) rfl ?_
    refine wi_gr (w := 7) hc rfl rfl (by decide) (Nat.le_of_ble_eq_true rfl) rfl ?_
    refine wi_i1 hc rfl rfl ?_
    refine wi_ildv (N := 3) hc rfl rfl (by decide) (by decide) (by omega) (by omega) (v := A (13 + x)) (lb_many hJ1_.1 (by omega) (by omega)) ?_
    refine wi_a1 hc rfl rfl ?_
    refine wi_gr (w := 1) hc rfl rfl (by decide) (Nat.le_of_ble_eq_true rfl) rfl ?_
    refine wi_gr (w := 2) hc rfl rfl (by decide) (Nat.le_of_ble_eq_true rfl) rfl ?_
    refine wi_gfv (kz := 6) rfl hc rfl rfl (by decide) (Nat.le_of_ble_eq_true rfl) rfl (v := A 1) (lb_night hJ1_.1) ?_
    obtain ⟨l2_, hE2_, hG2_, hr2_⟩ := sp_22 (d := 0) (L := L) (t := t) (l := l) hC1_ (cF_01 A T) (inS_shelf hB (x := x) (by omega) (by omega) : inS _ (shF A x) _) (by omega) (by omega) (k := A 1) (rI_of (by omega) (by omega)) (rI_of (by omega) (by omega))
    refine wp_cv (b := 590) (As := [.long (lI (rwE (shF A x) (A (13 + x)))), .int (iI (A (13 + x))), .int (iI (A 1))]) (r := []) hc rfl (by rw [cm_22]; rfl) rfl (Nat.le_of_ble_eq_true rfl) (show 590 < 621 by decide) (by rw [cm_22]; rfl) (ev_mono hE2_ (by omega)) ?_
    show mm_wp _ _ (54, [some (.ref 0), some (.int (iI x))], [.int (iI (rsF (cF A T) (A (13 + x)) (A 1) (shF A x) 501 0))], MX L t s1_ l2_) _
    refine wi_ri hc rfl (by rw [cm_106]; rfl) ?_
    have hR : restP A T x = rsF (cF A T) (A (13 + x)) (A 1) (shF A x) 501 0 := by unfold restP; rw [if_pos (by omega)]
    rw [hR]
    exact ⟨s1_, l2_, rfl, fun c hc9_ => hF1_ c (by omega), fun c hc9_ => hG2_ c (by omega), hJ1_⟩
  · refine wi_ic hc rfl ?_
    refine wi_ri hc rfl (by rw [cm_106]; rfl) ?_
    have hR : restP A T x = (-1) := by unfold restP; rw [if_neg (by omega)]
    rw [hR]
    exact ⟨s, l, rfl, fun c _ => rfl, fun c _ => rfl, hJ⟩
theorem row_all {A T : Int → Int} {s : Nat → Int → Int} {x : Int} (x0 : 0 ≤ x) (x1 : x < 3) (hn : s 598 28 = (if A (13 + x) ≤ A (13 + x) then A (13 + x) else A (13 + x) - 1)) (hr : ∀ p, 0 ≤ p → p < (if A (13 + x) ≤ A (13 + x) then A (13 + x) else A (13 + x) - 1) → s 608 p = woF (fun p => A (16 + 10 * x + p)) (A (13 + x)) p) : s 598 28 = A (13 + x) ∧ ∀ p, 0 ≤ p → p < A (13 + x) → s 608 p = shF A x p := by
  rw [if_pos (Int.le_refl _)] at hn hr
  refine ⟨hn, fun p p0 p1 => ?_⟩
  rw [hr p p0 p1]
  unfold woF shF
  rw [if_pos p1]
theorem sp_245 {d L t : Nat} {s l : Nat → Int → Int} {A T : Int → Int} (hJ : JM s A T) (hK : KA A T) {x : Int} (hx : rI x) : ∃ s1 l1, mm_Ev mm_ct mm_CM (d + 9) 245 [.ref 598, .int (iI x)] (MX L t s l) (some (.int (iI (restP A T x))), MX L t s1 l1) ∧ (∀ c, c ≠ 598 ∧ c ≠ 604 ∧ c ≠ 606 ∧ c ≠ 607 ∧ c ≠ 608 → s1 c = s c) ∧ (∀ c, c ≠ 605 → l1 c = l c) ∧ (∀ k, k ≠ 28 → s1 598 k = s 598 k) ∧ JM s1 A T := by
  have hc : (mm_CM 245).2.2.2.2.2.2.2 = mm_cf cd_245 := by rw [cm_245]; rfl
  refine ev_xsl ?_
  refine ev_to (mx := 2) (by rw [cm_245]; decide) (by rw [cm_245]; rfl) (by show 2 ≤ _; decide) ?_
  show mm_wp _ _ (0, [some (.ref 598), some (.int (iI x))], [], MX L t s l) (fun res => ∃ s1 l1, res = (some (.int (iI (restP A T x))), MX L t s1 l1) ∧ (∀ c, c ≠ 598 ∧ c ≠ 604 ∧ c ≠ 606 ∧ c ≠ 607 ∧ c ≠ 608 → s1 c = s c) ∧ (∀ c, c ≠ 605 → l1 c = l c) ∧ (∀ k, k ≠ 28 → s1 598 k = s 598 k) ∧ JM s1 A T)
  have hV := hK.1
  have hB := hK.2.1
  have g0 := hB.1
  have h1 := hK.2.2.1.1
  refine wi_i1 hc rfl rfl ?_
  refine wp_cs (As := [.int (iI x)]) (r := []) hc rfl (by rw [cm_152]; rfl) rfl (Nat.le_of_ble_eq_true rfl) (ev_mono (sp_152 (d := 0) hx) (by omega)) ?_
  show mm_wp _ _ (4, [some (.ref 598), some (.int (iI x))], [.int (iI (bI (0 ≤ x ∧ x ≤ 2)))], MX L t s l) _
  refine wi_bne hc rfl (fun h1_ => ?_) (fun h1_ => ?_)
  · have gm := hB.2.1 x (by omega) (by omega)
    refine wi_a1 hc rfl rfl ?_
    refine wi_i1 hc rfl rfl ?_
    refine wi_ic hc rfl ?_
    obtain ⟨s1_, l1_, hE1_, hF1_, hG1_, hf1_, hJ1_, hC1_, hn1_, hr1_⟩ := sp_240 (d := 0) (L := L) (t := t) (l := l) hJ hK (x := x) (w := (-1)) (jq := A (13 + x)) (by omega) (by omega) (rI_of (by omega) (by omega)) (by omega) (fun p p0 p1 => ⟨fun q => by have := (hB.2.2.1 x p (by omega) (by omega) p0 p1).1; omega, fun q => by omega⟩)
    refine wp_cv (b := 598) (As := [.int (iI x), .int (iI (-1))]) (r := []) hc rfl (by rw [cm_240]; rfl) rfl (Nat.le_of_ble_eq_true rfl) (show 598 < 621 by decide) (by rw [cm_240]; rfl) (ev_mono hE1_ (by omega)) ?_
    show mm_wp _ _ (15, [some (.ref 598), some (.int (iI x))], [], MX L t s1_ l1_) _
    refine wi_a1 hc rfl rfl ?_
    obtain ⟨hn9_, hr9_⟩ := row_all (T := T) (by omega) (by omega) hn1_ hr1_
    obtain ⟨s2_, hE2_, hF2_, hp2_⟩ := sp_244 (d := 0) (L := L) (t := t) (l := l1_) hC1_ (cF_01 A T) hr9_ (fun p p0 p1 => ⟨(hB.2.2.1 x p (by omega) (by omega) p0 p1).1, (hB.2.2.1 x p (by omega) (by omega) p0 p1).2.1⟩) hn9_ (by omega) (by omega) (by omega) (k := A 1) (congrFun hJ1_.1 1) (by omega) (by omega)
    refine wp_cv (b := 598) (As := []) (r := []) hc rfl (by rw [cm_244]; rfl) rfl (Nat.le_of_ble_eq_true rfl) (show 598 < 621 by decide) (by rw [cm_244]; rfl) (ev_mono hE2_ (by omega)) ?_
    have hJ2_ : JM s2_ A T := hJ1_.of (hF2_ 599 (by decide)) (hF2_ 601 (by decide)) (hF2_ 604 (by decide))
    show mm_wp _ _ (19, [some (.ref 598), some (.int (iI x))], [.int (iI (rsF (cF A T) (A (13 + x)) (A 1) (shF A x) 501 0))], MX L t s2_ l1_) _
    refine wi_ri hc rfl (by rw [cm_245]; rfl) ?_
    have hR : restP A T x = rsF (cF A T) (A (13 + x)) (A 1) (shF A x) 501 0 := by unfold restP; rw [if_pos (by omega)]
    rw [hR]
    exact ⟨s2_, l1_, rfl, fun c hc9_ => (hF2_ c (by omega)).trans (hF1_ c (by omega)), fun c hc9_ => hG1_ c (by omega), fun k k9 => (congrFun (hF2_ 598 (by decide)) k).trans (hf1_ k k9), hJ2_⟩
  · refine wi_ic hc rfl ?_
    refine wi_ri hc rfl (by rw [cm_245]; rfl) ?_
    have hR : restP A T x = (-1) := by unfold restP; rw [if_neg (by omega)]
    rw [hR]
    exact ⟨s, l, rfl, fun c _ => rfl, fun c _ => rfl, fun k _ => rfl, hJ⟩
