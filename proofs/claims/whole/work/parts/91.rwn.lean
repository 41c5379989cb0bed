/-! The one number of a row; tables of changes; sets on a shelf. -/
def rwN (f : Int → Int) : Nat → Int
  | 0 => 0
  | m + 1 => orI (rwN f m) (f m * 2 ^ (4 * (m : Int)).toNat)
def rwE (f : Int → Int) (n : Int) : Int := rwN f n.toNat
theorem rwN_nn (f : Int → Int) : ∀ m, 0 ≤ rwN f m
  | 0 => Int.le_refl 0
  | m + 1 => Int.natCast_nonneg _
theorem rwN_ok {f : Int → Int} : ∀ (m : Nat), m ≤ 10 → (∀ p, 0 ≤ p → p < (m : Int) → 0 ≤ f p ∧ f p < 16) → RW (rwN f m) f m
  | 0, _, _ => ⟨⟨Int.le_refl 0, (by decide : (0 : Int) < 1099511627776)⟩, fun p p0 p1 => by
    rw [if_neg (by omega)]
    show nbI 0 p = 0
    unfold nbI
    rw [Int.zero_ediv]
    rfl⟩
  | m + 1, hm, h => by
    have ih := rwN_ok m (by omega) (fun p p0 p1 => h p p0 (by omega))
    have hf := h m (by omega) (by omega)
    refine ⟨tpI_r ih.1.1 ih.1.2 hf.1 hf.2 (by omega) (by omega), fun p p0 p1 => ?_⟩
    rw [rwN, tpI_nb ih.1.1 hf.1 hf.2 (by omega) p0, ih.2 p p0 p1]
    by_cases c : p = m
    · rw [if_neg (by omega), if_pos c, if_pos (by omega), (orI_0 hf.1).2, c]
    · rw [if_neg c]
      by_cases c2 : p < m
      · rw [if_pos c2, if_pos (by omega), (orI_0 (h p p0 (by omega)).1).1]
      · rw [if_neg c2, if_neg (by omega)]
        rfl
theorem rwE_ok {f : Int → Int} {n : Int} (n0 : 0 ≤ n) (n1 : n ≤ 10) (h : ∀ p, 0 ≤ p → p < n → 0 ≤ f p ∧ f p < 16) : RW (rwE f n) f n := by
  have := rwN_ok (f := f) n.toNat (by omega) (fun p p0 p1 => h p p0 (by omega))
  rwa [show ((n.toNat : Nat) : Int) = n by omega] at this
theorem RW.eq {e n : Int} {f g : Int → Int} (h : RW e f n) (n0 : 0 ≤ n) (n1 : n ≤ 10) (hg : ∀ p, 0 ≤ p → p < n → 0 ≤ g p ∧ g p < 16) (hf : ∀ p, 0 ≤ p → p < n → f p = g p) : e = rwE g n := h.uniq (rwE_ok n0 n1 hg) hf
theorem RW.congr {e n : Int} {f g : Int → Int} (h : RW e f n) (hf : ∀ p, 0 ≤ p → p < n → f p = g p) : RW e g n := ⟨h.1, fun p p0 p1 => by
  rw [h.2 p p0 p1]
  by_cases c : p < n
  · rw [if_pos c, if_pos c, hf p p0 c]
  · rw [if_neg c, if_neg c]⟩
/-- all books of a row are of a set -/
def inS (set : Int) (f : Int → Int) (n : Int) : Prop := ∀ p, 0 ≤ p → p < n → (0 ≤ f p ∧ f p < 10) ∧ set / 2 ^ (f p).toNat % 2 = 1
theorem inS.r16 {set n : Int} {f : Int → Int} (h : inS set f n) : ∀ p, 0 ≤ p → p < n → 0 ≤ f p ∧ f p < 16 := fun p a b => by
  have := (h p a b).1
  omega
theorem inS.nF {set n k : Int} {f : Int → Int} {c : Int → Int → Int} (h : inS set f n) (k0 : 0 ≤ k) : inS set (nF c n k f) n := fun p a b => nF_all (P := fun v => (0 ≤ v ∧ v < 10) ∧ set / 2 ^ v.toNat % 2 = 1) h k0 p a b
theorem inS.stF {set n k : Int} {f : Int → Int} {c : Int → Int → Int} (h : inS set f n) (t : Nat) : inS set (stF c n k f t) n := fun p a b => stF_all (P := fun v => (0 ≤ v ∧ v < 10) ∧ set / 2 ^ v.toNat % 2 = 1) h t p a b
/-- the class's table of changes for a set -/
def CHc (s : Nat → Int → Int) (c : Int → Int → Int) (set : Int) : Prop := ∀ x, 0 ≤ x → x < 10 → (0 ≤ s 592 x ∧ s 592 x < 1024) ∧ ∀ y, 0 ≤ y → y < 10 → s 592 x / 2 ^ y.toNat % 2 = if set / 2 ^ x.toNat % 2 = 1 ∧ set / 2 ^ y.toNat % 2 = 1 then c x y else 0
theorem CHc.of {s s1 : Nat → Int → Int} {c : Int → Int → Int} {set : Int} (h : CHc s c set) (e : s1 592 = s 592) : CHc s1 c set := by
  unfold CHc
  rw [e]
  exact h
theorem RW.sw {e n k i : Int} {f : Int → Int} {c : Int → Int → Int} (h : RW e (nwP c k i f) n) (hk : k ≤ i) (hp : (i - k) % 2 = 0) (h0 : 0 ≤ i) (h1 : i + 1 < n) (n1 : n ≤ 10) (hc : c (f i) (f (i + 1)) = 1) : RW (swpI e i) (nwP c k (i + 2) f) n := by
  refine ⟨swpI_r h.1.1 h.1.2 h0 (by omega), fun p p0 p1 => ?_⟩
  have e1 := h.2 (i + 1) (by omega) (by omega)
  rw [if_pos h1, nwP_at (by omega) hp] at e1
  have e2 := h.2 i h0 (by omega)
  rw [if_pos (by omega), nwP_at (by omega) hp] at e2
  have e3 := h.2 p p0 p1
  rw [swpI_nb h.1.1 h0 p0, nwP_step hk hp, if_pos hc, e1, e2, e3]
  by_cases a : p = i
  · rw [if_pos a, if_pos a, if_pos (show p < n by omega)]
  · rw [if_neg a, if_neg a]
    by_cases b : p = i + 1
    · rw [if_pos b, if_pos b, if_pos (show p < n by omega)]
    · rw [if_neg b, if_neg b]
theorem RW.ns {e n k i : Int} {f : Int → Int} {c : Int → Int → Int} (h : RW e (nwP c k i f) n) (hk : k ≤ i) (hp : (i - k) % 2 = 0) (hc : c (f i) (f (i + 1)) ≠ 1) : RW e (nwP c k (i + 2) f) n := h.congr (fun p _ _ => by rw [nwP_step hk hp, if_neg hc])
theorem xnb_r (e p : Int) : rI (xorI (nbI e p) (nbI e (p + 1))) := by
  have a := nbI_r e p
  have b := nbI_r e (p + 1)
  have hu : (nbI e p).toNat ^^^ (nbI e (p + 1)).toNat < 16 := Nat.xor_lt_two_pow (n := 4) (by omega) (by omega)
  have h0 : 0 ≤ xorI (nbI e p) (nbI e (p + 1)) := Int.natCast_nonneg _
  have h1 : (xorI (nbI e p) (nbI e (p + 1))).toNat < 16 := by rw [xorI_nat]; exact hu
  exact ⟨by omega, by omega⟩
/-- the books on a shelf -/
def shS (A : Int → Int) (x : Int) : Nat → Int
  | 0 => 0
  | n + 1 => if A (46 + 6 * n + 5) = x then orI (shS A x n) (1 * 2 ^ n) else shS A x n
theorem shS_nn (A : Int → Int) (x : Int) : ∀ n : Nat, 0 ≤ shS A x n
  | 0 => Int.le_refl 0
  | n + 1 => by
    unfold shS
    split
    · exact Int.natCast_nonneg _
    · exact shS_nn A x n
theorem bit_or1 {e : Int} {m b : Nat} (h : 0 ≤ e) : orI e (1 * 2 ^ m) / 2 ^ b % 2 = if b = m then 1 else e / 2 ^ b % 2 := by
  have h1 : e = ((e.toNat : Nat) : Int) := by omega
  have h2 : orI e (1 * 2 ^ m) = ((e.toNat ||| 2 ^ m : Nat) : Int) := by
    unfold orI
    rw [Int.one_mul, p2c, Int.toNat_natCast]
  have key : (e.toNat ||| 2 ^ m) / 2 ^ b % 2 = if b = m then 1 else e.toNat / 2 ^ b % 2 := by
    rw [Nat.or_div_two_pow]
    have hm : ∀ x y : Nat, (x ||| y) % 2 = x % 2 ||| y % 2 := fun x y => Nat.or_mod_two_pow (n := 1)
    rw [hm]
    by_cases c : b = m
    · rw [if_pos c, c, Nat.div_self (Nat.two_pow_pos m)]
      rcases Nat.mod_two_eq_zero_or_one (e.toNat / 2 ^ m) with q | q <;> rw [q] <;> rfl
    · rw [if_neg c]
      have : 2 ^ m / 2 ^ b % 2 = 0 := by
        by_cases d : b < m
        · rw [show (2 : Nat) ^ m = 2 ^ b * (2 * 2 ^ (m - b - 1)) by rw [← Nat.pow_succ', ← Nat.pow_add]; congr 1; omega, Nat.mul_div_cancel_left _ (Nat.two_pow_pos b)]
          exact Nat.mul_mod_right _ _
        · rw [Nat.div_eq_of_lt (Nat.pow_lt_pow_right (by decide) (by omega))]
      rw [this, Nat.or_zero]
  rw [h2, h1, p2c, dvc, dvc, Int.toNat_natCast]
  have : (((e.toNat ||| 2 ^ m) / 2 ^ b : Nat) : Int) % 2 = (((e.toNat ||| 2 ^ m) / 2 ^ b % 2 : Nat) : Int) := by norm_cast
  rw [this, key]
  split
  · rfl
  · norm_cast
theorem or1_lt {e : Int} {m : Nat} (h : 0 ≤ e) (h1 : e < 1024) (hm : m < 10) : orI e (1 * 2 ^ m) < 1024 := by
  have h2 : orI e (1 * 2 ^ m) = ((e.toNat ||| 2 ^ m : Nat) : Int) := by
    unfold orI
    rw [Int.one_mul, p2c, Int.toNat_natCast]
  have : e.toNat ||| 2 ^ m < 2 ^ 10 := Nat.or_lt_two_pow (by omega) (Nat.pow_lt_pow_right (by decide) hm)
  rw [h2]
  omega
theorem shS_r (A : Int → Int) (x : Int) : ∀ n : Nat, n ≤ 10 → shS A x n < 1024
  | 0, _ => (by decide : (0 : Int) < 1024)
  | n + 1, h => by
    unfold shS
    have := shS_r A x n (by omega)
    split
    · exact or1_lt (shS_nn A x n) this (by omega)
    · exact this
theorem shS_bit (A : Int → Int) (x : Int) (b : Nat) : ∀ n : Nat, shS A x n / 2 ^ b % 2 = if b < n ∧ A (46 + 6 * b + 5) = x then 1 else 0
  | 0 => by
    rw [if_neg (by omega)]
    show (0 : Int) / 2 ^ b % 2 = 0
    rw [Int.zero_ediv]
    rfl
  | n + 1 => by
    unfold shS
    have ih := shS_bit A x b n
    split
    · rename_i g
      rw [bit_or1 (shS_nn A x n), ih]
      by_cases c : b = n
      · rw [if_pos c, if_pos ⟨by omega, by rw [c]; exact g⟩]
      · rw [if_neg c]
        by_cases d : b < n ∧ A (46 + 6 * b + 5) = x
        · rw [if_pos d, if_pos ⟨by omega, d.2⟩]
        · rw [if_neg d, if_neg (fun q => d ⟨by omega, q.2⟩)]
    · rename_i g
      rw [ih]
      by_cases d : b < n ∧ A (46 + 6 * b + 5) = x
      · rw [if_pos d, if_pos ⟨by omega, d.2⟩]
      · rw [if_neg d, if_neg (fun q => d ⟨by
          have : b ≠ n := fun e => g (by rw [← e]; exact q.2)
          omega, q.2⟩)]
theorem inS_shelf {A : Int → Int} (hB : okB A) {x : Int} (x0 : 0 ≤ x) (x1 : x < 3) : inS (shS A x (A 0).toNat) (fun p => A (16 + 10 * x + p)) (A (13 + x)) := by
  intro p p0 p1
  have g := hB.2.2.1 x p x0 x1 p0 p1
  have g0 := hB.1
  refine ⟨⟨g.1, show A (16 + 10 * x + p) < 10 by omega⟩, ?_⟩
  have := shS_bit A x (A (16 + 10 * x + p)).toNat (A 0).toNat
  rw [show (((A (16 + 10 * x + p)).toNat : Nat) : Int) = A (16 + 10 * x + p) by omega] at this
  show shS A x (A 0).toNat / 2 ^ (A (16 + 10 * x + p)).toNat % 2 = 1
  rw [this, if_pos ⟨by omega, g.2.2⟩]
