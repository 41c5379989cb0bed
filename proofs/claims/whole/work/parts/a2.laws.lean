/-! LAWS, TELLS: the mathematics. -/
/-- the set of the numbers that g tells, below n -/
def lwB (g : Int → Int) : Nat → Int
  | 0 => 0
  | n + 1 => if g n = 1 then orI (lwB g n) (1 * 2 ^ n) else lwB g n
theorem lwB_nn (g : Int → Int) : ∀ n : Nat, 0 ≤ lwB g n
  | 0 => Int.le_refl 0
  | n + 1 => by
    unfold lwB
    split
    · exact Int.natCast_nonneg _
    · exact lwB_nn g n
theorem lwB_s {g : Int → Int} {i : Int} (i0 : 0 ≤ i) : lwB g (i + 1).toNat = if g i = 1 then orI (lwB g i.toNat) (1 * 2 ^ i.toNat) else lwB g i.toNat := by
  rw [show (i + 1).toNat = i.toNat + 1 by omega, lwB, show ((i.toNat : Nat) : Int) = i by omega]
theorem lwB_bit (g : Int → Int) (b : Nat) : ∀ n : Nat, lwB g n / 2 ^ b % 2 = if b < n ∧ g b = 1 then 1 else 0
  | 0 => by
    rw [if_neg (by omega)]
    show (0 : Int) / 2 ^ b % 2 = 0
    rw [Int.zero_ediv]
    rfl
  | n + 1 => by
    unfold lwB
    have ih := lwB_bit g b n
    split
    · rename_i q
      rw [bit_or1 (lwB_nn g n), ih]
      by_cases e : b = n
      · rw [if_pos e, if_pos ⟨by omega, by rw [e]; exact q⟩]
      · rw [if_neg e]
        by_cases d : b < n ∧ g b = 1
        · rw [if_pos d, if_pos ⟨by omega, d.2⟩]
        · rw [if_neg d, if_neg (fun w => d ⟨by omega, w.2⟩)]
    · rename_i q
      rw [ih]
      by_cases d : b < n ∧ g b = 1
      · rw [if_pos d, if_pos ⟨by omega, d.2⟩]
      · rw [if_neg d, if_neg (fun w => d ⟨by
          rcases (by omega : b < n ∨ b = n) with z | z
          · exact z
          · rw [z] at w; exact absurd w.2 q, w.2⟩)]
theorem lwB_lt (g : Int → Int) : ∀ n : Nat, lwB g n < 2 ^ n
  | 0 => by show (0 : Int) < 1; decide
  | n + 1 => by
    have ih := lwB_lt g n
    have h0 := lwB_nn g n
    unfold lwB
    rw [p2c] at ih
    rw [p2c (n + 1)]
    split
    · have : (lwB g n).toNat ||| 2 ^ n < 2 ^ (n + 1) := Nat.or_lt_two_pow (by rw [Nat.pow_succ]; omega) (Nat.pow_lt_pow_right (by decide) (by omega))
      unfold orI
      rw [Int.one_mul, p2c, Int.toNat_natCast]
      exact_mod_cast this
    · rw [Nat.pow_succ]; omega
theorem lwB_64 (g : Int → Int) : 0 ≤ lwB g 6 ∧ lwB g 6 < 64 := ⟨lwB_nn g 6, lwB_lt g 6⟩
theorem lwB_congr {g h : Int → Int} : ∀ n : Nat, (∀ b : Int, 0 ≤ b → b < n → g b = h b) → lwB g n = lwB h n
  | 0, _ => rfl
  | n + 1, e => by rw [lwB, lwB, lwB_congr n (fun b a c => e b a (by omega)), e n (by omega) (by omega)]
theorem an64 : (List.range 64).all (fun x => (List.range 64).all (fun y => (x &&& y) < 64 && (x &&& y) ≤ x && (List.range 6).all (fun b => (x &&& y) / 2 ^ b % 2 == (x / 2 ^ b % 2) * (y / 2 ^ b % 2) && (x - (x &&& y)) / 2 ^ b % 2 == (x / 2 ^ b % 2) * (1 - y / 2 ^ b % 2)))) = true := by decide +kernel
theorem ex64 : (List.range 64).all (fun x => (List.range 64).all (fun y => !((List.range 6).all (fun b => x / 2 ^ b % 2 == y / 2 ^ b % 2)) || x == y)) = true := by decide +kernel
theorem bt64 {x : Int} (h : 0 ≤ x) (b : Nat) : x / 2 ^ b % 2 = ((x.toNat / 2 ^ b % 2 : Nat) : Int) := by
  rw [show x = ((x.toNat : Nat) : Int) by omega, p2c, dvc, Int.toNat_natCast]
  norm_cast
theorem ext64 {x y : Int} (x0 : 0 ≤ x) (x1 : x < 64) (y0 : 0 ≤ y) (y1 : y < 64) (h : ∀ b : Nat, b < 6 → x / 2 ^ b % 2 = y / 2 ^ b % 2) : x = y := by
  have g := List.all_eq_true.mp (List.all_eq_true.mp ex64 x.toNat (List.mem_range.mpr (by omega))) y.toNat (List.mem_range.mpr (by omega))
  have a : (List.range 6).all (fun b => x.toNat / 2 ^ b % 2 == y.toNat / 2 ^ b % 2) = true := by
    rw [List.all_eq_true]
    intro b hb
    have e := h b (List.mem_range.mp hb)
    rw [bt64 x0, bt64 y0] at e
    rw [beq_iff_eq]
    omega
  rw [a] at g
  have g : (x.toNat == y.toNat) = true := g
  rw [beq_iff_eq] at g
  omega
theorem and64 {x y : Int} (x0 : 0 ≤ x) (x1 : x < 64) (y0 : 0 ≤ y) (y1 : y < 64) : (0 ≤ andI x y ∧ andI x y < 64 ∧ andI x y ≤ x) ∧ ∀ b : Nat, b < 6 → andI x y / 2 ^ b % 2 = (x / 2 ^ b % 2) * (y / 2 ^ b % 2) ∧ (x - andI x y) / 2 ^ b % 2 = (x / 2 ^ b % 2) * (1 - y / 2 ^ b % 2) := by
  have g := List.all_eq_true.mp (List.all_eq_true.mp an64 x.toNat (List.mem_range.mpr (by omega))) y.toNat (List.mem_range.mpr (by omega))
  rw [Bool.and_eq_true, Bool.and_eq_true, decide_eq_true_eq, decide_eq_true_eq] at g
  obtain ⟨⟨g1, g2⟩, g3⟩ := g
  have ha : andI x y = ((x.toNat &&& y.toNat : Nat) : Int) := rfl
  refine ⟨by omega, fun b hb => ?_⟩
  have g4 := List.all_eq_true.mp g3 b (List.mem_range.mpr hb)
  rw [Bool.and_eq_true, beq_iff_eq, beq_iff_eq] at g4
  have hs : x - andI x y = ((x.toNat - (x.toNat &&& y.toNat) : Nat) : Int) := by omega
  have hy := Nat.mod_two_eq_zero_or_one (y.toNat / 2 ^ b)
  rw [hs, ha, bt64 (Int.natCast_nonneg _), bt64 (Int.natCast_nonneg _), Int.toNat_natCast, Int.toNat_natCast, bt64 x0, bt64 y0, g4.1, g4.2]
  refine ⟨by rw [Int.natCast_mul], ?_⟩
  rw [Int.natCast_mul]
  congr 1
  omega
/-- whether the first n dusts fit a law of a book -/
def ftN (A T : Int → Int) (b la : Int) : Nat → Int
  | 0 => 1
  | n + 1 => if A (106 + 4 * n) = b ∧ pushP A T la b (A (107 + 4 * n)) (A (108 + 4 * n)) ≠ A (109 + 4 * n) then 0 else ftN A T b la n
theorem ftN_01 (A T : Int → Int) (b la : Int) : ∀ n : Nat, ftN A T b la n = 0 ∨ ftN A T b la n = 1
  | 0 => Or.inr rfl
  | n + 1 => by
    unfold ftN
    split
    · exact Or.inl rfl
    · exact ftN_01 A T b la n
theorem ftN_s {A T : Int → Int} {b la i : Int} (i0 : 0 ≤ i) : ftN A T b la (i + 1).toNat = if A (106 + 4 * i) = b ∧ pushP A T la b (A (107 + 4 * i)) (A (108 + 4 * i)) ≠ A (109 + 4 * i) then 0 else ftN A T b la i.toNat := by
  rw [show (i + 1).toNat = i.toNat + 1 by omega, ftN, show ((i.toNat : Nat) : Int) = i by omega]
/-- a dust that breaks it -/
theorem ftN_0 {A T : Int → Int} {b la : Int} {j : Int} (j0 : 0 ≤ j) (h : A (106 + 4 * j) = b ∧ pushP A T la b (A (107 + 4 * j)) (A (108 + 4 * j)) ≠ A (109 + 4 * j)) : ∀ n : Nat, j < n → ftN A T b la n = 0
  | 0, q => by omega
  | n + 1, q => by
    unfold ftN
    by_cases e : j = n
    · rw [← e, if_pos h]
    · split
      · rfl
      · exact ftN_0 j0 h n (by omega)
def lawS (A T : Int → Int) (b : Int) (n : Nat) : Int := lwB (fun la => ftN A T b la n) 6
def lawsP (A T : Int → Int) (b : Int) : Int := if 0 ≤ b ∧ b < A 0 then lawS A T b (A 8).toNat else -1
def pshS (A T : Int → Int) (b o r : Int) : Int := lwB (fun la => pushP A T la b o r) 6
theorem lawS_no {A T : Int → Int} {b i : Int} (i0 : 0 ≤ i) (h : A (106 + 4 * i) ≠ b) : lawS A T b (i + 1).toNat = lawS A T b i.toNat := lwB_congr 6 (fun la _ _ => by show ftN A T b la (i + 1).toNat = _; rw [ftN_s i0, if_neg (fun q => h q.1)])
theorem lawS_yes {A T : Int → Int} {b i : Int} (i0 : 0 ≤ i) (h : A (106 + 4 * i) = b) (hp : ∀ la, pushP A T la b (A (107 + 4 * i)) (A (108 + 4 * i)) = 0 ∨ pushP A T la b (A (107 + 4 * i)) (A (108 + 4 * i)) = 1) :
    (A (109 + 4 * i) = 1 → lawS A T b (i + 1).toNat = andI (lawS A T b i.toNat) (pshS A T b (A (107 + 4 * i)) (A (108 + 4 * i)))) ∧ (A (109 + 4 * i) = 0 → lawS A T b (i + 1).toNat = lawS A T b i.toNat - andI (lawS A T b i.toNat) (pshS A T b (A (107 + 4 * i)) (A (108 + 4 * i)))) := by
  have r1 := lwB_64 (fun la => ftN A T b la i.toNat)
  have r2 := lwB_64 (fun la => pushP A T la b (A (107 + 4 * i)) (A (108 + 4 * i)))
  have r3 := lwB_64 (fun la => ftN A T b la (i + 1).toNat)
  have ra := and64 r1.1 r1.2 r2.1 r2.2
  unfold lawS pshS
  have key : ∀ x : Nat, x < 6 → ((if x < 6 ∧ ftN A T b x i.toNat = 1 then (1 : Int) else 0) = ftN A T b x i.toNat) ∧ ((if x < 6 ∧ pushP A T x b (A (107 + 4 * i)) (A (108 + 4 * i)) = 1 then (1 : Int) else 0) = pushP A T x b (A (107 + 4 * i)) (A (108 + 4 * i))) ∧ ((if x < 6 ∧ ftN A T b x (i + 1).toNat = 1 then (1 : Int) else 0) = ftN A T b x (i + 1).toNat) := fun x hx => by
    have f1 := ftN_01 A T b x i.toNat
    have f2 := ftN_01 A T b x (i + 1).toNat
    have f3 := hp x
    refine ⟨?_, ?_, ?_⟩ <;> split <;> omega
  constructor
  · intro p1
    refine ext64 r3.1 r3.2 ra.1.1 ra.1.2.1 (fun x hx => ?_)
    rw [(ra.2 x hx).1, lwB_bit, lwB_bit, lwB_bit, (key x hx).1, (key x hx).2.1, (key x hx).2.2, ftN_s i0]
    have f3 := hp x
    rcases f3 with q | q
    · rw [q, if_pos ⟨h, by omega⟩]; omega
    · rw [q, if_neg (by omega)]; omega
  · intro p0
    refine ext64 r3.1 r3.2 (by omega) (by omega) (fun x hx => ?_)
    rw [(ra.2 x hx).2, lwB_bit, lwB_bit, lwB_bit, (key x hx).1, (key x hx).2.1, (key x hx).2.2, ftN_s i0]
    have f3 := hp x
    rcases f3 with q | q
    · rw [q, if_neg (by omega)]; omega
    · rw [q, if_pos ⟨h, by omega⟩]; omega
theorem cn6 : (List.range 64).all (fun z => cnN z 10 == cnN z 6 && cnN z 6 ≤ 6) = true := by decide +kernel
theorem pop6 {z : Int} (h0 : 0 ≤ z) (h1 : z < 64) : popI z = cntb z 6 ∧ popI z ≤ 6 := by
  have h := List.all_eq_true.mp cn6 z.toNat (List.mem_range.mpr (by omega))
  rw [Bool.and_eq_true, beq_iff_eq, decide_eq_true_eq] at h
  have e := cnN_I z.toNat 6
  rw [show ((z.toNat : Nat) : Int) = z by omega] at e
  rw [popI_N h0, e, h.1]
  exact ⟨rfl, by omega⟩
/-- how many of a set are told -/
def ctB (x : Int) (P : Int → Int) : Nat → Int
  | 0 => 0
  | n + 1 => ctB x P n + if x / 2 ^ n % 2 = 1 ∧ P n = 1 then 1 else 0
theorem ctB_s {x : Int} {P : Int → Int} {i : Int} (i0 : 0 ≤ i) : ctB x P (i + 1).toNat = ctB x P i.toNat + if x / 2 ^ i.toNat % 2 = 1 ∧ P i = 1 then 1 else 0 := by
  rw [show (i + 1).toNat = i.toNat + 1 by omega, ctB, show ((i.toNat : Nat) : Int) = i by omega]
theorem ctB_r (x : Int) (P : Int → Int) : ∀ n : Nat, 0 ≤ ctB x P n ∧ ctB x P n ≤ n
  | 0 => ⟨Int.le_refl 0, Int.le_refl 0⟩
  | n + 1 => by
    have := ctB_r x P n
    unfold ctB
    split <;> omega
theorem pop_and {x : Int} (x0 : 0 ≤ x) (x1 : x < 64) (P : Int → Int) : popI (andI x (lwB P 6)) = ctB x P 6 := by
  have r := lwB_64 P
  have ra := and64 x0 x1 r.1 r.2
  rw [(pop6 ra.1.1 ra.1.2.1).1]
  have key : ∀ n : Nat, n ≤ 6 → cntb (andI x (lwB P 6)) n = ctB x P n := by
    intro n
    induction n with
    | zero => intro _; rfl
    | succ n ih =>
      intro hn
      rw [cntb, ctB, ih (by omega), (ra.2 n (by omega)).1, lwB_bit]
      have hx : x / 2 ^ n % 2 = 0 ∨ x / 2 ^ n % 2 = 1 := by omega
      congr 1
      rcases hx with q | q
      · rw [q, Int.zero_mul]; exact (if_neg (by omega)).symm
      · rw [q, Int.one_mul]
        by_cases z : P n = 1
        · rw [if_pos ⟨by omega, z⟩, if_pos ⟨rfl, z⟩]
        · rw [if_neg (fun w => z w.2), if_neg (fun w => z w.2)]
  exact key 6 (by omega)
/-- the most that would do alike -/
def alV (A T : Int → Int) (b f o r : Int) : Int := maxI (popI (andI f (pshS A T b o r))) (popI f - popI (andI f (pshS A T b o r)))
theorem alV_r {A T : Int → Int} {b f : Int} (h0 : 0 ≤ f) (h1 : f < 64) (o r : Int) : 0 ≤ alV A T b f o r ∧ alV A T b f o r ≤ 6 := by
  have r2 := lwB_64 (fun la => pushP A T la b o r)
  have ra := and64 h0 h1 r2.1 r2.2
  have p1 := (pop6 ra.1.1 ra.1.2.1).2
  have p2 := popI_r (andI f (pshS A T b o r))
  have p3 := (pop6 h0 h1).2
  have p4 : popI (andI f (pshS A T b o r)) ≤ 6 := p1
  have hm := maxI_spec (popI (andI f (pshS A T b o r))) (popI f - popI (andI f (pshS A T b o r)))
  unfold alV
  omega
def tlN (A T : Int → Int) (b f : Int) : Nat → Int × Int
  | 0 => (-1, 7)
  | k + 1 => if (k : Int) / 2 ≠ b ∧ alV A T b f ((k : Int) / 2) ((k : Int) % 2) < (tlN A T b f k).2 then ((k : Int), alV A T b f ((k : Int) / 2) ((k : Int) % 2)) else tlN A T b f k
theorem tlN_r {A T : Int → Int} {b f : Int} (h0 : 0 ≤ f) (h1 : f < 64) : ∀ k : Nat, ((tlN A T b f k).1 = -1 ∧ (tlN A T b f k).2 = 7) ∨ (0 ≤ (tlN A T b f k).1 ∧ (tlN A T b f k).1 < k ∧ 0 ≤ (tlN A T b f k).2 ∧ (tlN A T b f k).2 ≤ 6)
  | 0 => Or.inl ⟨rfl, rfl⟩
  | k + 1 => by
    have ih := tlN_r (A := A) (T := T) (b := b) h0 h1 k
    have ha := alV_r (A := A) (T := T) (b := b) h0 h1 ((k : Int) / 2) ((k : Int) % 2)
    unfold tlN
    split
    · exact Or.inr ⟨by show (0 : Int) ≤ k; omega, by show (k : Int) < ((k + 1 : Nat) : Int); omega, ha.1, ha.2⟩
    · rcases ih with q | q
      · exact Or.inl q
      · exact Or.inr ⟨q.1, by omega, q.2.2⟩
theorem tlN_s {A T : Int → Int} {b f k : Int} (k0 : 0 ≤ k) : tlN A T b f (k + 1).toNat = if k / 2 ≠ b ∧ alV A T b f (k / 2) (k % 2) < (tlN A T b f k.toNat).2 then (k, alV A T b f (k / 2) (k % 2)) else tlN A T b f k.toNat := by
  rw [show (k + 1).toNat = k.toNat + 1 by omega, tlN, show ((k.toNat : Nat) : Int) = k by omega]
def tellsP (A T : Int → Int) (b : Int) : Int := if (0 ≤ b ∧ b < A 0) ∧ lawS A T b (A 8).toNat ≠ 0 then (tlN A T b (lawS A T b (A 8).toNat) (2 * A 0).toNat).1 else -1
