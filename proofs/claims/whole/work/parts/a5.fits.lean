/-! FITS: the mathematics. -/
/-- a sum over a set of the first n -/
def bS (w : Nat → Int) (p : Nat → Bool) : Nat → Int
  | 0 => 0
  | n + 1 => bS w p n + if p n = true then w n else 0
def rmB (p : Nat → Bool) (m : Nat) : Nat → Bool := fun b => if b = m then false else p b
def adB (p : Nat → Bool) (m : Nat) : Nat → Bool := fun b => if b = m then true else p b
def btB (X : Int) : Nat → Bool := fun b => decide (X / 2 ^ b % 2 = 1)
theorem bS_congr {w v : Nat → Int} {p q : Nat → Bool} : ∀ n : Nat, (∀ b, b < n → p b = q b) → (∀ b, b < n → q b = true → w b = v b) → bS w p n = bS v q n
  | 0, _, _ => rfl
  | n + 1, h, g => by
    rw [bS, bS, bS_congr n (fun b hb => h b (by omega)) (fun b hb => g b (by omega)), h n (by omega)]
    by_cases c : q n = true
    · rw [if_pos c, if_pos c, g n (by omega) c]
    · rw [if_neg c, if_neg c]
theorem bS_rm {w : Nat → Int} {p : Nat → Bool} {m : Nat} (hm : p m = true) : ∀ n : Nat, bS w p n = bS w (rmB p m) n + if m < n then w m else 0
  | 0 => rfl
  | n + 1 => by
    rw [bS, bS, bS_rm hm n]
    unfold rmB
    by_cases c : n = m
    · rw [if_pos c, c, if_pos hm, if_neg (show ¬ m < m by omega), if_pos (show m < m + 1 by omega), if_neg (show ¬ false = true by decide)]
    · rw [if_neg c]
      by_cases d : m < n
      · rw [if_pos d, if_pos (show m < n + 1 by omega)]; omega
      · rw [if_neg d, if_neg (show ¬ m < n + 1 by omega)]; omega
theorem rm_ad {p : Nat → Bool} {m : Nat} (h : p m = false) : ∀ b, rmB (adB p m) m b = p b := fun b => by
  unfold rmB adB
  by_cases c : b = m
  · rw [if_pos c, c, h]
  · rw [if_neg c, if_neg c]
theorem bS_ad {w : Nat → Int} {p : Nat → Bool} {m : Nat} (h : p m = false) (n : Nat) : bS w (adB p m) n = bS w p n + if m < n then w m else 0 := by
  rw [bS_rm (p := adB p m) (m := m) (by unfold adB; rw [if_pos rfl]) n, bS_congr n (fun b _ => rm_ad h b) (fun _ _ _ => rfl)]
theorem bS_sub {w : Nat → Int} {p q : Nat → Bool} : ∀ n : Nat, (∀ b, b < n → p b = true → q b = true) → (∀ b, b < n → 0 ≤ w b) → bS w p n ≤ bS w q n
  | 0, _, _ => Int.le_refl 0
  | n + 1, h, g => by
    have ih := bS_sub n (fun b hb => h b (by omega)) (fun b hb => g b (by omega))
    have g1 := g n (by omega)
    have h1 := h n (by omega)
    rw [bS, bS]
    by_cases c : p n = true
    · rw [if_pos c, if_pos (h1 c)]; omega
    · rw [if_neg c]; split <;> omega
theorem bS_z {w : Nat → Int} : ∀ n : Nat, bS w (fun _ => false) n = 0
  | 0 => rfl
  | n + 1 => by rw [bS, bS_z n]; rfl
theorem bS_nn {w : Nat → Int} {p : Nat → Bool} (n : Nat) (g : ∀ b, b < n → 0 ≤ w b) : 0 ≤ bS w p n := by
  have := bS_sub (w := w) (p := fun _ => false) (q := p) n (fun b _ h => absurd h (by decide)) g
  rw [bS_z] at this
  exact this
theorem bS_ge {w : Nat → Int} {p : Nat → Bool} {n m : Nat} (hm : m < n) (h : p m = true) (g : ∀ b, b < n → 0 ≤ w b) : w m ≤ bS w p n := by
  have a := bS_rm (w := w) h n
  have b := bS_nn (w := w) (p := rmB p m) n g
  rw [if_pos hm] at a
  omega
/-- the least of each size -/
def GFi (N : Nat) (th : Nat → Int) (out : Nat → Prop) (q : Nat → Bool) (k : Int) : Prop :=
  (∀ b : Nat, q b = true → b < N ∧ out b) ∧ bS (fun _ => 1) q N = k ∧ ∀ p : Nat → Bool, (∀ b : Nat, p b = true → b < N ∧ out b) → k ≤ bS (fun _ => 1) p N → bS th q N ≤ bS th p N ∧ (bS (fun _ => 1) p N = k → bS th p N = bS th q N → bS (fun b => 2 ^ b) q N ≤ bS (fun b => 2 ^ b) p N)
section GFis
variable {N : Nat} {th : Nat → Int} {out : Nat → Prop} {q : Nat → Bool} {k : Int}
theorem GFi_more (H : GFi N th out q k) {p : Nat → Bool} (hk : k + 1 ≤ bS (fun _ => 1) p N) : ∃ m, m < N ∧ p m = true ∧ q m = false := by
  rcases Classical.em (∃ m, m < N ∧ p m = true ∧ q m = false) with z | z
  · exact z
  · exfalso
    have := bS_sub (w := fun _ => 1) (p := p) (q := q) N (fun b hb h => by
      rcases Bool.eq_false_or_eq_true (q b) with y | y
      · exact y
      · exact absurd ⟨b, hb, h, y⟩ z) (fun _ _ => by decide)
    rw [H.2.1] at this
    omega
theorem rm_in {p : Nat → Bool} {m : Nat} (h : ∀ b : Nat, p b = true → b < N ∧ out b) : ∀ b : Nat, rmB p m b = true → b < N ∧ out b := fun b hb => by
  unfold rmB at hb
  by_cases c : b = m
  · rw [if_pos c] at hb; exact absurd hb (by decide)
  · rw [if_neg c] at hb; exact h b hb
theorem pow2_le {a b : Nat} (h : a ≤ b) : (2 : Int) ^ a ≤ 2 ^ b := by
  rw [p2c, p2c]
  exact_mod_cast Nat.pow_le_pow_right (by decide) h
theorem GFi_step (H : GFi N th out q k) {g : Nat} (g1 : g < N) (g2 : out g) (g3 : q g = false) (hmin : ∀ b : Nat, b < N → out b → q b = false → th g < th b ∨ (th g = th b ∧ g ≤ b)) : GFi N th out (adB q g) (k + 1) := by
  have e := fun (w : Nat → Int) => bS_ad (w := w) g3 N
  refine ⟨fun b hb => ?_, by rw [e, H.2.1, if_pos g1], fun p hp hk => ?_⟩
  · unfold adB at hb
    by_cases c : b = g
    · rw [c]; exact ⟨g1, g2⟩
    · rw [if_neg c] at hb; exact H.1 b hb
  · obtain ⟨m, m1, m2, m3⟩ := GFi_more H hk
    have r := fun (w : Nat → Int) => bS_rm (w := w) m2 N
    have hc := hmin m m1 (hp m m2).2 m3
    have r1 := r (fun _ => 1)
    rw [if_pos m1] at r1
    have h3 := H.2.2 (rmB p m) (rm_in hp) (by omega)
    have r2 := r th
    have r3 := r (fun b => 2 ^ b)
    have e2 := e th
    have e3 := e (fun b => 2 ^ b)
    rw [if_pos m1] at r2 r3
    rw [if_pos g1] at e2 e3
    refine ⟨by rcases hc with z | z <;> omega, fun hs ht => ?_⟩
    have h4 := h3.2 (by omega) (by rcases hc with z | z <;> omega)
    have hgm : g ≤ m := by rcases hc with z | z <;> omega
    have := pow2_le hgm
    omega
theorem GFi_stop (H : GFi N th out q k) {free : Int} (hs : (∀ b : Nat, b < N → out b → q b = true) ∨ ∃ g : Nat, g < N ∧ (∀ b : Nat, b < N → out b → q b = false → th g ≤ th b) ∧ free < bS th q N + th g) {p : Nat → Bool} (hp : ∀ b : Nat, p b = true → b < N ∧ out b) (hf : bS th p N ≤ free) : bS (fun _ => 1) p N ≤ k := by
  rcases Int.lt_or_le k (bS (fun _ => 1) p N) with c | c
  · exfalso
    obtain ⟨m, m1, m2, m3⟩ := GFi_more (p := p) H (by omega)
    rcases hs with z | ⟨g, g1, g2, g3⟩
    · have := z m m1 (hp m m2).2
      rw [m3] at this
      exact absurd this (by decide)
    · have r1 := bS_rm (w := fun _ => 1) m2 N
      have r2 := bS_rm (w := th) m2 N
      rw [if_pos m1] at r1 r2
      have h3 := (H.2.2 (rmB p m) (rm_in hp) (by omega)).1
      have h4 := g2 m m1 (hp m m2).2 m3
      omega
  · exact c
end GFis
theorem GFi_0 {N : Nat} {th : Nat → Int} {out : Nat → Prop} (ht : ∀ b : Nat, b < N → out b → 0 ≤ th b) : GFi N th out (fun _ => false) 0 := by
  refine ⟨fun b h => absurd (show false = true from h) (by decide), bS_z N, fun p hp _ => ⟨?_, fun _ _ => ?_⟩⟩
  · rw [bS_z]
    have e := bS_congr (w := th) (v := fun b => if 0 ≤ th b then th b else 0) (p := p) (q := p) N (fun _ _ => rfl) (fun b hb h => (if_pos (ht b hb (hp b h).2)).symm)
    rw [e]
    exact bS_nn N (fun b hb => by
      show 0 ≤ if 0 ≤ th b then th b else 0
      split <;> omega)
  · rw [bS_z]
    exact bS_nn N (fun b hb => by
      show (0 : Int) ≤ 2 ^ b
      rw [p2c]; exact Int.natCast_nonneg _)
theorem cnt_bS (X : Int) : ∀ n : Nat, cntb X n = bS (fun _ => 1) (btB X) n
  | 0 => rfl
  | n + 1 => by
    rw [cntb, bS, cnt_bS X n]
    unfold btB
    rcases (by omega : X / 2 ^ n % 2 = 0 ∨ X / 2 ^ n % 2 = 1) with q | q <;> rw [q] <;> rfl
theorem bt_hi {X : Int} {N b : Nat} (h0 : 0 ≤ X) (h1 : X < 2 ^ N) (hb : N ≤ b) : btB X b = false := by
  have : X / 2 ^ b = 0 := Int.ediv_eq_zero_of_lt h0 (Int.lt_of_lt_of_le h1 (pow2_le hb))
  unfold btB
  rw [this]
  rfl
theorem bS_hi {w : Nat → Int} {X : Int} {N : Nat} (h0 : 0 ≤ X) (h1 : X < 2 ^ N) : ∀ k : Nat, bS w (btB X) (N + k) = bS w (btB X) N
  | 0 => rfl
  | k + 1 => by
    rw [← Nat.add_assoc, bS, bS_hi h0 h1 k, bt_hi h0 h1 (by omega)]
    show _ + 0 = _
    omega
theorem popI_bS {X : Int} {N : Nat} (h0 : 0 ≤ X) (h1 : X < 2 ^ N) (hN : N ≤ 10) : popI X = bS (fun _ => 1) (btB X) N := by
  have h := bS_hi (w := fun _ => 1) h0 h1 (10 - N)
  rw [show N + (10 - N) = 10 by omega] at h
  rw [← h, ← cnt_bS]
  rfl
theorem num_bS {X : Int} (h0 : 0 ≤ X) : ∀ n : Nat, bS (fun b => 2 ^ b) (btB X) n = X % 2 ^ n
  | 0 => by
    show (0 : Int) = X % 1
    omega
  | n + 1 => by
    rw [bS, num_bS h0 n]
    have e := Nat.mod_pow_succ (x := X.toNat) (b := 2) (k := n)
    have e1 : X % 2 ^ n = ((X.toNat % 2 ^ n : Nat) : Int) := by rw [p2c, Int.natCast_emod, show ((X.toNat : Nat) : Int) = X by omega]
    have e2 : X % 2 ^ (n + 1) = ((X.toNat % 2 ^ (n + 1) : Nat) : Int) := by rw [p2c, Int.natCast_emod, show ((X.toNat : Nat) : Int) = X by omega]
    have e3 := bt64 h0 n
    unfold btB
    rw [e1, e2, e, e3, p2c]
    rcases Nat.mod_two_eq_zero_or_one (X.toNat / 2 ^ n) with q | q
    · rw [q]; show _ + 0 = _; rw [Nat.mul_zero, Nat.add_zero]; omega
    · rw [q, Nat.mul_one]
      show _ + ((2 ^ n : Nat) : Int) = _
      omega
def lxF (w : Nat → Int) (N : Nat) (v X : Int) : Prop := popI X < popI v ∨ (popI X = popI v ∧ (bS w (btB v) N < bS w (btB X) N ∨ (bS w (btB v) N = bS w (btB X) N ∧ v ≤ X)))
def isFt (w : Nat → Int) (N : Nat) (free v : Int) : Prop := (v = 0 ∨ (1 ≤ v ∧ v < 2 ^ N ∧ bS w (btB v) N ≤ free)) ∧ ∀ X : Int, 1 ≤ X → X < 2 ^ N → bS w (btB X) N ≤ free → lxF w N v X
def MFt (w : Nat → Int) (N : Nat) (free X v s : Int) : Prop := s = bS w (btB v) N ∧ (v = 0 ∨ (1 ≤ v ∧ v < X ∧ s ≤ free)) ∧ ∀ Y : Int, 1 ≤ Y → Y < X → bS w (btB Y) N ≤ free → lxF w N v Y
theorem bt_0 (b : Nat) : btB 0 b = false := by
  unfold btB
  rw [Int.zero_ediv]
  rfl
theorem bS_0 (w : Nat → Int) (N : Nat) : bS w (btB 0) N = 0 := by
  rw [bS_congr (q := fun _ => false) (v := w) N (fun b _ => bt_0 b) (fun _ _ _ => rfl), bS_z]
theorem MFt_0 (w : Nat → Int) (N : Nat) (free : Int) : MFt w N free 1 0 0 := ⟨(bS_0 w N).symm, Or.inl rfl, fun Y a b => by omega⟩
theorem MFt_end {w : Nat → Int} {N : Nat} {free v s : Int} (h : MFt w N free (2 ^ N) v s) : isFt w N free v := by
  obtain ⟨a, b, c⟩ := h
  refine ⟨?_, c⟩
  rcases b with z | z
  · exact Or.inl z
  · exact Or.inr ⟨z.1, z.2.1, by rw [← a]; exact z.2.2⟩
theorem MFt_no {w : Nat → Int} {N : Nat} {free X v s : Int} (h : MFt w N free X v s) (h1 : 1 ≤ X) (hx : free < bS w (btB X) N ∨ popI X < popI v ∨ (popI X = popI v ∧ s ≤ bS w (btB X) N)) : MFt w N free (X + 1) v s := by
  obtain ⟨a, b, c⟩ := h
  refine ⟨a, by rcases b with z | z; exact Or.inl z; exact Or.inr ⟨z.1, by omega, z.2.2⟩, fun Y y0 y1 hy => ?_⟩
  by_cases z : Y = X
  · rw [z] at hy ⊢
    unfold lxF
    rcases hx with q | q | q
    · omega
    · exact Or.inl q
    · refine Or.inr ⟨q.1, ?_⟩
      have hv : v ≤ X := by rcases b with z | z <;> omega
      rcases (by omega : s < bS w (btB X) N ∨ s = bS w (btB X) N) with u | u
      · exact Or.inl (by omega)
      · exact Or.inr ⟨by omega, hv⟩
  · exact c Y y0 (by omega) hy
theorem MFt_yes {w : Nat → Int} {N : Nat} {free X v s : Int} (h : MFt w N free X v s) (h1 : 1 ≤ X) (hf : bS w (btB X) N ≤ free) (hx : popI v < popI X ∨ (popI X = popI v ∧ bS w (btB X) N < s)) : MFt w N free (X + 1) X (bS w (btB X) N) := by
  obtain ⟨a, b, c⟩ := h
  refine ⟨rfl, Or.inr ⟨h1, by omega, hf⟩, fun Y y0 y1 hy => ?_⟩
  unfold lxF
  by_cases z : Y = X
  · rw [z]; exact Or.inr ⟨rfl, Or.inr ⟨rfl, Int.le_refl _⟩⟩
  · have g := c Y y0 (by omega) hy
    unfold lxF at g
    omega
theorem cnpos : (List.range 1024).all (fun x => x == 0 || decide (1 ≤ cnN x 10)) = true := by decide +kernel
theorem pop_pos {X : Int} (h0 : 1 ≤ X) (h1 : X < 1024) : 1 ≤ popI X := by
  have h := List.all_eq_true.mp cnpos X.toNat (List.mem_range.mpr (by omega))
  rw [Bool.or_eq_true, beq_iff_eq, decide_eq_true_eq] at h
  rw [popI_N (by omega)]
  omega
theorem popI_0 : popI 0 = 0 := by decide
theorem isFt_uniq {w : Nat → Int} {N : Nat} {free v v' : Int} (hN : N ≤ 10) (h : isFt w N free v) (h' : isFt w N free v') : v = v' := by
  have hp : (2 : Int) ^ N ≤ 2 ^ 10 := pow2_le hN
  have hp : (2 : Int) ^ N ≤ 1024 := hp
  have p0 := popI_0
  rcases h.1 with z | z
  · rcases h'.1 with y | y
    · omega
    · have := h.2 v' y.1 y.2.1 y.2.2
      unfold lxF at this
      have := pop_pos (X := v') y.1 (by omega)
      rw [z, p0] at *
      omega
  · rcases h'.1 with y | y
    · have := h'.2 v z.1 z.2.1 z.2.2
      unfold lxF at this
      have := pop_pos (X := v) z.1 (by omega)
      rw [y, p0] at *
      omega
    · have a := h.2 v' y.1 y.2.1 y.2.2
      have b := h'.2 v z.1 z.2.1 z.2.2
      unfold lxF at a b
      omega
noncomputable def ftA (w : Nat → Int) (N : Nat) (free : Int) : Int := Classical.epsilon fun v => isFt w N free v
theorem ftA_of {w : Nat → Int} {N : Nat} {free v : Int} (hN : N ≤ 10) (h : isFt w N free v) : ftA w N free = v := isFt_uniq hN (Classical.epsilon_spec ⟨v, h⟩) h
theorem isFt_of {N : Nat} {th : Nat → Int} {out : Nat → Prop} {w : Nat → Int} {G k free : Int} (hN : N ≤ 10) (H : GFi N th out (btB G) k) (hw : ∀ b : Nat, b < N → (out b → w b = th b) ∧ (¬ out b → w b = 1000000)) (ht : ∀ b : Nat, b < N → out b → 0 ≤ th b) (hf : free < 1000000) (G0 : 0 ≤ G) (G1 : G < 2 ^ N) (hG : G = 0 ∨ bS th (btB G) N ≤ free) (hs : ∀ p : Nat → Bool, (∀ b : Nat, p b = true → b < N ∧ out b) → bS th p N ≤ free → bS (fun _ => 1) p N ≤ k) : isFt w N free G := by
  have hwn : ∀ b, b < N → 0 ≤ w b := fun b hb => by
    rcases Classical.em (out b) with z | z
    · rw [(hw b hb).1 z]; exact ht b hb z
    · rw [(hw b hb).2 z]; decide
  have eq : ∀ p : Nat → Bool, (∀ b : Nat, p b = true → b < N ∧ out b) → bS w p N = bS th p N := fun p hp => bS_congr N (fun _ _ => rfl) (fun b hb h => (hw b hb).1 (hp b h).2)
  have eG := eq (btB G) H.1
  have pG := popI_bS G0 G1 hN
  rw [H.2.1] at pG
  refine ⟨?_, fun X x0 x1 hX => ?_⟩
  · rcases (by omega : G = 0 ∨ 1 ≤ G) with z | z
    · exact Or.inl z
    · exact Or.inr ⟨z, G1, by rw [eG]; rcases hG with y | y; omega; exact y⟩
  · have hin : ∀ b : Nat, btB X b = true → b < N ∧ out b := fun b hb => by
      have hbN : b < N := by
        rcases Nat.lt_or_ge b N with z | z
        · exact z
        · rw [bt_hi (by omega) x1 z] at hb; exact absurd hb (by decide)
      refine ⟨hbN, ?_⟩
      rcases Classical.em (out b) with z | z
      · exact z
      · have h1 := bS_ge (w := w) hbN hb hwn
        rw [(hw b hbN).2 z] at h1
        omega
    have eX := eq (btB X) hin
    have pX := popI_bS (by omega : 0 ≤ X) x1 hN
    have hk := hs (btB X) hin (by rw [← eX]; exact hX)
    unfold lxF
    rw [eG, eX]
    rcases (by omega : popI X < popI G ∨ popI X = popI G) with z | z
    · exact Or.inl z
    · have h2 := H.2.2 (btB X) hin (by omega)
      refine Or.inr ⟨z, ?_⟩
      rcases (by omega : bS th (btB G) N < bS th (btB X) N ∨ bS th (btB X) N = bS th (btB G) N) with u | u
      · exact Or.inl u
      · have h3 := h2.2 (by omega) u
        rw [num_bS G0, num_bS (by omega : 0 ≤ X), Int.emod_eq_of_lt G0 G1, Int.emod_eq_of_lt (by omega) x1] at h3
        exact Or.inr ⟨u.symm, h3⟩
