/-! Places: where a book stands, how often, which is the likeliest. -/
/-- all different -/
def injF (f : Int → Int) (n : Int) : Prop := ∀ p q, 0 ≤ p → p < q → q < n → f p ≠ f q
theorem injF.eq {f : Int → Int} {n : Int} (h : injF f n) {p q : Int} (p0 : 0 ≤ p) (p1 : p < n) (q0 : 0 ≤ q) (q1 : q < n) (e : f p = f q) : p = q := by
  rcases Int.lt_trichotomy p q with z | z | z
  · exact absurd e (h p q p0 z q1)
  · exact z
  · exact absurd e.symm (h q p q0 z p1)
/-- where a place's book comes from in a night -/
def sgF (c : Int → Int → Int) (n k : Int) (f : Int → Int) (p : Int) : Int :=
  if k ≤ p ∧ (p - k) % 2 = 0 ∧ p < n - 1 ∧ c (f p) (f (p + 1)) = 1 then p + 1
  else if k + 1 ≤ p ∧ (p - k) % 2 = 1 ∧ p - 1 < n - 1 ∧ c (f (p - 1)) (f p) = 1 then p - 1 else p
theorem nF_sg (c : Int → Int → Int) (n k : Int) (f : Int → Int) (p : Int) : nF c n k f p = f (sgF c n k f p) := by
  unfold nF nwP sgF
  (repeat' split) <;> rfl
theorem sgF_r {c : Int → Int → Int} {n k : Int} {f : Int → Int} {p : Int} (k0 : 0 ≤ k) (p0 : 0 ≤ p) (p1 : p < n) : 0 ≤ sgF c n k f p ∧ sgF c n k f p < n := by
  unfold sgF
  (repeat' split) <;> omega
theorem sgF_sg {c : Int → Int → Int} {n k : Int} {f : Int → Int} {p : Int} : sgF c n k f (sgF c n k f p) = p := by
  by_cases h1 : k ≤ p ∧ (p - k) % 2 = 0 ∧ p < n - 1 ∧ c (f p) (f (p + 1)) = 1
  · have e : sgF c n k f p = p + 1 := by unfold sgF; rw [if_pos h1]
    rw [e]
    unfold sgF
    rw [if_neg (by omega), if_pos ⟨by omega, by omega, by omega, by rw [show p + 1 - 1 = p by omega]; exact h1.2.2.2⟩]
    omega
  · by_cases h2 : k + 1 ≤ p ∧ (p - k) % 2 = 1 ∧ p - 1 < n - 1 ∧ c (f (p - 1)) (f p) = 1
    · have e : sgF c n k f p = p - 1 := by unfold sgF; rw [if_neg h1, if_pos h2]
      rw [e]
      unfold sgF
      rw [if_pos ⟨by omega, by omega, by omega, by rw [show p - 1 + 1 = p by omega]; exact h2.2.2.2⟩]
      omega
    · have e : sgF c n k f p = p := by unfold sgF; rw [if_neg h1, if_neg h2]
      rw [e, e]
theorem injF.nF {f : Int → Int} {n k : Int} {c : Int → Int → Int} (h : injF f n) (k0 : 0 ≤ k) : injF (nF c n k f) n := by
  intro p q p0 pq q1 e
  rw [nF_sg, nF_sg] at e
  have rp := sgF_r (c := c) (k := k) (f := f) k0 p0 (by omega : p < n)
  have rq := sgF_r (c := c) (k := k) (f := f) k0 (by omega : 0 ≤ q) q1
  have := h.eq rp.1 rp.2 rq.1 rq.2 e
  have h2 := congrArg (sgF c n k f) this
  rw [sgF_sg, sgF_sg] at h2
  omega
theorem injF.stF {f : Int → Int} {n k : Int} {c : Int → Int → Int} (h : injF f n) : ∀ t : Nat, injF (stF c n k f t) n
  | 0 => h
  | t + 1 => (h.stF t).nF (Int.emod_nonneg _ (by decide))
/-- a book of a row is still there behind a night -/
theorem nF_mem {f : Int → Int} {n k b : Int} {c : Int → Int → Int} (k0 : 0 ≤ k) (h : ∃ p, 0 ≤ p ∧ p < n ∧ f p = b) : ∃ p, 0 ≤ p ∧ p < n ∧ nF c n k f p = b := by
  obtain ⟨p, p0, p1, e⟩ := h
  have r := sgF_r (c := c) (k := k) (f := f) k0 p0 p1
  exact ⟨sgF c n k f p, r.1, r.2, by rw [nF_sg, sgF_sg]; exact e⟩
theorem stF_mem {f : Int → Int} {n k b : Int} {c : Int → Int → Int} (h : ∃ p, 0 ≤ p ∧ p < n ∧ f p = b) : ∀ t : Nat, ∃ p, 0 ≤ p ∧ p < n ∧ stF c n k f t p = b
  | 0 => h
  | t + 1 => nF_mem (Int.emod_nonneg _ (by decide)) (stF_mem h t)
/-- the first place from i on -/
def psS (f : Int → Int) (b : Int) : Nat → Int → Int
  | 0, _ => -1
  | m + 1, i => if f i = b then i else psS f b m (i + 1)
def psF (f : Int → Int) (n b : Int) : Int := psS f b n.toNat 0
theorem psS_s {f : Int → Int} {n b i : Int} (i1 : i < n) : psS f b (n - i).toNat i = if f i = b then i else psS f b (n - (i + 1)).toNat (i + 1) := by
  rw [show (n - i).toNat = (n - (i + 1)).toNat + 1 by omega, psS]
theorem psS_at {f : Int → Int} {b q : Int} : ∀ (m : Nat) (i : Int), i ≤ q → q < i + m → f q = b → (∀ p, i ≤ p → p < q → f p ≠ b) → psS f b m i = q
  | 0, i, h1, h2, _, _ => by omega
  | m + 1, i, h1, h2, e, h => by
    unfold psS
    by_cases z : i = q
    · rw [if_pos (by rw [z]; exact e), z]
    · rw [if_neg (h i (Int.le_refl _) (by omega))]
      exact psS_at m (i + 1) (by omega) (by omega) e (fun p a c => h p (by omega) c)
theorem psF_at {f : Int → Int} {n b q : Int} (hi : injF f n) (q0 : 0 ≤ q) (q1 : q < n) (e : f q = b) : psF f n b = q := psS_at n.toNat 0 q0 (by omega) e (fun p a c h => hi p q a c q1 (by rw [h, e]))
/-- the book is on the row: its place -/
theorem psF_ok {f : Int → Int} {n b : Int} (hi : injF f n) (h : ∃ p, 0 ≤ p ∧ p < n ∧ f p = b) : 0 ≤ psF f n b ∧ psF f n b < n ∧ f (psF f n b) = b ∧ ∀ p, 0 ≤ p → p < n → (f p = b ↔ p = psF f n b) := by
  obtain ⟨q, q0, q1, e⟩ := h
  rw [psF_at hi q0 q1 e]
  exact ⟨q0, q1, e, fun p p0 p1 => ⟨fun g => hi.eq p0 p1 q0 q1 (by rw [g, e]), fun g => by rw [g]; exact e⟩⟩
/-- how often a book stands at a place in the first m nights -/
def ctN (c : Int → Int → Int) (n k : Int) (f : Int → Int) (b p : Int) : Nat → Int
  | 0 => 0
  | m + 1 => ctN c n k f b p m + (if stF c n k f m p = b then 1 else 0)
theorem ctN_r (c : Int → Int → Int) (n k : Int) (f : Int → Int) (b p : Int) : ∀ m : Nat, 0 ≤ ctN c n k f b p m ∧ ctN c n k f b p m ≤ m
  | 0 => ⟨Int.le_refl 0, Int.le_refl 0⟩
  | m + 1 => by
    have := ctN_r c n k f b p m
    unfold ctN
    split <;> omega
theorem ctN_s {c : Int → Int → Int} {n k : Int} {f : Int → Int} {b p i : Int} (i0 : 0 ≤ i) : ctN c n k f b p (i + 1).toNat = ctN c n k f b p i.toNat + (if stF c n k f i.toNat p = b then 1 else 0) := by
  rw [show (i + 1).toNat = i.toNat + 1 by omega, ctN]
/-- q is ahead of p: likelier, or as likely and lower -/
def ahd (g : Int → Int) (q p : Int) : Prop := g p < g q ∨ (g q = g p ∧ q < p)
def ahN (g : Int → Int) (p : Int) : Nat → Int
  | 0 => 0
  | m + 1 => ahN g p m + (if g p < g m ∨ (g m = g p ∧ (m : Int) < p) then 1 else 0)
theorem ahN_r (g : Int → Int) (p : Int) : ∀ m : Nat, 0 ≤ ahN g p m ∧ ahN g p m ≤ m
  | 0 => ⟨Int.le_refl 0, Int.le_refl 0⟩
  | m + 1 => by
    have := ahN_r g p m
    unfold ahN
    split <;> omega
theorem ahN_s {g : Int → Int} {p i : Int} (i0 : 0 ≤ i) : ahN g p (i + 1).toNat = ahN g p i.toNat + (if g p < g i ∨ (g i = g p ∧ i < p) then 1 else 0) := by
  rw [show (i + 1).toNat = i.toNat + 1 by omega, ahN, show ((i.toNat : Nat) : Int) = i by omega]
/-- one ahead has fewer ahead of it -/
theorem ahN_lt {g : Int → Int} {q p : Int} (h : ahd g q p) : ∀ m : Nat, ahN g q m ≤ ahN g p m ∧ (0 ≤ q → q < m → ahN g q m < ahN g p m)
  | 0 => ⟨Int.le_refl 0, fun a b => by omega⟩
  | m + 1 => by
    have ih := ahN_lt h m
    unfold ahd at h
    unfold ahN
    refine ⟨?_, fun a b => ?_⟩
    · split <;> split <;> omega
    · by_cases e : q = m
      · subst e
        rw [if_neg (by omega), if_pos (by omega)]
        omega
      · have := ih.2 a (by omega)
        split <;> split <;> omega
theorem ahN_top {g : Int → Int} {p : Int} : ∀ m : Nat, 0 ≤ p → p < m → ahN g p m < m
  | 0, _, h => by omega
  | m + 1, p0, h => by
    unfold ahN
    by_cases e : p = m
    · subst e
      rw [if_neg (by omega)]
      have := (ahN_r g m m).2
      omega
    · have := ahN_top (g := g) m p0 (by omega)
      split <;> omega
theorem ahN_inj {g : Int → Int} {p q : Int} {m : Nat} (p0 : 0 ≤ p) (p1 : p < m) (q0 : 0 ≤ q) (q1 : q < m) (e : ahN g p m = ahN g q m) : p = q := by
  rcases (by unfold ahd; omega : p = q ∨ ahd g p q ∨ ahd g q p) with h | h | h
  · exact h
  · have := (ahN_lt h m).2 p0 p1; omega
  · have := (ahN_lt h m).2 q0 q1; omega
/-- different numbers below n, n of them: each is there -/
theorem surj_inj {n : Nat} {f : Nat → Int} (h : ∀ i, i < n → 0 ≤ f i ∧ f i < n) (hd : ∀ i j, i < j → j < n → f i ≠ f j) {k : Nat} (hk : k < n) : ∃ i, i < n ∧ f i = k := by
  rcases Classical.em (∃ i, i < n ∧ f i = k) with g | g
  · exact g
  · exfalso
    have hne : ∀ i, i < n → f i ≠ k := fun i hi e => g ⟨i, hi, e⟩
    have := pigeon (n - 1) n (fun i => if f i > k then f i - 1 else f i) (fun i hi => by
      have a := h i hi
      have b := hne i hi
      split <;> omega) (fun i j hij hj => by
      have a := hne i (by omega)
      have b := hne j hj
      have c := hd i j hij hj
      split <;> split <;> omega)
    omega
theorem ahN_ex {g : Int → Int} {n k : Nat} (hk : k < n) : ∃ p : Int, 0 ≤ p ∧ p < n ∧ ahN g p n = k := by
  obtain ⟨i, hi, e⟩ := surj_inj (n := n) (f := fun i => ahN g i n) (fun i hi => ⟨(ahN_r g i n).1, ahN_top n (by omega) (by omega)⟩) (fun i j hij hj e => by
    have := ahN_inj (g := g) (p := i) (q := j) (m := n) (by omega) (by omega) (by omega) (by omega) e
    omega) hk
  exact ⟨i, by omega, by omega, e⟩
/-- the i-th likeliest place r -/
def isLk (g : Int → Int) (n i r : Int) : Prop := (0 ≤ r ∧ r < n) ∧ ahN g r n.toNat = i ∧ 0 < g r
noncomputable def lkA (g : Int → Int) (n i : Int) : Int := @ite Int (∃ r, isLk g n i r) (Classical.propDecidable _) (Classical.epsilon fun r => isLk g n i r) (-1)
theorem lkA_of {g : Int → Int} {n i r : Int} (h : isLk g n i r) : lkA g n i = r := by
  have hx : ∃ r, isLk g n i r := ⟨r, h⟩
  have hs : isLk g n i (Classical.epsilon fun r => isLk g n i r) := Classical.epsilon_spec hx
  unfold lkA
  rw [@if_pos _ (Classical.propDecidable _) hx]
  exact ahN_inj hs.1.1 (by have := hs.1.2; omega) h.1.1 (by have := h.1.2; omega) (hs.2.1.trans h.2.1.symm)
theorem lkA_no {g : Int → Int} {n i : Int} (h : ∀ r, ¬ isLk g n i r) : lkA g n i = -1 := by
  unfold lkA
  rw [@if_neg _ (Classical.propDecidable _) (fun ⟨r, q⟩ => h r q)]
theorem lkA_congr {g g' : Int → Int} {n i : Int} (h : ∀ p, 0 ≤ p → p < n → g p = g' p) : lkA g n i = lkA g' n i := by
  have key : ∀ p, 0 ≤ p → p < n → ∀ m : Nat, m ≤ n.toNat → ahN g p m = ahN g' p m := by
    intro p p0 p1 m
    induction m with
    | zero => intro _; rfl
    | succ m ih =>
      intro hm
      rw [ahN, ahN, ih (by omega), h p p0 p1, h m (by omega) (by omega)]
  have e : ∀ r, isLk g n i r ↔ isLk g' n i r := by
    intro r
    unfold isLk
    constructor
    · intro q
      exact ⟨q.1, by rw [← key r q.1.1 q.1.2 _ (Nat.le_refl _)]; exact q.2.1, by rw [← h r q.1.1 q.1.2]; exact q.2.2⟩
    · intro q
      exact ⟨q.1, by rw [key r q.1.1 q.1.2 _ (Nat.le_refl _)]; exact q.2.1, by rw [h r q.1.1 q.1.2]; exact q.2.2⟩
  rcases Classical.em (∃ r, isLk g' n i r) with q | q
  · obtain ⟨r, hr⟩ := q
    rw [lkA_of hr, lkA_of ((e r).mpr hr)]
  · rw [lkA_no (fun r hr => q ⟨r, hr⟩), lkA_no (fun r hr => q ⟨r, (e r).mp hr⟩)]
/-- what is left when the first k are taken out -/
def lfF (g : Int → Int) (n : Int) (k : Int) : Int → Int := fun p => if ahN g p n.toNat < k then 0 else g p
/-- the first of the greatest -/
def isMx (h : Int → Int) (n m : Int) : Prop := (0 ≤ m ∧ m < n) ∧ (∀ p, 0 ≤ p → p < n → h p ≤ h m) ∧ ∀ p, 0 ≤ p → p < m → h p < h m
theorem mx_rank {g h : Int → Int} {n k m : Int} (hg : ∀ p, 0 ≤ p → p < n → 0 ≤ g p) (hh : ∀ p, 0 ≤ p → p < n → h p = lfF g n k p) (hm : isMx h n m) (k0 : 0 ≤ k) (k1 : k < n) (hp : 0 < h m) : ahN g m n.toNat = k ∧ g m = h m := by
  have e := hh m hm.1.1 hm.1.2
  have ge : g m = h m ∧ k ≤ ahN g m n.toNat := by
    unfold lfF at e
    split at e
    · omega
    · rename_i q; exact ⟨e.symm, by omega⟩
  refine ⟨?_, ge.1⟩
  obtain ⟨r, r0, r1, re⟩ := ahN_ex (g := g) (n := n.toNat) (k := k.toNat) (by omega)
  rcases (by omega : ahN g m n.toNat = k ∨ k < ahN g m n.toNat) with z | z
  · exact z
  · exfalso
    have er := hh r r0 (by omega)
    unfold lfF at er
    rw [if_neg (by omega)] at er
    have h1 := hm.2.1 r r0 (by omega)
    have ha : ahd g r m := by
      rcases (by unfold ahd; omega : r = m ∨ ahd g r m ∨ ahd g m r) with q | q | q
      · rw [q] at re; omega
      · exact q
      · have := (ahN_lt q n.toNat).2 hm.1.1 (by have := hm.1.2; omega); omega
    unfold ahd at ha
    have h2 : r < m → h r < h m := fun q => hm.2.2 r r0 q
    omega
theorem lf_next {g h h' : Int → Int} {n k m : Int} (hg : ∀ p, 0 ≤ p → p < n → 0 ≤ g p) (hh : ∀ p, 0 ≤ p → p < n → h p = lfF g n k p) (hm : isMx h n m) (k0 : 0 ≤ k) (k1 : k < n) (e : ∀ p, h' p = if p = m then 0 else h p) : ∀ p, 0 ≤ p → p < n → h' p = lfF g n (k + 1) p := by
  intro p p0 p1
  have ep := hh p p0 p1
  rw [e]
  by_cases hp : 0 < h m
  · have hr := mx_rank hg hh hm k0 k1 hp
    by_cases q : p = m
    · rw [if_pos q]
      unfold lfF
      rw [if_pos (by rw [q]; omega)]
    · rw [if_neg q, ep]
      have hne : ahN g p n.toNat ≠ k := fun z => q (ahN_inj p0 (by omega) hm.1.1 (by have := hm.1.2; omega) (z.trans hr.1.symm))
      unfold lfF
      by_cases z : ahN g p n.toNat < k
      · rw [if_pos z, if_pos (by omega)]
      · rw [if_neg z, if_neg (by omega)]
  · have hz : ∀ r, 0 ≤ r → r < n → h r = 0 := by
      intro r r0 r1
      have a := hm.2.1 r r0 r1
      have b := hh r r0 r1
      have c := hg r r0 r1
      unfold lfF at b
      split at b <;> omega
    have h0 : lfF g n (k + 1) p = 0 := by
      have b := hz p p0 p1
      rw [ep] at b
      unfold lfF at b ⊢
      split
      · rfl
      · rename_i z
        rw [if_neg (by omega)] at b
        exact b
    rw [h0]
    split
    · rfl
    · exact hz p p0 p1
theorem lf_end {g h : Int → Int} {n k m : Int} (hg : ∀ p, 0 ≤ p → p < n → 0 ≤ g p) (hh : ∀ p, 0 ≤ p → p < n → h p = lfF g n k p) (hm : isMx h n m) (k0 : 0 ≤ k) (k1 : k < n) : lkA g n k = if 0 < h m then m else -1 := by
  by_cases hp : 0 < h m
  · rw [if_pos hp]
    have hr := mx_rank hg hh hm k0 k1 hp
    exact lkA_of ⟨hm.1, hr.1, by omega⟩
  · rw [if_neg hp]
    refine lkA_no (fun r q => ?_)
    have a := hm.2.1 r q.1.1 q.1.2
    have b := hh r q.1.1 q.1.2
    unfold lfF at b
    rw [if_neg (by have := q.2.1; omega)] at b
    have := q.2.2
    omega
/-- in how many of the first m places two rows differ -/
def dfN (f g : Int → Int) : Nat → Int
  | 0 => 0
  | m + 1 => dfN f g m + (if f m = g m then 0 else 1)
theorem dfN_r (f g : Int → Int) : ∀ m : Nat, 0 ≤ dfN f g m ∧ dfN f g m ≤ m
  | 0 => ⟨Int.le_refl 0, Int.le_refl 0⟩
  | m + 1 => by
    have := dfN_r f g m
    unfold dfN
    split <;> omega
theorem dfN_s {f g : Int → Int} {i : Int} (i0 : 0 ≤ i) : dfN f g (i + 1).toNat = dfN f g i.toNat + (if f i = g i then 0 else 1) := by
  rw [show (i + 1).toNat = i.toNat + 1 by omega, dfN, show ((i.toNat : Nat) : Int) = i by omega]
theorem RW.wo {e n p : Int} {f : Int → Int} (h : RW e f n) (p0 : 0 ≤ p) (p1 : p < n) (n1 : n ≤ 10) : RW (woI e p) (woF f p) (n - 1) := by
  refine ⟨woI_r h.1.1 h.1.2 p0 (by omega), fun q q0 q1 => ?_⟩
  rw [woI_nb h.1.1 p0 q0]
  unfold woF
  by_cases a : q < p
  · rw [if_pos a, if_pos a, h.2 q q0 q1, if_pos (by omega), if_pos (by omega)]
  · rw [if_neg a, if_neg a]
    by_cases b : q + 1 < 10
    · rw [h.2 (q + 1) (by omega) b]
      by_cases c : q + 1 < n
      · rw [if_pos c, if_pos (by omega)]
      · rw [if_neg c, if_neg (by omega)]
    · rw [nbI_nat h.1.1 (by omega), nbN_big (by have := h.1.1; have := h.1.2; omega) (by omega), if_neg (by omega)]
      rfl
theorem inS.wo {set n p : Int} {f : Int → Int} (h : inS set f n) (p0 : 0 ≤ p) (p1 : p < n) : inS set (woF f p) (n - 1) := by
  intro q q0 q1
  unfold woF
  split
  · exact h q q0 (by omega)
  · exact h (q + 1) (by omega) (by omega)
theorem injF.wo {n p : Int} {f : Int → Int} (h : injF f n) (p0 : 0 ≤ p) (p1 : p < n) : injF (woF f p) (n - 1) := by
  intro a b a0 ab b1
  unfold woF
  split <;> split
  · exact h _ _ a0 ab (by omega)
  · exact h _ _ a0 (by omega) (by omega)
  · omega
  · exact h _ _ (by omega) (by omega) (by omega)
/-- THEFT of the book at place j -/
def costV (c : Int → Int → Int) (n k : Int) (f : Int → Int) (b j : Int) : Int :=
  if rsF c n k f 501 0 = -1 ∨ rsF c (n - 1) k (woF f j) 501 0 = -1 then -1
  else dfN (woF (stF c n k f (rsF c n k f 501 0).toNat) (psF (stF c n k f (rsF c n k f 501 0).toNat) n b)) (stF c (n - 1) k (woF f j) (rsF c (n - 1) k (woF f j) 501 0).toNat) (n - 1).toNat
theorem costV_r {c : Int → Int → Int} {n k : Int} {f : Int → Int} {b j : Int} (n1 : n ≤ 10) : -1 ≤ costV c n k f b j ∧ costV c n k f b j ≤ 9 := by
  unfold costV
  split
  · omega
  · have := dfN_r (woF (stF c n k f (rsF c n k f 501 0).toNat) (psF (stF c n k f (rsF c n k f 501 0).toNat) n b)) (stF c (n - 1) k (woF f j) (rsF c (n - 1) k (woF f j) 501 0).toNat) (n - 1).toNat
    omega
theorem shF_inj {A : Int → Int} (hB : okB A) {x : Int} (x0 : 0 ≤ x) (x1 : x < 3) : injF (shF A x) (A (13 + x)) := fun p q p0 pq q1 => hB.2.2.2.1 x p q x0 x1 p0 pq q1
theorem shF_at {A : Int → Int} (hB : okB A) {b : Int} (h0 : 0 ≤ b) (h1 : b < A 0) (hw : A (46 + 6 * b + 5) ≤ 2) : ∃ p, 0 ≤ p ∧ p < A (13 + A (46 + 6 * b + 5)) ∧ shF A (A (46 + 6 * b + 5)) p = b := ⟨placeP A b, placeP_ok hB h0 h1 hw⟩
noncomputable def catP (A T : Int → Int) (b n i look : Int) : Int :=
  if ((0 ≤ b ∧ b < A 0) ∧ A (46 + 6 * b + 5) ≤ 2) ∧ (0 ≤ n ∧ n ≤ 99) ∧ 0 ≤ i ∧ i < A (13 + A (46 + 6 * b + 5)) then
    (if look = 1 then lkA (fun p => ctN (cF A T) (A (13 + A (46 + 6 * b + 5))) (A 1) (shF A (A (46 + 6 * b + 5))) b p (n + 1).toNat) (A (13 + A (46 + 6 * b + 5))) i
      else ctN (cF A T) (A (13 + A (46 + 6 * b + 5))) (A 1) (shF A (A (46 + 6 * b + 5))) b i (n + 1).toNat)
  else -1
def theftV (A T : Int → Int) (b : Int) : Int := costV (cF A T) (A (13 + A (46 + 6 * b + 5))) (A 1) (shF A (A (46 + 6 * b + 5))) b (psF (shF A (A (46 + 6 * b + 5))) (A (13 + A (46 + 6 * b + 5))) b)
def theftP (A T : Int → Int) (b : Int) : Int := if (0 ≤ b ∧ b < A 0) ∧ A (46 + 6 * b + 5) ≤ 2 then theftV A T b else -1
/-- CHEAPEST of the first m books: which, and how many -/
def chpN (A T : Int → Int) (x : Int) : Nat → Int × Int
  | 0 => (-1, 10)
  | m + 1 => if A (46 + 6 * m + 5) = x ∧ 0 ≤ theftV A T m ∧ theftV A T m < (chpN A T x m).2 then ((m : Int), theftV A T m) else chpN A T x m
def chpP (A T : Int → Int) (x : Int) : Int := if 0 ≤ x ∧ x ≤ 2 then (chpN A T x (A 0).toNat).1 else -1
