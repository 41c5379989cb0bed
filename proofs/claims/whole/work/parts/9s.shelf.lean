/-! The model lays a shelf. -/
/-- the set of the first n of a row -/
def orS (f : Int → Int) : Nat → Int
  | 0 => 0
  | n + 1 => orI (orS f n) (1 * 2 ^ (f n).toNat)
theorem orS_nn (f : Int → Int) : ∀ n : Nat, 0 ≤ orS f n
  | 0 => Int.le_refl 0
  | n + 1 => Int.natCast_nonneg _
theorem orS_s {f : Int → Int} {i : Int} (i0 : 0 ≤ i) : orS f (i + 1).toNat = orI (orS f i.toNat) (1 * 2 ^ (f i).toNat) := by
  rw [show (i + 1).toNat = i.toNat + 1 by omega, orS, show ((i.toNat : Nat) : Int) = i by omega]
theorem orS_lt {f : Int → Int} {N : Int} (N1 : N ≤ 10) : ∀ n : Nat, (∀ p : Nat, p < n → 0 ≤ f p ∧ f p < N) → orS f n < 2 ^ N.toNat
  | 0, _ => pw_pos N
  | n + 1, h => by
    have ih := orS_lt N1 n (fun p hp => h p (by omega))
    have g := h n (by omega)
    have e : orI (orS f n) (1 * 2 ^ (f n).toNat) = (((orS f n).toNat ||| 2 ^ (f n).toNat : Nat) : Int) := by
      unfold orI
      rw [Int.one_mul, p2c, Int.toNat_natCast]
    have h0 := orS_nn f n
    have h1 : (orS f n).toNat < 2 ^ N.toNat := by
      rw [p2c] at ih
      omega
    have : (orS f n).toNat ||| 2 ^ (f n).toNat < 2 ^ N.toNat := Nat.or_lt_two_pow h1 (Nat.pow_lt_pow_right (by decide) (by omega))
    rw [orS, e, p2c]
    exact_mod_cast this
theorem orS_bit {f : Int → Int} (b : Nat) : ∀ n : Nat, (∀ p : Nat, p < n → 0 ≤ f p) → (orS f n / 2 ^ b % 2 = 1 ↔ ∃ p : Nat, p < n ∧ f p = b)
  | 0, _ => by
    constructor
    · intro h
      have h : (0 : Int) / 2 ^ b % 2 = 1 := h
      rw [Int.zero_ediv] at h
      exact absurd h (by decide)
    · rintro ⟨p, hp, _⟩
      exact absurd hp (by omega)
  | n + 1, h => by
    have ih := orS_bit (f := f) b n (fun p hp => h p (by omega))
    have g := h n (by omega)
    rw [orS, bit_or1 (orS_nn f n)]
    constructor
    · intro q
      by_cases e : b = (f n).toNat
      · exact ⟨n, by omega, by omega⟩
      · rw [if_neg e] at q
        obtain ⟨p, hp, e2⟩ := ih.mp q
        exact ⟨p, by omega, e2⟩
    · rintro ⟨p, hp, e⟩
      by_cases e2 : b = (f n).toNat
      · rw [if_pos e2]
      · rw [if_neg e2]
        refine ih.mpr ⟨p, ?_, e⟩
        rcases (by omega : p < n ∨ p = n) with z | z
        · exact z
        · subst z
          exfalso
          omega
/-- the set of a row: as many, and each by its place in the set -/
theorem orS_ok {f : Int → Int} {n : Nat} (hr : ∀ p, 0 ≤ p → p < (n : Int) → 0 ≤ f p ∧ f p < 10) (hi : injF f n) : mS (orS f n) = n ∧ (∀ p, 0 ≤ p → p < (n : Int) → (0 ≤ lnB (orS f n) (f p) ∧ lnB (orS f n) (f p) < n) ∧ elF (orS f n) (lnB (orS f n) (f p)) = f p) ∧ injF (fun p => lnB (orS f n) (f p)) n := by
  have S0 := orS_nn f n
  have hb : ∀ p, 0 ≤ p → p < (n : Int) → orS f n / 2 ^ (f p).toNat % 2 = 1 := fun p p0 p1 => (orS_bit (f := f) (f p).toNat n (fun q hq => (hr q (by omega) (by omega)).1)).mpr ⟨p.toNat, by omega, by rw [show ((p.toNat : Nat) : Int) = p by omega]; have := hr p p0 p1; omega⟩
  have hl : ∀ p, 0 ≤ p → p < (n : Int) → elF (orS f n) (lnB (orS f n) (f p)) = f p ∧ lnB (orS f n) (f p) < ((mS (orS f n) : Nat) : Int) := fun p p0 p1 => elF_ln S0 (hr p p0 p1).1 (hr p p0 p1).2 (hb p p0 p1)
  have hn : ∀ p, 0 ≤ p → p < (n : Int) → 0 ≤ lnB (orS f n) (f p) := fun p p0 p1 => (lnB_r (hr p p0 p1).1).1
  have hij : ∀ i j : Nat, i < j → j < n → lnB (orS f n) (f i) ≠ lnB (orS f n) (f j) := fun i j hij hj e => by
    have a := (hl i (by omega) (by omega)).1
    have b := (hl j (by omega) (by omega)).1
    rw [e, b] at a
    exact hi i j (by omega) (by omega) (by omega) a.symm
  have h1 : n ≤ mS (orS f n) := pigeon (mS (orS f n)) n (fun i => lnB (orS f n) (f i)) (fun i hi => ⟨hn i (by omega) (by omega), (hl i (by omega) (by omega)).2⟩) hij
  have h2 : mS (orS f n) ≤ n := by
    have hx : ∀ e : Nat, ∃ p : Nat, e < mS (orS f n) → p < n ∧ f p = elF (orS f n) e := fun e => by
      rcases Nat.lt_or_ge e (mS (orS f n)) with z | z
      · have r := elF_r (S := orS f n) (m := mS (orS f n)) rfl (a := e) (by omega) (by omega)
        have q := elF_bit (S := orS f n) (m := mS (orS f n)) S0 rfl (a := e) (by omega) (by omega)
        obtain ⟨p, hp, ep⟩ := (orS_bit (f := f) (elF (orS f n) e).toNat n (fun q hq => (hr q (by omega) (by omega)).1)).mp q
        exact ⟨p, fun _ => ⟨hp, by omega⟩⟩
      · exact ⟨0, fun q => absurd q (by omega)⟩
    obtain ⟨w, hw⟩ := Classical.skolem.mp hx
    exact pigeon n (mS (orS f n)) (fun e => w e) (fun e he => by have := (hw e he).1; omega) (fun a b hab hb e => by
      have e : ((w a : Nat) : Int) = ((w b : Nat) : Int) := e
      have x := (hw a (by omega)).2
      have y := (hw b hb).2
      rw [show w a = w b by omega, y] at x
      have := elF_mono (S := orS f n) (m := mS (orS f n)) rfl (a := a) (b := b) (by omega) (by omega) (by omega)
      omega)
  have hm : mS (orS f n) = n := by omega
  refine ⟨hm, fun p p0 p1 => ⟨⟨hn p p0 p1, by have := (hl p p0 p1).2; rw [hm] at this; exact this⟩, (hl p p0 p1).1⟩, fun p q p0 pq q1 e => ?_⟩
  have := hij p.toNat q.toNat (by omega) (by omega)
  rw [show ((p.toNat : Nat) : Int) = p by omega, show ((q.toNat : Nat) : Int) = q by omega] at this
  exact this e
/-- the set of a shelf, and how it stands there -/
def sSx (A : Int → Int) (x : Int) : Int := orS (shF A x) (A (13 + x)).toNat
def sKx (A : Int → Int) (x : Int) : Int := rkI (A (13 + x)).toNat (fun p => lnB (sSx A x) (shF A x p))
theorem sx_ok {A : Int → Int} (hB : okB A) {x : Int} (x0 : 0 ≤ x) (x1 : x < 3) (h6 : A (13 + x) ≤ 6) : (0 ≤ sSx A x ∧ sSx A x < 2 ^ (A 0).toNat) ∧ mS (sSx A x) = (A (13 + x)).toNat ∧ (0 ≤ sKx A x ∧ sKx A x < fct (A (13 + x)).toNat) ∧ (∀ p, 0 ≤ p → p < A (13 + x) → dgI (A (13 + x)).toNat (sKx A x) p = lnB (sSx A x) (shF A x p) ∧ elF (sSx A x) (dgI (A (13 + x)).toNat (sKx A x) p) = shF A x p) := by
  have gm := hB.2.1 x x0 x1
  have hr : ∀ p, 0 ≤ p → p < (((A (13 + x)).toNat : Nat) : Int) → 0 ≤ shF A x p ∧ shF A x p < A 0 := fun p p0 p1 => by
    have := hB.2.2.1 x p x0 x1 p0 (by omega)
    exact ⟨this.1, this.2.1⟩
  have g0 := hB.1
  have hi : injF (shF A x) (((A (13 + x)).toNat : Nat) : Int) := by
    rw [show (((A (13 + x)).toNat : Nat) : Int) = A (13 + x) by omega]
    exact shF_inj hB x0 x1
  have ho := orS_ok (n := (A (13 + x)).toNat) (fun p a b => by have := hr p a b; omega) hi
  have hk := rk_ok (m := (A (13 + x)).toNat) (by omega) (f := fun p => lnB (sSx A x) (shF A x p)) (fun p a b => (ho.2.1 p a b).1) ho.2.2
  refine ⟨⟨orS_nn _ _, orS_lt g0.2 _ (fun p hp => hr p (by omega) (by omega))⟩, ho.1, hk.1, fun p p0 p1 => ?_⟩
  have e := hk.2.1 p p0 (by omega)
  refine ⟨e, ?_⟩
  unfold sKx
  rw [e]
  exact (ho.2.1 p p0 (by omega)).2
theorem sp_267 {d L t : Nat} {s l : Nat → Int → Int} {A T : Int → Int} (hJ : JM s A T) (hK : KA A T) {x : Int} (x0 : 0 ≤ x) (x1 : x < 3) (h6 : A (13 + x) ≤ 6) : ∃ s1 l1, mm_Ev mm_ct mm_CM (d + 9) 267 [.ref 598, .int (iI x)] (MX L t s l) (some (.int (iI (sKx A x))), MX L t s1 l1) ∧ (∀ c, c ≠ 598 ∧ c ≠ 604 ∧ c ≠ 606 ∧ c ≠ 607 ∧ c ≠ 610 ∧ c ≠ 611 ∧ c ≠ 612 ∧ c ≠ 613 ∧ c ≠ 614 → s1 c = s c) ∧ (∀ c, c ≠ 605 → l1 c = l c) ∧ (∀ k, k ≠ 34 → k ≠ 35 → s1 598 k = s 598 k) ∧ JM s1 A T ∧ OM (mS (sSx A x)) s1 ∧ EM (sSx A x) (mS (sSx A x)) s1 ∧ LM (cF A T) (sSx A x) (mS (sSx A x)) s1 ∧ CHm s1 (cF A T) (A 0) := by
  have hc : (mm_CM 267).2.2.2.2.2.2.2 = mm_cf cd_267 := by rw [cm_267]; rfl
  refine ev_xsl ?_
  refine ev_to (mx := 5) (by rw [cm_267]; decide) (by rw [cm_267]; rfl) (by show 2 ≤ _; decide) ?_
  show mm_wp _ _ (0, [some (.ref 598), some (.int (iI x)), none, none, none], [], MX L t s l) (fun res => ∃ s1 l1, res = (some (.int (iI (sKx A x))), MX L t s1 l1) ∧ (∀ c, c ≠ 598 ∧ c ≠ 604 ∧ c ≠ 606 ∧ c ≠ 607 ∧ c ≠ 610 ∧ c ≠ 611 ∧ c ≠ 612 ∧ c ≠ 613 ∧ c ≠ 614 → s1 c = s c) ∧ (∀ c, c ≠ 605 → l1 c = l c) ∧ (∀ k, k ≠ 34 → k ≠ 35 → s1 598 k = s 598 k) ∧ JM s1 A T ∧ OM (mS (sSx A x)) s1 ∧ EM (sSx A x) (mS (sSx A x)) s1 ∧ LM (cF A T) (sSx A x) (mS (sSx A x)) s1 ∧ CHm s1 (cF A T) (A 0))
  have hV := hK.1
  have hB := hK.2.1
  have g0 := hB.1
  have gm := hB.2.1 x x0 x1
  refine wi_ic hc rfl ?_
  refine wi_is1 (L' := [some (.ref 598), some (.int (iI x)), some (.int (iI 0)), none, none]) hc rfl (Nat.le_of_ble_eq_true rfl) rfl ?_
  refine wi_ic hc rfl ?_
  refine wi_is1 (L' := [some (.ref 598), some (.int (iI x)), some (.int (iI 0)), some (.int (iI 0)), none]) hc rfl (Nat.le_of_ble_eq_true rfl) rfl ?_
  have loop4_ : ∀ i : Int, i ≤ A (13 + x) → 0 ≤ i → mm_wp (mm_Ev mm_ct mm_CM (d + 8)) 267 (4, [some (.ref 598), some (.int (iI x)), some (.int (iI (orS (shF A x) i.toNat))), some (.int (iI i)), none], [], MX L t s l) (fun res => ∃ s1 l1, res = (some (.int (iI (sKx A x))), MX L t s1 l1) ∧ (∀ c, c ≠ 598 ∧ c ≠ 604 ∧ c ≠ 606 ∧ c ≠ 607 ∧ c ≠ 610 ∧ c ≠ 611 ∧ c ≠ 612 ∧ c ≠ 613 ∧ c ≠ 614 → s1 c = s c) ∧ (∀ c, c ≠ 605 → l1 c = l c) ∧ (∀ k, k ≠ 34 → k ≠ 35 → s1 598 k = s 598 k) ∧ JM s1 A T ∧ OM (mS (sSx A x)) s1 ∧ EM (sSx A x) (mS (sSx A x)) s1 ∧ LM (cF A T) (sSx A x) (mS (sSx A x)) s1 ∧ CHm s1 (cF A T) (A 0)) := by
    refine up_ind ?_
    intro i hi9 ih i0
    have hnn := orS_nn (shF A x) i.toNat
    refine wi_i1 hc rfl rfl ?_
    refine wi_a1 hc rfl rfl ?_
    refine wi_gr (w := 599) hc rfl rfl (by decide) (Nat.le_of_ble_eq_true rfl) rfl ?_
    refine wi_bi hc rfl rfl ?_
    refine wi_i1 hc rfl rfl ?_
    refine wi_add hc rfl ?_
    refine wi_ildv (N := 3642) hc rfl rfl (by decide) (by decide) (by omega) (by omega) (v := A (13 + x)) (congrFun (hJ.1) _) ?_
    refine wi_cge hc rfl ⟨by omega, by omega⟩ ⟨by omega, by omega⟩ (fun h1_ => ?_) (fun h1_ => ?_)
    · refine wi_a1 hc rfl rfl ?_
      refine wi_i1 hc rfl rfl ?_
      have eS : orS (shF A x) i.toNat = sSx A x := by rw [show i = A (13 + x) by omega]; rfl
      have hsx := sx_ok hB x0 x1 h6
      have hm7 : mS (sSx A x) < 7 := by omega
      have hmN : ((mS (sSx A x) : Nat) : Int) = A (13 + x) := by omega
      rw [eS]
      obtain ⟨s1_, l1_, hE1_, hF1_, hG1_, hk1_, hJ1_, hO9, hM9, hL9, hC9⟩ := sp_257 (d := 0) (L := L) (t := t) (l := l) hJ hK (S := sSx A x) hsx.1.1 hsx.1.2 hm7
      refine wp_cv (b := 598) (As := [.int (iI (sSx A x))]) (r := []) hc rfl (by rw [cm_257]; rfl) rfl (Nat.le_of_ble_eq_true rfl) (show 598 < 621 by decide) (by rw [cm_257]; rfl) (ev_mono hE1_ (by omega)) ?_
      have hfW : ∀ p, 0 ≤ p → p < A (13 + x) → (0 ≤ lnB (sSx A x) (shF A x p) ∧ lnB (sSx A x) (shF A x p) < A (13 + x)) ∧ elF (sSx A x) (lnB (sSx A x) (shF A x p)) = shF A x p := fun p a b => by have h := orS_ok (f := shF A x) (n := (A (13 + x)).toNat) (fun p a b => by have := hB.2.2.1 x p x0 x1 a (by omega); exact ⟨this.1, by show A (16 + 10 * x + p) < 10; omega⟩) (by rw [show (((A (13 + x)).toNat : Nat) : Int) = A (13 + x) by omega]; exact shF_inj hB x0 x1); have g : (0 ≤ lnB (sSx A x) (shF A x p) ∧ lnB (sSx A x) (shF A x p) < (((A (13 + x)).toNat : Nat) : Int)) ∧ elF (sSx A x) (lnB (sSx A x) (shF A x p)) = shF A x p := h.2.1 p a (by omega); exact ⟨⟨g.1.1, by have := g.1.2; omega⟩, g.2⟩
      show mm_wp _ _ (39, [some (.ref 598), some (.int (iI x)), some (.int (iI (sSx A x))), some (.int (iI i)), none], [], MX L t s1_ l1_) _
      refine wi_ic hc rfl ?_
      refine wi_is1 (L' := [some (.ref 598), some (.int (iI x)), some (.int (iI (sSx A x))), some (.int (iI 0)), none]) hc rfl (Nat.le_of_ble_eq_true rfl) rfl ?_
      have loop41_ : ∀ p : Int, p ≤ A (13 + x) → 0 ≤ p → ∀ (o4 : Option Value) (s3 : Nat → Int → Int), (∀ c, c ≠ 614 → s3 c = s1_ c) → JM s3 A T → (∀ q, 0 ≤ q → q < p → s3 614 q = lnB (sSx A x) (shF A x q)) → mm_wp (mm_Ev mm_ct mm_CM (d + 8)) 267 (41, [some (.ref 598), some (.int (iI x)), some (.int (iI (sSx A x))), some (.int (iI p)), o4], [], MX L t s3 l1_) (fun res => ∃ s1 l1, res = (some (.int (iI (sKx A x))), MX L t s1 l1) ∧ (∀ c, c ≠ 598 ∧ c ≠ 604 ∧ c ≠ 606 ∧ c ≠ 607 ∧ c ≠ 610 ∧ c ≠ 611 ∧ c ≠ 612 ∧ c ≠ 613 ∧ c ≠ 614 → s1 c = s c) ∧ (∀ c, c ≠ 605 → l1 c = l c) ∧ (∀ k, k ≠ 34 → k ≠ 35 → s1 598 k = s 598 k) ∧ JM s1 A T ∧ OM (mS (sSx A x)) s1 ∧ EM (sSx A x) (mS (sSx A x)) s1 ∧ LM (cF A T) (sSx A x) (mS (sSx A x)) s1 ∧ CHm s1 (cF A T) (A 0)) := by
        refine up_ind ?_
        intro p hp9 ihp p0 o4 s3 hF3 hJ3 hw3
        refine wi_i1 hc rfl rfl ?_
        refine wi_a1 hc rfl rfl ?_
        refine wi_gfv (kz := 34) rfl hc rfl rfl (by decide) (Nat.le_of_ble_eq_true rfl) rfl (v := ((mS (sSx A x) : Nat) : Int)) ((congrFun (hF3 598 (by decide)) _).trans hO9.1) ?_
        refine wi_cge hc rfl ⟨by omega, by omega⟩ ⟨by omega, by omega⟩ (fun h2_ => ?_) (fun h2_ => ?_)
        · refine wi_a1 hc rfl rfl ?_
          have hwA : ∀ q, 0 ≤ q → q < ((mS (sSx A x) : Nat) : Int) → s3 614 q = lnB (sSx A x) (shF A x q) := fun q a b => hw3 q a (by omega)
          have hrA : ∀ q, 0 ≤ q → q < ((mS (sSx A x) : Nat) : Int) → 0 ≤ lnB (sSx A x) (shF A x q) ∧ lnB (sSx A x) (shF A x q) < ((mS (sSx A x) : Nat) : Int) := fun q a b => by have := (hfW q a (by omega)).1; omega
          have eK : rkI (mS (sSx A x)) (fun q => lnB (sSx A x) (shF A x q)) = sKx A x := by rw [hsx.2.1]; rfl
          refine wp_cv (b := 598) (As := []) (r := []) hc rfl (by rw [cm_249]; rfl) rfl (Nat.le_of_ble_eq_true rfl) (show 598 < 621 by decide) (by rw [cm_249]; rfl) (ev_mono (by have h := sp_249 (d := 0) (L := L) (t := t) (s := s3) (l := l1_) (f := fun q => lnB (sSx A x) (shF A x q)) (m := mS (sSx A x)) hm7 hwA hrA ((congrFun (hF3 598 (by decide)) _).trans hO9.1); rw [eK] at h; exact h) (by omega)) ?_
          show mm_wp _ _ (92, [some (.ref 598), some (.int (iI x)), some (.int (iI (sSx A x))), some (.int (iI p)), o4], [.int (iI (sKx A x))], MX L t s3 l1_) _
          refine wi_ri hc rfl (by rw [cm_267]; rfl) ?_
          exact ⟨s3, l1_, rfl, fun c hc9_ => (hF3 c (by omega)).trans (hF1_ c (by omega)), fun c hc9_ => hG1_ c (by omega), fun k a b => (congrFun (hF3 598 (by decide)) k).trans (hk1_ k a b), hJ3, hO9.of (hF3 598 (by decide)) (hF3 610 (by decide)), hM9.of (hF3 613 (by decide)), hL9.of (hF3 611 (by decide)) (hF3 612 (by decide)), hC9.of (hF3 607 (by decide))⟩
        · have hwp := (hfW p p0 (by omega)).2
          have hwr := (hfW p p0 (by omega)).1
          refine wi_ic hc rfl ?_
          refine wi_is2 (L' := [some (.ref 598), some (.int (iI x)), some (.int (iI (sSx A x))), some (.int (iI p)), some (.int (iI 0))]) hc rfl (Nat.le_of_ble_eq_true rfl) rfl ?_
          have loop52_ : ∀ e : Int, e ≤ lnB (sSx A x) (shF A x p) → 0 ≤ e → mm_wp (mm_Ev mm_ct mm_CM (d + 8)) 267 (52, [some (.ref 598), some (.int (iI x)), some (.int (iI (sSx A x))), some (.int (iI p)), some (.int (iI e))], [], MX L t s3 l1_) (fun res => ∃ s1 l1, res = (some (.int (iI (sKx A x))), MX L t s1 l1) ∧ (∀ c, c ≠ 598 ∧ c ≠ 604 ∧ c ≠ 606 ∧ c ≠ 607 ∧ c ≠ 610 ∧ c ≠ 611 ∧ c ≠ 612 ∧ c ≠ 613 ∧ c ≠ 614 → s1 c = s c) ∧ (∀ c, c ≠ 605 → l1 c = l c) ∧ (∀ k, k ≠ 34 → k ≠ 35 → s1 598 k = s 598 k) ∧ JM s1 A T ∧ OM (mS (sSx A x)) s1 ∧ EM (sSx A x) (mS (sSx A x)) s1 ∧ LM (cF A T) (sSx A x) (mS (sSx A x)) s1 ∧ CHm s1 (cF A T) (A 0)) := by
            refine up_ind ?_
            intro e he9 ihe e0
            have hel := elF_r (S := sSx A x) (m := mS (sSx A x)) rfl e0 (by omega)
            have hbb := hB.2.2.1 x p x0 x1 p0 (by omega)
            have hse : shF A x p = A (16 + 10 * x + p) := rfl
            refine wi_a1 hc rfl rfl ?_
            refine wi_gr (w := 613) hc rfl rfl (by decide) (Nat.le_of_ble_eq_true rfl) rfl ?_
            refine wi_i2 hc rfl rfl ?_
            refine wi_ildv (N := 10) hc rfl rfl (by decide) (by decide) (by omega) (by omega) (v := elF (sSx A x) e) ((congrFun (hF3 613 (by decide)) _).trans (hM9 _ (by omega) (by omega))) ?_
            refine wi_a1 hc rfl rfl ?_
            refine wi_i1 hc rfl rfl ?_
            refine wi_i1 hc rfl rfl ?_
            refine wp_cv (b := 598) (As := [.int (iI x), .int (iI p)]) (r := [.int (iI (elF (sSx A x) e))]) hc rfl (by rw [cm_155]; rfl) rfl (Nat.le_of_ble_eq_true rfl) (show 598 < 621 by decide) (by rw [cm_155]; rfl) (ev_mono (sg_155 (d := 0) hJ3.1 (x := x) (p := p) (by omega) (by omega) (by omega) (by omega)) (by omega)) ?_
            show mm_wp _ _ (65, [some (.ref 598), some (.int (iI x)), some (.int (iI (sSx A x))), some (.int (iI p)), some (.int (iI e))], [.int (iI (A (16 + 10 * x + p))), .int (iI (elF (sSx A x) e))], MX L t s3 l1_) _
            refine wi_ceq hc rfl ⟨by omega, by omega⟩ ⟨by omega, by omega⟩ (fun h3_ => ?_) (fun h3_ => ?_)
            · have het : e = lnB (sSx A x) (shF A x p) := by
                rcases (by omega : e < lnB (sSx A x) (shF A x p) ∨ e = lnB (sSx A x) (shF A x p)) with q | q
                · have mo := elF_mono (S := sSx A x) (m := mS (sSx A x)) rfl e0 q (by omega)
                  omega
                · exact q
              refine wi_a1 hc rfl rfl ?_
              refine wi_gr (w := 614) hc rfl rfl (by decide) (Nat.le_of_ble_eq_true rfl) rfl ?_
              refine wi_i1 hc rfl rfl ?_
              refine wi_i2 hc rfl rfl ?_
              refine wi_ist (N := 6) hc rfl rfl (by decide) (by decide) (by omega) (by omega) ?_
              obtain ⟨s2_, es2_⟩ : ∃ q, q = up s3 614 p e := ⟨_, rfl⟩
              rw [← es2_]
              refine wi_inc (L' := [some (.ref 598), some (.int (iI x)), some (.int (iI (sSx A x))), some (.int (iI (p + 1))), some (.int (iI e))]) hc rfl rfl rfl ?_
              refine wi_go hc rfl ?_
              refine ihp (by omega) (by omega) _ s2_ (fun c9 hc9 => ((congrFun es2_ c9).trans (up_cc (by omega))).trans (hF3 c9 hc9)) (hJ3.of ((congrFun es2_ 599).trans (up_cc (by decide))) ((congrFun es2_ 601).trans (up_cc (by decide))) ((congrFun es2_ 604).trans (up_cc (by decide)))) (fun q q0 q1 => ?_)
              rw [es2_, up_ite]
              by_cases z9 : q = p
              · rw [if_pos z9, z9]; omega
              · rw [if_neg z9]; exact hw3 q q0 (by omega)
            · refine wi_inc (L' := [some (.ref 598), some (.int (iI x)), some (.int (iI (sSx A x))), some (.int (iI p)), some (.int (iI (e + 1)))]) hc rfl rfl rfl ?_
              refine wi_go hc rfl ?_
              refine ihe ?_ (by omega)
              rcases (by omega : e + 1 ≤ lnB (sSx A x) (shF A x p) ∨ e = lnB (sSx A x) (shF A x p)) with q | q
              · exact q
              · rw [← q] at hwp; omega
          exact loop52_ 0 (by omega) (by omega)
      exact loop41_ 0 (by omega) (by omega) _ s1_ (fun c _ => rfl) hJ1_ (fun q q0 q1 => by omega)
    · have gb := hB.2.2.1 x i x0 x1 i0 (by omega)
      have gp := pow_10 gb.1 (by omega)
      refine wi_i1 hc rfl rfl ?_
      refine wi_ic hc rfl ?_
      refine wi_a1 hc rfl rfl ?_
      refine wi_i1 hc rfl rfl ?_
      refine wi_i1 hc rfl rfl ?_
      refine wp_cv (b := 598) (As := [.int (iI x), .int (iI i)]) (r := [.int (iI 1), .int (iI (orS (shF A x) i.toNat))]) hc rfl (by rw [cm_155]; rfl) rfl (Nat.le_of_ble_eq_true rfl) (show 598 < 621 by decide) (by rw [cm_155]; rfl) (ev_mono (sg_155 (d := 0) hJ.1 (x := x) (p := i) (by omega) (by omega) (by omega) (by omega)) (by omega)) ?_
      show mm_wp _ _ (25, [some (.ref 598), some (.int (iI x)), some (.int (iI (orS (shF A x) i.toNat))), some (.int (iI i)), none], [.int (iI (A (16 + 10 * x + i))), .int (iI 1), .int (iI (orS (shF A x) i.toNat))], MX L t s l) _
      refine wi_shl (2 ^ (A (16 + 10 * x + i)).toNat) rfl hc rfl (by omega) (by omega) ?_
      refine wi_or hc rfl (by omega) (by omega) ?_
      refine wi_is1 (L' := [some (.ref 598), some (.int (iI x)), some (.int (iI (orI (orS (shF A x) i.toNat) (1 * (2 ^ (A (16 + 10 * x + i)).toNat))))), some (.int (iI i)), none]) hc rfl (Nat.le_of_ble_eq_true rfl) rfl ?_
      refine wi_inc (L' := [some (.ref 598), some (.int (iI x)), some (.int (iI (orI (orS (shF A x) i.toNat) (1 * (2 ^ (A (16 + 10 * x + i)).toNat))))), some (.int (iI (i + 1))), none]) hc rfl rfl rfl ?_
      refine wi_go hc rfl ?_
      have e9 : orI (orS (shF A x) i.toNat) (1 * (2 ^ (A (16 + 10 * x + i)).toNat)) = orS (shF A x) (i + 1).toNat := (orS_s i0).symm
      rw [e9]
      exact ih (by omega) (by omega)
  exact loop4_ 0 (by omega) (by omega)
