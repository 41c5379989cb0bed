/-! FITS on both sides. -/
def thF (A T : Int → Int) : Nat → Int := fun b => thickP A T b
def otF (A : Int → Int) : Nat → Prop := fun b => A (46 + 6 * b + 5) = 3
def wF (A T : Int → Int) : Nat → Int := fun b => if A (46 + 6 * b + 5) = 3 then thickP A T b else 1000000
noncomputable def fitsP (A T : Int → Int) (x : Int) : Int := if 0 ≤ x ∧ x ≤ 2 then ftA (wF A T) (A 0).toNat (A (10 + x) - fullP A T x) else -1
/-- the thinnest out of the first n that isn't in the set: which, and how thick -/
def tnN (A T : Int → Int) (G : Int) : Nat → Int × Int
  | 0 => (-1, 0)
  | n + 1 => if A (46 + 6 * n + 5) = 3 ∧ G / 2 ^ n % 2 = 0 ∧ ((tnN A T G n).1 = -1 ∨ thickP A T n < (tnN A T G n).2) then ((n : Int), thickP A T n) else tnN A T G n
theorem tnN_s {A T : Int → Int} {G b : Int} (b0 : 0 ≤ b) : tnN A T G (b + 1).toNat = if A (46 + 6 * b + 5) = 3 ∧ G / 2 ^ b.toNat % 2 = 0 ∧ ((tnN A T G b.toNat).1 = -1 ∨ thickP A T b < (tnN A T G b.toNat).2) then (b, thickP A T b) else tnN A T G b.toNat := by
  rw [show (b + 1).toNat = b.toNat + 1 by omega, tnN, show ((b.toNat : Nat) : Int) = b by omega]
theorem bt_f {X : Int} {b : Nat} : btB X b = false ↔ X / 2 ^ b % 2 = 0 := by
  unfold btB
  rw [decide_eq_false_iff_not]
  omega
theorem bt_t {X : Int} {b : Nat} : btB X b = true ↔ X / 2 ^ b % 2 = 1 := by
  unfold btB
  rw [decide_eq_true_eq]
def tnOk (A T : Int → Int) (G : Int) (n : Nat) (p : Int × Int) : Prop := (p.1 = -1 ∧ p.2 = 0 ∧ ∀ b : Nat, b < n → otF A b → btB G b = true) ∨ ((0 ≤ p.1 ∧ p.1 < n) ∧ otF A p.1.toNat ∧ btB G p.1.toNat = false ∧ p.2 = thF A T p.1.toNat ∧ ∀ b : Nat, b < n → otF A b → btB G b = false → p.2 < thF A T b ∨ (p.2 = thF A T b ∧ p.1.toNat ≤ b))
theorem tnN_ok (A T : Int → Int) (G : Int) : ∀ n : Nat, tnOk A T G n (tnN A T G n)
  | 0 => Or.inl ⟨rfl, rfl, fun b hb => absurd hb (by omega)⟩
  | n + 1 => by
    have ih := tnN_ok A T G n
    have cut : ∀ b : Nat, b < n + 1 → b < n ∨ b = n := fun b h => by omega
    unfold tnN
    by_cases c : A (46 + 6 * n + 5) = 3 ∧ G / 2 ^ n % 2 = 0 ∧ ((tnN A T G n).1 = -1 ∨ thickP A T n < (tnN A T G n).2)
    · rw [if_pos c]
      refine Or.inr ⟨⟨by show (0 : Int) ≤ n; omega, by show (n : Int) < ((n + 1 : Nat) : Int); omega⟩, c.1, bt_f.mpr c.2.1, rfl, fun b hb h1 h2 => ?_⟩
      show thickP A T n < thF A T b ∨ (thickP A T n = thF A T b ∧ ((n : Int)).toNat ≤ b)
      rcases cut b hb with z | z
      · rcases ih with y | y
        · have := y.2.2 b z h1
          rw [h2] at this
          exact absurd this (by decide)
        · have h3 := y.2.2.2.2 b z h1 h2
          rcases c.2.2 with u | u
          · omega
          · omega
      · rw [z]; exact Or.inr ⟨rfl, by omega⟩
    · rw [if_neg c]
      have hn : otF A n → btB G n = false → ¬ ((tnN A T G n).1 = -1 ∨ thickP A T n < (tnN A T G n).2) := fun h1 h2 q => c ⟨h1, bt_f.mp h2, q⟩
      rcases ih with y | y
      · refine Or.inl ⟨y.1, y.2.1, fun b hb h1 => ?_⟩
        rcases cut b hb with z | z
        · exact y.2.2 b z h1
        · rw [z] at h1 ⊢
          rcases Bool.eq_false_or_eq_true (btB G n) with u | u
          · exact u
          · exact absurd (Or.inl y.1) (hn h1 u)
      · refine Or.inr ⟨⟨y.1.1, by omega⟩, y.2.1, y.2.2.1, y.2.2.2.1, fun b hb h1 h2 => ?_⟩
        rcases cut b hb with z | z
        · exact y.2.2.2.2 b z h1 h2
        · rw [z] at h1 h2 ⊢
          have h3 := hn h1 h2
          have h4 : thF A T n = thickP A T n := rfl
          rcases (by omega : (tnN A T G n).2 < thickP A T n ∨ (tnN A T G n).2 = thickP A T n) with u | u
          · exact Or.inl (by omega)
          · exact Or.inr ⟨by omega, by omega⟩
def FtI (A T : Int → Int) (free G i f : Int) : Prop := (GFi (A 0).toNat (thF A T) (otF A) (btB G) i ∧ 0 ≤ G ∧ G < 2 ^ (A 0).toNat) ∧ f = free - bS (thF A T) (btB G) (A 0).toNat ∧ (G = 0 ∨ bS (thF A T) (btB G) (A 0).toNat ≤ free)
section FTI
variable {A T : Int → Int} {free G i f : Int}
theorem th_ok (hV : VJ A T) : ∀ b : Nat, b < (A 0).toNat → 1 ≤ thF A T b := fun b hb => (thickP_r hV (b := b) (by omega) (by omega)).1
theorem FtI_0 (hV : VJ A T) : FtI A T free 0 0 free := by
  have e : btB 0 = fun _ => false := funext bt_0
  refine ⟨⟨?_, by omega, pw_pos (A 0)⟩, ?_, Or.inl rfl⟩
  · rw [e]; exact GFi_0 (fun b hb _ => by have := th_ok hV b hb; omega)
  · rw [bS_0]; omega
theorem FtI_r (hV : VJ A T) (h : FtI A T free G i f) : (0 ≤ G ∧ G < 1024) ∧ f ≤ free ∧ (f = free ∨ 0 ≤ f) := by
  have h1 := bS_nn (w := thF A T) (p := btB G) (A 0).toNat (fun b hb => by have := th_ok hV b hb; omega)
  have hp : (2 : Int) ^ (A 0).toNat ≤ 2 ^ 10 := pow2_le (by have := hV.1; omega)
  have hp : (2 : Int) ^ (A 0).toNat ≤ 1024 := hp
  refine ⟨⟨h.1.2.1, by have := h.1.2.2; omega⟩, by have := h.2.1; omega, ?_⟩
  rcases h.2.2 with z | z
  · left
    have := h.2.1
    rw [z, bS_0] at this
    omega
  · right; have := h.2.1; omega
theorem ad_bt (G0 : 0 ≤ G) (m : Nat) : btB (orI G (1 * 2 ^ m)) = adB (btB G) m := by
  funext b
  unfold adB btB
  rw [bit_or1 G0]
  by_cases c : b = m
  · rw [if_pos c, if_pos c]; rfl
  · rw [if_neg c, if_neg c]
theorem FtI_step (hV : VJ A T) (h : FtI A T free G i f) {g : Int} (hg : g = (tnN A T G (A 0).toNat).1) (g0 : g ≠ -1) (hf : thickP A T g ≤ f) : FtI A T free (orI G (1 * 2 ^ g.toNat)) (i + 1) (f - thickP A T g) := by
  have hA := hV.1
  have ht := tnN_ok A T G (A 0).toNat
  rcases ht with z | ⟨a, b, c, d, e⟩
  · omega
  · rw [← hg] at a b c e
    have d : (tnN A T G (A 0).toNat).2 = thF A T g.toNat := by rw [hg]; exact d
    have hth : thF A T g.toNat = thickP A T g := by unfold thF; rw [show ((g.toNat : Nat) : Int) = g by omega]
    have hgN : g.toNat < (A 0).toNat := by omega
    have st := GFi_step h.1.1 hgN b c (fun x x1 x2 x3 => by have := e x x1 x2 x3; omega)
    have eb := bS_ad (w := thF A T) c (A 0).toNat
    rw [if_pos hgN] at eb
    have hlt : orI G (1 * 2 ^ g.toNat) < 2 ^ (A 0).toNat := by
      unfold orI
      rw [Int.one_mul, p2c, p2c, Int.toNat_natCast]
      have h1 := h.1.2.2
      rw [p2c] at h1
      exact_mod_cast Nat.or_lt_two_pow (x := G.toNat) (y := 2 ^ g.toNat) (n := (A 0).toNat) (by have := h.1.2.1; omega) (Nat.pow_lt_pow_right (by decide) hgN)
    unfold FtI
    rw [ad_bt h.1.2.1]
    exact ⟨⟨st, Int.natCast_nonneg _, hlt⟩, by rw [eb]; have := h.2.1; omega, Or.inr (by rw [eb]; have := h.2.1; omega)⟩
theorem FtI_end (hV : VJ A T) (hfr : free < 1000000) (h : FtI A T free G i f) (hs : ∀ p : Nat → Bool, (∀ b : Nat, p b = true → b < (A 0).toNat ∧ otF A b) → bS (thF A T) p (A 0).toNat ≤ free → bS (fun _ => 1) p (A 0).toNat ≤ i) : ftA (wF A T) (A 0).toNat free = G := by
  have hA := hV.1
  refine ftA_of (by omega) (isFt_of (by omega) h.1.1 (fun b _ => ⟨fun z => if_pos z, fun z => if_neg z⟩) (fun b hb _ => by have := th_ok hV b hb; omega) hfr h.1.2.1 h.1.2.2 h.2.2 hs)
theorem FtI_stop (hV : VJ A T) (hfr : free < 1000000) (h : FtI A T free G i f) {g : Int} (hg : g = (tnN A T G (A 0).toNat).1) (hx : g = -1 ∨ (g ≠ -1 ∧ f < thickP A T g)) : ftA (wF A T) (A 0).toNat free = G := by
  have hA := hV.1
  refine FtI_end hV hfr h (fun p hp hf => GFi_stop h.1.1 ?_ hp hf)
  rcases tnN_ok A T G (A 0).toNat with z | ⟨a, b, c, d, e⟩
  · exact Or.inl z.2.2
  · rw [← hg] at a b c e
    have d : (tnN A T G (A 0).toNat).2 = thF A T g.toNat := by rw [hg]; exact d
    have hth : thF A T g.toNat = thickP A T g := by unfold thF; rw [show ((g.toNat : Nat) : Int) = g by omega]
    refine Or.inr ⟨g.toNat, by omega, fun x x1 x2 x3 => by have := e x x1 x2 x3; omega, ?_⟩
    have := h.2.1
    omega
theorem FtI_full (hV : VJ A T) (hfr : free < 1000000) (h : FtI A T free G i f) (hi : 10 ≤ i) : ftA (wF A T) (A 0).toNat free = G := by
  have hA := hV.1
  refine FtI_end hV hfr h (fun p hp hf => ?_)
  have key : ∀ n : Nat, bS (fun _ => 1) p n ≤ n := by
    intro n
    induction n with
    | zero => exact Int.le_refl 0
    | succ n ih => rw [bS]; split <;> omega
  have := key (A 0).toNat
  omega
end FTI
theorem wF_s {A T : Int → Int} {X b : Int} (b0 : 0 ≤ b) : bS (wF A T) (btB X) (b + 1).toNat = bS (wF A T) (btB X) b.toNat + if X / 2 ^ b.toNat % 2 = 1 then (if A (46 + 6 * b + 5) = 3 then thickP A T b else 1000000) else 0 := by
  rw [show (b + 1).toNat = b.toNat + 1 by omega, bS]
  congr 1
  by_cases c : X / 2 ^ b.toNat % 2 = 1
  · rw [if_pos c, if_pos (bt_t.mpr c)]
    unfold wF
    rw [show ((b.toNat : Nat) : Int) = b by omega]
  · rw [if_neg c, if_neg (fun q => c (bt_t.mp q))]
theorem wF_r {A T : Int → Int} {X : Int} (hV : VJ A T) : ∀ n : Nat, (n : Int) ≤ A 0 → 0 ≤ bS (wF A T) (btB X) n ∧ bS (wF A T) (btB X) n ≤ 1000000 * n
  | 0, _ => ⟨Int.le_refl 0, Int.le_refl 0⟩
  | n + 1, h => by
    have ih := wF_r (X := X) hV n (by omega)
    have ht := thickP_r hV (b := n) (by omega) (by omega)
    have hw : 0 ≤ wF A T n ∧ wF A T n ≤ 1000000 := by unfold wF; split <;> omega
    rw [bS]
    split <;> omega
theorem tnN_r {A T : Int → Int} {G : Int} (hV : VJ A T) (n : Nat) (hn : (n : Int) ≤ A 0) : -1 ≤ (tnN A T G n).1 ∧ (tnN A T G n).1 < 10 ∧ 0 ≤ (tnN A T G n).2 ∧ (tnN A T G n).2 ≤ 18 ∧ ((tnN A T G n).1 ≠ -1 → (tnN A T G n).1 < n) := by
  have hA := hV.1
  rcases tnN_ok A T G n with z | ⟨a, b, c, d, e⟩
  · omega
  · have := thickP_r hV (b := (tnN A T G n).1.toNat) (by omega) (by omega)
    have d : (tnN A T G n).2 = thickP A T (((tnN A T G n).1.toNat : Nat) : Int) := d
    omega
theorem sp_145 {d L t : Nat} {s l : Nat → Int → Int} {A T : Int → Int} (hJ : JC s A T) (hK : KA A T) {G : Int} (hG : 0 ≤ G ∧ G < 1024) : ∃ s1, mm_Ev mm_ct mm_CM (d + 4) 145 [.ref 0, .int (iI G)] (MX L t s l) (some (.int (iI (tnN A T G (A 0).toNat).1)), MX L t s1 l) ∧ (∀ c, c ≠ 578 ∧ c ≠ 579 → s1 c = s c) ∧ JC s1 A T := by
  have hc : (mm_CM 145).2.2.2.2.2.2.2 = mm_cf cd_145 := by rw [cm_145]; rfl
  refine ev_xs ?_
  refine ev_to (mx := 6) (by rw [cm_145]; decide) (by rw [cm_145]; rfl) (by show 2 ≤ _; decide) ?_
  show mm_wp _ _ (0, [some (.ref 0), some (.int (iI G)), none, none, none, none], [], MX L t s l) (fun res => ∃ s1, res = (some (.int (iI (tnN A T G (A 0).toNat).1)), MX L t s1 l) ∧ (∀ c, c ≠ 578 ∧ c ≠ 579 → s1 c = s c) ∧ JC s1 A T)
  have hV := hK.1
  have hB := hK.2.1
  have g0 := hB.1
  refine wi_ic hc rfl ?_
  refine wi_is1 (L' := [some (.ref 0), some (.int (iI G)), some (.int (iI (-1))), none, none, none]) hc rfl (Nat.le_of_ble_eq_true rfl) rfl ?_
  refine wi_ic hc rfl ?_
  refine wi_is1 (L' := [some (.ref 0), some (.int (iI G)), some (.int (iI (-1))), some (.int (iI 0)), none, none]) hc rfl (Nat.le_of_ble_eq_true rfl) rfl ?_
  refine wi_ic hc rfl ?_
  refine wi_is2 (L' := [some (.ref 0), some (.int (iI G)), some (.int (iI (-1))), some (.int (iI 0)), some (.int (iI 0)), none]) hc rfl (Nat.le_of_ble_eq_true rfl) rfl ?_
  have loop7_ : ∀ b : Int, b ≤ A 0 → 0 ≤ b → ∀ (o5 : Option Value) (s3 : Nat → Int → Int), (∀ c, c ≠ 578 ∧ c ≠ 579 → s3 c = s c) → JC s3 A T → mm_wp (mm_Ev mm_ct mm_CM (d + 3)) 145 (7, [some (.ref 0), some (.int (iI G)), some (.int (iI ((tnN A T G b.toNat).1))), some (.int (iI ((tnN A T G b.toNat).2))), some (.int (iI b)), o5], [], MX L t s3 l) (fun res => ∃ s1, res = (some (.int (iI (tnN A T G (A 0).toNat).1)), MX L t s1 l) ∧ (∀ c, c ≠ 578 ∧ c ≠ 579 → s1 c = s c) ∧ JC s1 A T) := by
    refine up_ind ?_
    intro b hb9 ih b0 o5 s3 hF3 hJ3
    have htr := tnN_r (A := A) (T := T) (G := G) hV b.toNat (by omega)
    refine wi_i2 hc rfl rfl ?_
    refine wi_a1 hc rfl rfl ?_
    refine wi_gr (w := 1) hc rfl rfl (by decide) (Nat.le_of_ble_eq_true rfl) rfl ?_
    refine wi_gfv (kz := 8) rfl hc rfl rfl (by decide) (Nat.le_of_ble_eq_true rfl) rfl (v := A 0) (lb_books hJ3.1) ?_
    refine wi_cge hc rfl ⟨by omega, by omega⟩ ⟨by omega, by omega⟩ (fun h1_ => ?_) (fun h1_ => ?_)
    · refine wi_i1 hc rfl rfl ?_
      refine wi_ri hc rfl (by rw [cm_145]; rfl) ?_
      rw [show A 0 = b by omega]
      exact ⟨s3, rfl, fun c hc9_ => hF3 c (by omega), hJ3⟩
    · have hbw := (hB.2.2.2.2 b (by omega) (by omega)).1
      refine wi_a1 hc rfl rfl ?_
      refine wi_gr (w := 1) hc rfl rfl (by decide) (Nat.le_of_ble_eq_true rfl) rfl ?_
      refine wi_gr (w := 2) hc rfl rfl (by decide) (Nat.le_of_ble_eq_true rfl) rfl ?_
      refine wi_gr (w := 8) hc rfl rfl (by decide) (Nat.le_of_ble_eq_true rfl) rfl ?_
      refine wi_i2 hc rfl rfl ?_
      refine wi_ildv (N := 10) hc rfl rfl (by decide) (by decide) (by omega) (by omega) (v := A (46 + 6 * b + 5)) (lb_where hJ3.1 (by omega) (by omega) (by omega)) ?_
      refine wi_ic hc rfl ?_
      refine wi_cne hc rfl ⟨by omega, by omega⟩ ⟨by decide, by decide⟩ (fun h2_ => ?_) (fun h2_ => ?_)
      · refine wi_inc (L' := [some (.ref 0), some (.int (iI G)), some (.int (iI ((tnN A T G b.toNat).1))), some (.int (iI ((tnN A T G b.toNat).2))), some (.int (iI (b + 1))), o5]) hc rfl rfl rfl ?_
        refine wi_go hc rfl ?_
        have e8 := tnN_s (A := A) (T := T) (G := G) b0
        rw [if_neg (by omega)] at e8
        have key9 := ih (by omega) (by omega) o5 s3 (fun c hc9_ => hF3 c (by omega)) hJ3
        rw [e8] at key9
        exact key9
      · refine wi_i1 hc rfl rfl ?_
        refine wi_i2 hc rfl rfl ?_
        refine wp_cs (As := [.int (iI G), .int (iI b)]) (r := []) hc rfl (by rw [cm_128]; rfl) rfl (Nat.le_of_ble_eq_true rfl) (ev_mono (sp_128 (d := 0) ⟨by omega, by omega⟩ (by omega) (by omega) (by omega)) (by omega)) ?_
        show mm_wp _ _ (42, [some (.ref 0), some (.int (iI G)), some (.int (iI ((tnN A T G b.toNat).1))), some (.int (iI ((tnN A T G b.toNat).2))), some (.int (iI b)), o5], [.int (iI (G / 2 ^ b.toNat % 2))], MX L t s3 l) _
        refine wi_zne hc rfl ⟨by omega, by omega⟩ (fun h3_ => ?_) (fun h3_ => ?_)
        · refine wi_inc (L' := [some (.ref 0), some (.int (iI G)), some (.int (iI ((tnN A T G b.toNat).1))), some (.int (iI ((tnN A T G b.toNat).2))), some (.int (iI (b + 1))), o5]) hc rfl rfl rfl ?_
          refine wi_go hc rfl ?_
          have e8 := tnN_s (A := A) (T := T) (G := G) b0
          rw [if_neg (by omega)] at e8
          have key9 := ih (by omega) (by omega) o5 s3 (fun c hc9_ => hF3 c (by omega)) hJ3
          rw [e8] at key9
          exact key9
        · refine wi_a1 hc rfl rfl ?_
          refine wi_gr (w := 577) hc rfl rfl (by decide) (Nat.le_of_ble_eq_true rfl) rfl ?_
          refine wi_a1 hc rfl rfl ?_
          refine wi_gr (w := 1) hc rfl rfl (by decide) (Nat.le_of_ble_eq_true rfl) rfl ?_
          refine wi_i2 hc rfl rfl ?_
          obtain ⟨s1_, hE1_, hF1_, hJ1_⟩ := sp_3 (d := 0) (L := L) (t := t) (l := l) hJ3 hK.1 (b := b) (by omega) (by omega)
          refine wp_cv (b := 577) (As := [.ref 1, .int (iI b)]) (r := []) hc rfl (by rw [cm_3]; rfl) rfl (Nat.le_of_ble_eq_true rfl) (show 577 < 621 by decide) (by rw [cm_3]; rfl) (ev_mono hE1_ (by omega)) ?_
          show mm_wp _ _ (58, [some (.ref 0), some (.int (iI G)), some (.int (iI ((tnN A T G b.toNat).1))), some (.int (iI ((tnN A T G b.toNat).2))), some (.int (iI b)), o5], [.int (iI (thickP A T b))], MX L t s1_ l) _
          have hth := thickP_r hV (b := b) (by omega) (by omega)
          refine wi_is2 (L' := [some (.ref 0), some (.int (iI G)), some (.int (iI ((tnN A T G b.toNat).1))), some (.int (iI ((tnN A T G b.toNat).2))), some (.int (iI b)), some (.int (iI (thickP A T b)))]) hc rfl (Nat.le_of_ble_eq_true rfl) rfl ?_
          have hth := thickP_r hV (b := b) (by omega) (by omega)
          refine wi_i1 hc rfl rfl ?_
          refine wi_ic hc rfl ?_
          refine wi_ceq hc rfl ⟨by omega, by omega⟩ ⟨by decide, by decide⟩ (fun h4_ => ?_) (fun h4_ => ?_)
          · refine wi_i2 hc rfl rfl ?_
            refine wi_is1 (L' := [some (.ref 0), some (.int (iI G)), some (.int (iI b)), some (.int (iI ((tnN A T G b.toNat).2))), some (.int (iI b)), some (.int (iI (thickP A T b)))]) hc rfl (Nat.le_of_ble_eq_true rfl) rfl ?_
            refine wi_i2 hc rfl rfl ?_
            refine wi_is1 (L' := [some (.ref 0), some (.int (iI G)), some (.int (iI b)), some (.int (iI (thickP A T b))), some (.int (iI b)), some (.int (iI (thickP A T b)))]) hc rfl (Nat.le_of_ble_eq_true rfl) rfl ?_
            refine wi_inc (L' := [some (.ref 0), some (.int (iI G)), some (.int (iI b)), some (.int (iI (thickP A T b))), some (.int (iI (b + 1))), some (.int (iI (thickP A T b)))]) hc rfl rfl rfl ?_
            refine wi_go hc rfl ?_
            have e8 := tnN_s (A := A) (T := T) (G := G) b0
            rw [if_pos ⟨by omega, by omega, by omega⟩] at e8
            have e1 : b = (tnN A T G (b + 1).toNat).1 := by rw [e8]
            have e2 : thickP A T b = (tnN A T G (b + 1).toNat).2 := by rw [e8]
            have key9 := ih (by omega) (by omega) (some (.int (iI (thickP A T b)))) s1_ (fun c hc9_ => (hF1_ c (by omega)).trans (hF3 c (by omega))) hJ1_
            rw [e8] at key9
            exact key9
          · refine wi_i2 hc rfl rfl ?_
            refine wi_i1 hc rfl rfl ?_
            refine wi_cge hc rfl ⟨by omega, by omega⟩ ⟨by omega, by omega⟩ (fun h5_ => ?_) (fun h5_ => ?_)
            · refine wi_inc (L' := [some (.ref 0), some (.int (iI G)), some (.int (iI ((tnN A T G b.toNat).1))), some (.int (iI ((tnN A T G b.toNat).2))), some (.int (iI (b + 1))), some (.int (iI (thickP A T b)))]) hc rfl rfl rfl ?_
              refine wi_go hc rfl ?_
              have e8 := tnN_s (A := A) (T := T) (G := G) b0
              rw [if_neg (by omega)] at e8
              have key9 := ih (by omega) (by omega) (some (.int (iI (thickP A T b)))) s1_ (fun c hc9_ => (hF1_ c (by omega)).trans (hF3 c (by omega))) hJ1_
              rw [e8] at key9
              exact key9
            · refine wi_i2 hc rfl rfl ?_
              refine wi_is1 (L' := [some (.ref 0), some (.int (iI G)), some (.int (iI b)), some (.int (iI ((tnN A T G b.toNat).2))), some (.int (iI b)), some (.int (iI (thickP A T b)))]) hc rfl (Nat.le_of_ble_eq_true rfl) rfl ?_
              refine wi_i2 hc rfl rfl ?_
              refine wi_is1 (L' := [some (.ref 0), some (.int (iI G)), some (.int (iI b)), some (.int (iI (thickP A T b))), some (.int (iI b)), some (.int (iI (thickP A T b)))]) hc rfl (Nat.le_of_ble_eq_true rfl) rfl ?_
              refine wi_inc (L' := [some (.ref 0), some (.int (iI G)), some (.int (iI b)), some (.int (iI (thickP A T b))), some (.int (iI (b + 1))), some (.int (iI (thickP A T b)))]) hc rfl rfl rfl ?_
              refine wi_go hc rfl ?_
              have e8 := tnN_s (A := A) (T := T) (G := G) b0
              rw [if_pos ⟨by omega, by omega, by omega⟩] at e8
              have e1 : b = (tnN A T G (b + 1).toNat).1 := by rw [e8]
              have e2 : thickP A T b = (tnN A T G (b + 1).toNat).2 := by rw [e8]
              have key9 := ih (by omega) (by omega) (some (.int (iI (thickP A T b)))) s1_ (fun c hc9_ => (hF1_ c (by omega)).trans (hF3 c (by omega))) hJ1_
              rw [e8] at key9
              exact key9
  exact loop7_ 0 (by omega) (by omega) _ s (fun c _ => rfl) hJ
theorem sp_121 {d L t : Nat} {s l : Nat → Int → Int} {A T : Int → Int} (hJ : JC s A T) (hK : KA A T) {x : Int} (hx : rI x) : ∃ s1, mm_Ev mm_ct mm_CM (d + 7) 121 [.ref 0, .int (iI x)] (MX L t s l) (some (.int (iI (fitsP A T x))), MX L t s1 l) ∧ (∀ c, c ≠ 578 ∧ c ≠ 579 → s1 c = s c) ∧ JC s1 A T := by
  have hc : (mm_CM 121).2.2.2.2.2.2.2 = mm_cf cd_121 := by rw [cm_121]; rfl
  refine ev_xs ?_
  refine ev_to (mx := 6) (by rw [cm_121]; decide) (by rw [cm_121]; rfl) (by show 2 ≤ _; decide) ?_
  show mm_wp _ _ (0, [some (.ref 0), some (.int (iI x)), none, none, none, none], [], MX L t s l) (fun res => ∃ s1, res = (some (.int (iI (fitsP A T x))), MX L t s1 l) ∧ (∀ c, c ≠ 578 ∧ c ≠ 579 → s1 c = s c) ∧ JC s1 A T)
  have hV := hK.1
  have hB := hK.2.1
  have g0 := hB.1
  refine wi_i1 hc rfl rfl ?_
  refine wp_cs (As := [.int (iI x)]) (r := []) hc rfl (by rw [cm_125]; rfl) rfl (Nat.le_of_ble_eq_true rfl) (ev_mono (sp_125 (d := 0) hx) (by omega)) ?_
  show mm_wp _ _ (4, [some (.ref 0), some (.int (iI x)), none, none, none, none], [.int (iI (bI (0 ≤ x ∧ x ≤ 2)))], MX L t s l) _
  refine wi_bne hc rfl (fun h1_ => ?_) (fun h1_ => ?_)
  · have hw9 := hK.2.2.1.2.2.2.2.1 x (by omega) (by omega)
    have gm := hB.2.1 x (by omega) (by omega)
    have hfr0 := fullN_r hV hB (x := x) (by omega) (by omega) (A (13 + x)).toNat (by omega)
    have hfd : fullP A T x = fullN A T x (A (13 + x)).toNat := rfl
    refine wi_a1 hc rfl rfl ?_
    refine wi_gr (w := 1) hc rfl rfl (by decide) (Nat.le_of_ble_eq_true rfl) rfl ?_
    refine wi_gr (w := 11) hc rfl rfl (by decide) (Nat.le_of_ble_eq_true rfl) rfl ?_
    refine wi_i1 hc rfl rfl ?_
    refine wi_ildv (N := 3) hc rfl rfl (by decide) (by decide) (by omega) (by omega) (v := A (10 + x)) (lb_wid hJ.1 (by omega) (by omega)) ?_
    refine wi_a1 hc rfl rfl ?_
    refine wi_gr (w := 577) hc rfl rfl (by decide) (Nat.le_of_ble_eq_true rfl) rfl ?_
    refine wi_a1 hc rfl rfl ?_
    refine wi_gr (w := 1) hc rfl rfl (by decide) (Nat.le_of_ble_eq_true rfl) rfl ?_
    refine wi_i1 hc rfl rfl ?_
    obtain ⟨s1_, hE1_, hF1_, hJ1_⟩ := sp_4 (d := 0) (L := L) (t := t) (l := l) hJ hK.1 (x := x) (by omega) (by omega) (hK.2.1.2.1 _ (by omega) (by omega)).1 (hK.2.1.2.1 _ (by omega) (by omega)).2 (fun p p0 p1 => ⟨(hK.2.1.2.2.1 _ p (by omega) (by omega) p0 p1).1, (hK.2.1.2.2.1 _ p (by omega) (by omega) p0 p1).2.1⟩)
    refine wp_cv (b := 577) (As := [.ref 1, .int (iI x)]) (r := [.int (iI (A (10 + x)))]) hc rfl (by rw [cm_4]; rfl) rfl (Nat.le_of_ble_eq_true rfl) (show 577 < 621 by decide) (by rw [cm_4]; rfl) (ev_mono hE1_ (by omega)) ?_
    show mm_wp _ _ (30, [some (.ref 0), some (.int (iI x)), none, none, none, none], [.int (iI (fullP A T x)), .int (iI (A (10 + x)))], MX L t s1_ l) _
    refine wi_sub hc rfl ?_
    obtain ⟨fr, hfr⟩ : ∃ z9, z9 = (A (10 + x) - fullP A T x) := ⟨_, rfl⟩
    rw [← hfr]
    have hfx : -1000 ≤ fr ∧ fr ≤ 99 := by omega
    refine wi_is1 (L' := [some (.ref 0), some (.int (iI x)), some (.int (iI fr)), none, none, none]) hc rfl (Nat.le_of_ble_eq_true rfl) rfl ?_
    refine wi_ic hc rfl ?_
    refine wi_is1 (L' := [some (.ref 0), some (.int (iI x)), some (.int (iI fr)), some (.int (iI 0)), none, none]) hc rfl (Nat.le_of_ble_eq_true rfl) rfl ?_
    refine wi_ic hc rfl ?_
    refine wi_is2 (L' := [some (.ref 0), some (.int (iI x)), some (.int (iI fr)), some (.int (iI 0)), some (.int (iI 0)), none]) hc rfl (Nat.le_of_ble_eq_true rfl) rfl ?_
    have loop37_ : ∀ i : Int, i ≤ 10 → 0 ≤ i → ∀ (f G : Int) (o5 : Option Value) (s3 : Nat → Int → Int), (∀ c, c ≠ 578 ∧ c ≠ 579 → s3 c = s c) → JC s3 A T → FtI A T fr G i f → mm_wp (mm_Ev mm_ct mm_CM (d + 6)) 121 (37, [some (.ref 0), some (.int (iI x)), some (.int (iI f)), some (.int (iI G)), some (.int (iI i)), o5], [], MX L t s3 l) (fun res => ∃ s1, res = (some (.int (iI (fitsP A T x))), MX L t s1 l) ∧ (∀ c, c ≠ 578 ∧ c ≠ 579 → s1 c = s c) ∧ JC s1 A T) := by
      refine up_ind ?_
      intro i hi9 ih i0 f G o5 s3 hF3 hJ3 hft
      have hfr2 := FtI_r hV hft
      refine wi_i2 hc rfl rfl ?_
      refine wi_bi hc rfl rfl ?_
      refine wi_cge hc rfl ⟨by omega, by omega⟩ ⟨by decide, by decide⟩ (fun h2_ => ?_) (fun h2_ => ?_)
      · refine wi_i1 hc rfl rfl ?_
        refine wi_ri hc rfl (by rw [cm_121]; rfl) ?_
        have hR : fitsP A T x = G := by
          unfold fitsP
          rw [if_pos (by omega), ← hfr]
          first
          | exact FtI_stop hV (by omega) hft hg (by omega)
          | exact FtI_full hV (by omega) hft (by omega)
        rw [hR]
        exact ⟨s3, rfl, fun c hc9_ => hF3 c (by omega), hJ3⟩
      · refine wi_a1 hc rfl rfl ?_
        refine wi_i1 hc rfl rfl ?_
        obtain ⟨s2_, hE2_, hF2_, hJ2_⟩ := sp_145 (d := 0) (L := L) (t := t) (l := l) hJ3 hK (G := G) hfr2.1
        refine wp_cv (b := 0) (As := [.int (iI G)]) (r := []) hc rfl (by rw [cm_145]; rfl) rfl (Nat.le_of_ble_eq_true rfl) (show 0 < 621 by decide) (by rw [cm_145]; rfl) (ev_mono hE2_ (by omega)) ?_
        have htr := tnN_r (A := A) (T := T) (G := G) hV (A 0).toNat (by omega)
        obtain ⟨g, hg⟩ : ∃ z9, z9 = (tnN A T G (A 0).toNat).1 := ⟨_, rfl⟩
        rw [← hg] at htr
        rw [← hg]
        show mm_wp _ _ (49, [some (.ref 0), some (.int (iI x)), some (.int (iI f)), some (.int (iI G)), some (.int (iI i)), o5], [.int (iI g)], MX L t s2_ l) _
        refine wi_is2 (L' := [some (.ref 0), some (.int (iI x)), some (.int (iI f)), some (.int (iI G)), some (.int (iI i)), some (.int (iI g))]) hc rfl (Nat.le_of_ble_eq_true rfl) rfl ?_
        refine wi_i2 hc rfl rfl ?_
        refine wi_ic hc rfl ?_
        refine wi_ceq hc rfl ⟨by omega, by omega⟩ ⟨by decide, by decide⟩ (fun h3_ => ?_) (fun h3_ => ?_)
        · refine wi_i1 hc rfl rfl ?_
          refine wi_ri hc rfl (by rw [cm_121]; rfl) ?_
          have hR : fitsP A T x = G := by
            unfold fitsP
            rw [if_pos (by omega), ← hfr]
            first
            | exact FtI_stop hV (by omega) hft hg (by omega)
            | exact FtI_full hV (by omega) hft (by omega)
          rw [hR]
          exact ⟨s2_, rfl, fun c hc9_ => (hF2_ c (by omega)).trans (hF3 c (by omega)), hJ2_⟩
        · have hth := thickP_r hV (b := g) (by omega) (by omega)
          refine wi_a1 hc rfl rfl ?_
          refine wi_gr (w := 577) hc rfl rfl (by decide) (Nat.le_of_ble_eq_true rfl) rfl ?_
          refine wi_a1 hc rfl rfl ?_
          refine wi_gr (w := 1) hc rfl rfl (by decide) (Nat.le_of_ble_eq_true rfl) rfl ?_
          refine wi_i2 hc rfl rfl ?_
          obtain ⟨s3_, hE3_, hF3_, hJ3_⟩ := sp_3 (d := 0) (L := L) (t := t) (l := l) hJ2_ hK.1 (b := g) (by omega) (by omega)
          refine wp_cv (b := 577) (As := [.ref 1, .int (iI g)]) (r := []) hc rfl (by rw [cm_3]; rfl) rfl (Nat.le_of_ble_eq_true rfl) (show 577 < 621 by decide) (by rw [cm_3]; rfl) (ev_mono hE3_ (by omega)) ?_
          show mm_wp _ _ (70, [some (.ref 0), some (.int (iI x)), some (.int (iI f)), some (.int (iI G)), some (.int (iI i)), some (.int (iI g))], [.int (iI (thickP A T g))], MX L t s3_ l) _
          refine wi_i1 hc rfl rfl ?_
          refine wi_cle hc rfl ⟨by omega, by omega⟩ ⟨by omega, by omega⟩ (fun h4_ => ?_) (fun h4_ => ?_)
          · refine wi_i1 hc rfl rfl ?_
            refine wi_a1 hc rfl rfl ?_
            refine wi_gr (w := 577) hc rfl rfl (by decide) (Nat.le_of_ble_eq_true rfl) rfl ?_
            refine wi_a1 hc rfl rfl ?_
            refine wi_gr (w := 1) hc rfl rfl (by decide) (Nat.le_of_ble_eq_true rfl) rfl ?_
            refine wi_i2 hc rfl rfl ?_
            obtain ⟨s4_, hE4_, hF4_, hJ4_⟩ := sp_3 (d := 0) (L := L) (t := t) (l := l) hJ3_ hK.1 (b := g) (by omega) (by omega)
            refine wp_cv (b := 577) (As := [.ref 1, .int (iI g)]) (r := [.int (iI f)]) hc rfl (by rw [cm_3]; rfl) rfl (Nat.le_of_ble_eq_true rfl) (show 577 < 621 by decide) (by rw [cm_3]; rfl) (ev_mono hE4_ (by omega)) ?_
            show mm_wp _ _ (90, [some (.ref 0), some (.int (iI x)), some (.int (iI f)), some (.int (iI G)), some (.int (iI i)), some (.int (iI g))], [.int (iI (thickP A T g)), .int (iI f)], MX L t s4_ l) _
            refine wi_sub hc rfl ?_
            refine wi_is1 (L' := [some (.ref 0), some (.int (iI x)), some (.int (iI (f - (thickP A T g)))), some (.int (iI G)), some (.int (iI i)), some (.int (iI g))]) hc rfl (Nat.le_of_ble_eq_true rfl) rfl ?_
            refine wi_i1 hc rfl rfl ?_
            refine wi_ic hc rfl ?_
            refine wi_i2 hc rfl rfl ?_
            have hpp := pw_pos g
            refine wi_shl (2 ^ g.toNat) rfl hc rfl (by omega) (by omega) ?_
            refine wi_or hc rfl (by omega) (by omega) ?_
            refine wi_is1 (L' := [some (.ref 0), some (.int (iI x)), some (.int (iI (f - (thickP A T g)))), some (.int (iI (orI G (1 * (2 ^ g.toNat))))), some (.int (iI i)), some (.int (iI g))]) hc rfl (Nat.le_of_ble_eq_true rfl) rfl ?_
            refine wi_inc (L' := [some (.ref 0), some (.int (iI x)), some (.int (iI (f - (thickP A T g)))), some (.int (iI (orI G (1 * (2 ^ g.toNat))))), some (.int (iI (i + 1))), some (.int (iI g))]) hc rfl rfl rfl ?_
            refine wi_go hc rfl ?_
            exact ih (by omega) (by omega) _ _ _ s4_ (fun c hc9_ => (hF4_ c (by omega)).trans ((hF3_ c (by omega)).trans ((hF2_ c (by omega)).trans (hF3 c (by omega))))) hJ4_ (FtI_step hV hft hg (by omega) (by omega))
          · refine wi_i1 hc rfl rfl ?_
            refine wi_ri hc rfl (by rw [cm_121]; rfl) ?_
            have hR : fitsP A T x = G := by
              unfold fitsP
              rw [if_pos (by omega), ← hfr]
              first
              | exact FtI_stop hV (by omega) hft hg (by omega)
              | exact FtI_full hV (by omega) hft (by omega)
            rw [hR]
            exact ⟨s3_, rfl, fun c hc9_ => (hF3_ c (by omega)).trans ((hF2_ c (by omega)).trans (hF3 c (by omega))), hJ3_⟩
    exact loop37_ 0 (by omega) (by omega) _ _ _ s1_ (fun c hc9_ => hF1_ c (by omega)) hJ1_ (FtI_0 hV)
  · refine wi_ic hc rfl ?_
    refine wi_ri hc rfl (by rw [cm_121]; rfl) ?_
    have hR : fitsP A T x = -1 := by unfold fitsP; rw [if_neg (by omega)]
    rw [hR]
    exact ⟨s, rfl, fun c _ => rfl, hJ⟩
