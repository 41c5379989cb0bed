/-! The model lays down orders. -/
theorem fct_s : ∀ k, k < 7 → 2 ≤ k → fct k = fct (k - 1) * k := by decide
theorem fI_s {k : Int} (h0 : 2 ≤ k) (h1 : k ≤ 6) : fI (k - 1) * k = fI k := by
  unfold fI
  rw [fct_s k.toNat (by omega) (by omega), show (k - 1).toNat = k.toNat - 1 by omega, Int.natCast_mul, show ((k.toNat : Nat) : Int) = k by omega]
theorem nxO_s {u m : Nat} {k e : Int} (e0 : 0 ≤ e) (e1 : e < m) : nxO u ((m : Int) - e).toNat k.toNat e.toNat = if u / 2 ^ e.toNat % 2 = 1 then nxO u ((m : Int) - (e + 1)).toNat k.toNat (e + 1).toNat else if k.toNat = 0 then some e.toNat else nxO u ((m : Int) - (e + 1)).toNat (k - 1).toNat (e + 1).toNat := by
  rw [show ((m : Int) - e).toNat = ((m : Int) - (e + 1)).toNat + 1 by omega, nxO, show e.toNat + 1 = (e + 1).toNat by omega, show k.toNat - 1 = (k - 1).toNat by omega]
theorem bit_cast {u : Nat} {e : Int} : ((u : Nat) : Int) / 2 ^ e.toNat % 2 = 1 ↔ u / 2 ^ e.toNat % 2 = 1 := by
  rw [p2c, dvc]
  constructor
  · intro h; exact_mod_cast h
  · intro h; exact_mod_cast h
theorem od_nx {m : Nat} (hm : m < 7) {n : Int} (n0 : 0 ≤ n) (n1 : n < fct m) {p : Int} (p0 : 0 ≤ p) (p1 : p < m) : usM (dgI m n) p.toNat < 64 ∧ nxO (usM (dgI m n) p.toNat) m ((odS m n.toNat p.toNat).2 / fct (m - 1 - p.toNat)) 0 = some (dgE m n.toNat p.toNat) ∧ dgE m n.toNat p.toNat < m := by
  have ho := List.all_eq_true.mp (List.all_eq_true.mp (od_all m hm) n.toNat (List.mem_range.mpr (by omega))) p.toNat (List.mem_range.mpr (by omega))
  rw [Bool.and_eq_true, Bool.and_eq_true, decide_eq_true_eq, decide_eq_true_eq, decide_eq_true_eq] at ho
  obtain ⟨⟨o1, o2⟩, o3⟩ := ho
  have hx := List.all_eq_true.mp (List.all_eq_true.mp (nx_all m hm) _ (List.mem_range.mpr o1)) _ (List.mem_range.mpr o2)
  rw [Bool.and_eq_true, beq_iff_eq, decide_eq_true_eq] at hx
  rw [← odS_us]
  exact ⟨o1, hx.1, hx.2⟩
theorem usM_s {f : Int → Int} {p : Int} (p0 : 0 ≤ p) : ((usM f (p + 1).toNat : Nat) : Int) = orI ((usM f p.toNat : Nat) : Int) (1 * 2 ^ (f p).toNat) := by
  unfold orI
  rw [show (p + 1).toNat = p.toNat + 1 by omega, usM, Int.one_mul, p2c, Int.toNat_natCast, Int.toNat_natCast, show ((p.toNat : Nat) : Int) = p by omega]
/-- the orders lie there -/
def OM (m : Nat) (s : Nat → Int → Int) : Prop := s 598 34 = (m : Int) ∧ s 598 35 = ((fct m : Nat) : Int) ∧ ∀ n p, 0 ≤ n → n < ((fct m : Nat) : Int) → 0 ≤ p → p < (m : Int) → s 610 (6 * n + p) = dgI m n p
def EM (S : Int) (m : Nat) (s : Nat → Int → Int) : Prop := ∀ e, 0 ≤ e → e < (m : Int) → s 613 e = elF S e
def LM (c : Int → Int → Int) (S : Int) (m : Nat) (s : Nat → Int → Int) : Prop := (∀ n k, 0 ≤ n → n < ((fct m : Nat) : Int) → 0 ≤ k → k ≤ 1 → s 611 (2 * n + k) = rkI m (nF (cE c S) m k (dgI m n))) ∧ ∀ n, 0 ≤ n → n < ((fct m : Nat) : Int) → s 612 n = cmO c S m n
theorem sp_248 {d L t : Nat} {s l : Nat → Int → Int} {n : Int} (n0 : 0 ≤ n) (n1 : n ≤ 6) : mm_Ev mm_ct mm_CM (d + 1) 248 [.int (iI n)] (MX L t s l) (some (.int (iI (fI n))), MX L t s l) := by
  have hc : (mm_CM 248).2.2.2.2.2.2.2 = mm_cf cd_248 := by rw [cm_248]; rfl
  refine ev_of (mx := 3) (by rw [cm_248]; decide) (by rw [cm_248]; rfl) (by show 1 ≤ _; decide) ?_
  show mm_wp _ _ (0, [some (.int (iI n)), none, none], [], MX L t s l) (fun r => r = (some (.int (iI (fI n))), MX L t s l))
  refine wi_ic hc rfl ?_
  refine wi_is1 (L' := [some (.int (iI n)), some (.int (iI 1)), none]) hc rfl (Nat.le_of_ble_eq_true rfl) rfl ?_
  refine wi_ic hc rfl ?_
  refine wi_is1 (L' := [some (.int (iI n)), some (.int (iI 1)), some (.int (iI 2))]) hc rfl (Nat.le_of_ble_eq_true rfl) rfl ?_
  have loop4_ : ∀ k : Int, k ≤ 7 → 2 ≤ k → (k ≤ n + 1 ∨ k = 2) → mm_wp (mm_Ev mm_ct mm_CM d) 248 (4, [some (.int (iI n)), some (.int (iI (fI (k - 1)))), some (.int (iI k))], [], MX L t s l) (fun r => r = (some (.int (iI (fI n))), MX L t s l)) := by
    refine up_ind ?_
    intro k hk9 ih k0 k1
    refine wi_i1 hc rfl rfl ?_
    refine wi_i1 hc rfl rfl ?_
    refine wi_cgt hc rfl ⟨by omega, by omega⟩ ⟨by omega, by omega⟩ (fun h1_ => ?_) (fun h1_ => ?_)
    · refine wi_i1 hc rfl rfl ?_
      refine wi_ri hc rfl (by rw [cm_248]; rfl) ?_
      have e9 : fI (k - 1) = fI n := by
        rcases k1 with q | q
        · rw [show k - 1 = n by omega]
        · rcases (by omega : n = 0 ∨ n = 1) with z | z <;> (rw [q, z]; rfl)
      rw [e9]
    · refine wi_i1 hc rfl rfl ?_
      refine wi_i1 hc rfl rfl ?_
      refine wi_mul hc rfl ?_
      refine wi_is1 (L' := [some (.int (iI n)), some (.int (iI ((fI (k - 1)) * k))), some (.int (iI k))]) hc rfl (Nat.le_of_ble_eq_true rfl) rfl ?_
      refine wi_inc (L' := [some (.int (iI n)), some (.int (iI ((fI (k - 1)) * k))), some (.int (iI (k + 1)))]) hc rfl rfl rfl ?_
      refine wi_go hc rfl ?_
      rw [fI_s k0 (by omega), show fI k = fI (k + 1 - 1) by rw [show k + 1 - 1 = k by omega]]
      exact ih (by omega) (by omega) (by omega)
  exact loop4_ 2 (by omega) (by omega) (by omega)
theorem sp_249 {d L t : Nat} {s l : Nat → Int → Int} {f : Int → Int} {m : Nat} (m7 : m < 7) (hw : ∀ p, 0 ≤ p → p < (m : Int) → s 614 p = f p) (hr : ∀ p, 0 ≤ p → p < (m : Int) → 0 ≤ f p ∧ f p < m) (hM : s 598 34 = (m : Int)) : mm_Ev mm_ct mm_CM (d + 1) 249 [.ref 598] (MX L t s l) (some (.int (iI (rkI m f))), MX L t s l) := by
  have hc : (mm_CM 249).2.2.2.2.2.2.2 = mm_cf cd_249 := by rw [cm_249]; rfl
  refine ev_of (mx := 5) (by rw [cm_249]; decide) (by rw [cm_249]; rfl) (by show 1 ≤ _; decide) ?_
  show mm_wp _ _ (0, [some (.ref 598), none, none, none, none], [], MX L t s l) (fun r => r = (some (.int (iI (rkI m f))), MX L t s l))
  refine wi_ic hc rfl ?_
  refine wi_is1 (L' := [some (.ref 598), some (.int (iI 0)), none, none, none]) hc rfl (Nat.le_of_ble_eq_true rfl) rfl ?_
  refine wi_ic hc rfl ?_
  refine wi_is1 (L' := [some (.ref 598), some (.int (iI 0)), some (.int (iI 0)), none, none]) hc rfl (Nat.le_of_ble_eq_true rfl) rfl ?_
  have loop4_ : ∀ p : Int, p ≤ (m : Int) → 0 ≤ p → ∀ o3 o4 : Option Value, mm_wp (mm_Ev mm_ct mm_CM d) 249 (4, [some (.ref 598), some (.int (iI ((rkV m f p.toNat : Nat) : Int))), some (.int (iI p)), o3, o4], [], MX L t s l) (fun r => r = (some (.int (iI (rkI m f))), MX L t s l)) := by
    refine up_ind ?_
    intro p hp9 ih p0 o3 o4
    refine wi_i1 hc rfl rfl ?_
    refine wi_a1 hc rfl rfl ?_
    refine wi_gfv (kz := 34) rfl hc rfl rfl (by decide) (Nat.le_of_ble_eq_true rfl) rfl (v := (m : Int)) (hM) ?_
    refine wi_cge hc rfl ⟨by omega, by omega⟩ ⟨by omega, by omega⟩ (fun h1_ => ?_) (fun h1_ => ?_)
    · refine wi_i1 hc rfl rfl ?_
      refine wi_ri hc rfl (by rw [cm_249]; rfl) ?_
      rw [show p.toNat = m by omega, rkV_end]
    · refine wi_ic hc rfl ?_
      refine wi_is1 (L' := [some (.ref 598), some (.int (iI ((rkV m f p.toNat : Nat) : Int))), some (.int (iI p)), some (.int (iI 0)), o4]) hc rfl (Nat.le_of_ble_eq_true rfl) rfl ?_
      refine wi_i1 hc rfl rfl ?_
      refine wi_ic hc rfl ?_
      refine wi_add hc rfl ?_
      refine wi_is2 (L' := [some (.ref 598), some (.int (iI ((rkV m f p.toNat : Nat) : Int))), some (.int (iI p)), some (.int (iI 0)), some (.int (iI (p + 1)))]) hc rfl (Nat.le_of_ble_eq_true rfl) rfl ?_
      have loop19_ : ∀ q : Int, q ≤ (m : Int) → p + 1 ≤ q → mm_wp (mm_Ev mm_ct mm_CM d) 249 (19, [some (.ref 598), some (.int (iI ((rkV m f p.toNat : Nat) : Int))), some (.int (iI p)), some (.int (iI (loN f p (q - p - 1).toNat))), some (.int (iI q))], [], MX L t s l) (fun r => r = (some (.int (iI (rkI m f))), MX L t s l)) := by
        refine up_ind ?_
        intro q hq9 ihq q0
        have hlo := loN_r f p (q - p - 1).toNat
        refine wi_i2 hc rfl rfl ?_
        refine wi_a1 hc rfl rfl ?_
        refine wi_gfv (kz := 34) rfl hc rfl rfl (by decide) (Nat.le_of_ble_eq_true rfl) rfl (v := (m : Int)) (hM) ?_
        refine wi_cge hc rfl ⟨by omega, by omega⟩ ⟨by omega, by omega⟩ (fun h2_ => ?_) (fun h2_ => ?_)
        · refine wi_i1 hc rfl rfl ?_
          refine wi_a1 hc rfl rfl ?_
          refine wi_gfv (kz := 34) rfl hc rfl rfl (by decide) (Nat.le_of_ble_eq_true rfl) rfl (v := (m : Int)) (hM) ?_
          refine wi_i1 hc rfl rfl ?_
          refine wi_sub hc rfl ?_
          refine wi_mul hc rfl ?_
          refine wi_i1 hc rfl rfl ?_
          refine wi_add hc rfl ?_
          refine wi_is1 (L' := [some (.ref 598), some (.int (iI ((((rkV m f p.toNat : Nat) : Int) * ((m : Int) - p)) + (loN f p (q - p - 1).toNat)))), some (.int (iI p)), some (.int (iI (loN f p (q - p - 1).toNat))), some (.int (iI q))]) hc rfl (Nat.le_of_ble_eq_true rfl) rfl ?_
          refine wi_inc (L' := [some (.ref 598), some (.int (iI ((((rkV m f p.toNat : Nat) : Int) * ((m : Int) - p)) + (loN f p (q - p - 1).toNat)))), some (.int (iI (p + 1))), some (.int (iI (loN f p (q - p - 1).toNat))), some (.int (iI q))]) hc rfl rfl rfl ?_
          refine wi_go hc rfl ?_
          have eq9 : q - p - 1 = (m : Int) - 1 - p := by omega
          rw [eq9, ← rkV_s (fun j a b => (hr j a b).1) p0 (by omega)]
          exact ih (by omega) (by omega) _ _
        · have a1 := hr p (by omega) (by omega)
          have a2 := hr q (by omega) (by omega)
          refine wi_i1 hc rfl rfl ?_
          refine wi_a1 hc rfl rfl ?_
          refine wi_gr (w := 614) hc rfl rfl (by decide) (Nat.le_of_ble_eq_true rfl) rfl ?_
          refine wi_i2 hc rfl rfl ?_
          refine wi_ildv (N := 6) hc rfl rfl (by decide) (by decide) (by omega) (by omega) (v := f q) (hw _ (by omega) (by omega)) ?_
          refine wi_a1 hc rfl rfl ?_
          refine wi_gr (w := 614) hc rfl rfl (by decide) (Nat.le_of_ble_eq_true rfl) rfl ?_
          refine wi_i1 hc rfl rfl ?_
          refine wi_ildv (N := 6) hc rfl rfl (by decide) (by decide) (by omega) (by omega) (v := f p) (hw _ (by omega) (by omega)) ?_
          refine wi_cge hc rfl ⟨by omega, by omega⟩ ⟨by omega, by omega⟩ (fun h3_ => ?_) (fun h3_ => ?_)
          · refine wi_ic hc rfl ?_
            refine wi_add hc rfl ?_
            refine wi_is1 (L' := [some (.ref 598), some (.int (iI ((rkV m f p.toNat : Nat) : Int))), some (.int (iI p)), some (.int (iI ((loN f p (q - p - 1).toNat) + 0))), some (.int (iI q))]) hc rfl (Nat.le_of_ble_eq_true rfl) rfl ?_
            refine wi_inc (L' := [some (.ref 598), some (.int (iI ((rkV m f p.toNat : Nat) : Int))), some (.int (iI p)), some (.int (iI ((loN f p (q - p - 1).toNat) + 0))), some (.int (iI (q + 1)))]) hc rfl rfl rfl ?_
            refine wi_go hc rfl ?_
            have e9 : (loN f p (q - p - 1).toNat) + 0 = loN f p (q + 1 - p - 1).toNat := by
              rw [show (q + 1 - p - 1).toNat = (q - p - 1).toNat + 1 by omega, loN, show p + 1 + ((q - p - 1).toNat : Int) = q by omega, if_neg (by omega)]
            rw [e9]
            exact ihq (by omega) (by omega)
          · refine wi_ic hc rfl ?_
            refine wi_go hc rfl ?_
            refine wi_add hc rfl ?_
            refine wi_is1 (L' := [some (.ref 598), some (.int (iI ((rkV m f p.toNat : Nat) : Int))), some (.int (iI p)), some (.int (iI ((loN f p (q - p - 1).toNat) + 1))), some (.int (iI q))]) hc rfl (Nat.le_of_ble_eq_true rfl) rfl ?_
            refine wi_inc (L' := [some (.ref 598), some (.int (iI ((rkV m f p.toNat : Nat) : Int))), some (.int (iI p)), some (.int (iI ((loN f p (q - p - 1).toNat) + 1))), some (.int (iI (q + 1)))]) hc rfl rfl rfl ?_
            refine wi_go hc rfl ?_
            have e9 : (loN f p (q - p - 1).toNat) + 1 = loN f p (q + 1 - p - 1).toNat := by
              rw [show (q + 1 - p - 1).toNat = (q - p - 1).toNat + 1 by omega, loN, show p + 1 + ((q - p - 1).toNat : Int) = q by omega, if_pos (by omega)]
            rw [e9]
            exact ihq (by omega) (by omega)
      have q9 := loop19_ (p + 1) (by omega) (by omega)
      rw [show (p + 1 - p - 1).toNat = 0 by omega] at q9
      exact q9
  exact loop4_ 0 (by omega) (by omega) _ _
theorem sp_250 {d L t : Nat} {s l : Nat → Int → Int} {f : Int → Int} {m : Nat} {n : Int} (m7 : m < 7) (n0 : 0 ≤ n) (n1 : n < fct m) (hM : s 598 34 = (m : Int)) (hO : ∀ p, 0 ≤ p → p < (m : Int) → s 610 (6 * n + p) = f p) : ∃ s1, mm_Ev mm_ct mm_CM (d + 1) 250 [.ref 598, .int (iI n)] (MX L t s l) (none, MX L t s1 l) ∧ (∀ c, c ≠ 614 → s1 c = s c) ∧ (∀ q, 0 ≤ q → q < (m : Int) → s1 614 q = f q) := by
  have hc : (mm_CM 250).2.2.2.2.2.2.2 = mm_cf cd_250 := by rw [cm_250]; rfl
  refine ev_xs ?_
  refine ev_to (mx := 3) (by rw [cm_250]; decide) (by rw [cm_250]; rfl) (by show 2 ≤ _; decide) ?_
  show mm_wp _ _ (0, [some (.ref 598), some (.int (iI n)), none], [], MX L t s l) (fun res => ∃ s1, res = (none, MX L t s1 l) ∧ (∀ c, c ≠ 614 → s1 c = s c) ∧ (∀ q, 0 ≤ q → q < (m : Int) → s1 614 q = f q))
  have hfm := fct_r m
  refine wi_ic hc rfl ?_
  refine wi_is1 (L' := [some (.ref 598), some (.int (iI n)), some (.int (iI 0))]) hc rfl (Nat.le_of_ble_eq_true rfl) rfl ?_
  have loop2_ : ∀ p : Int, p ≤ (m : Int) → 0 ≤ p → ∀ s2 : Nat → Int → Int, (∀ c, c ≠ 614 → s2 c = s c) → (∀ q, 0 ≤ q → q < p → s2 614 q = f q) → mm_wp (mm_Ev mm_ct mm_CM d) 250 (2, [some (.ref 598), some (.int (iI n)), some (.int (iI p))], [], MX L t s2 l) (fun res => ∃ s1, res = (none, MX L t s1 l) ∧ (∀ c, c ≠ 614 → s1 c = s c) ∧ (∀ q, 0 ≤ q → q < (m : Int) → s1 614 q = f q)) := by
    refine up_ind ?_
    intro p hp9 ih p0 s2 hF2 hz2
    refine wi_i1 hc rfl rfl ?_
    refine wi_a1 hc rfl rfl ?_
    refine wi_gfv (kz := 34) rfl hc rfl rfl (by decide) (Nat.le_of_ble_eq_true rfl) rfl (v := (m : Int)) ((congrFun (hF2 598 (by decide)) _).trans hM) ?_
    refine wi_cge hc rfl ⟨by omega, by omega⟩ ⟨by omega, by omega⟩ (fun h1_ => ?_) (fun h1_ => ?_)
    · refine wi_rv hc rfl (by rw [cm_250]; rfl) ?_
      exact ⟨s2, rfl, hF2, fun q q0 q1 => hz2 q q0 (by omega)⟩
    · refine wi_a1 hc rfl rfl ?_
      refine wi_gr (w := 614) hc rfl rfl (by decide) (Nat.le_of_ble_eq_true rfl) rfl ?_
      refine wi_i1 hc rfl rfl ?_
      refine wi_a1 hc rfl rfl ?_
      refine wi_gr (w := 610) hc rfl rfl (by decide) (Nat.le_of_ble_eq_true rfl) rfl ?_
      refine wi_bi hc rfl rfl ?_
      refine wi_i1 hc rfl rfl ?_
      refine wi_mul hc rfl ?_
      refine wi_i1 hc rfl rfl ?_
      refine wi_add hc rfl ?_
      refine wi_ildv (N := 4320) hc rfl rfl (by decide) (by decide) (by omega) (by omega) (v := f p) ((congrFun (hF2 610 (by decide)) _).trans (hO _ (by omega) (by omega))) ?_
      refine wi_ist (N := 6) hc rfl rfl (by decide) (by decide) (by omega) (by omega) ?_
      obtain ⟨s1_, es1_⟩ : ∃ q, q = up s2 614 p (f p) := ⟨_, rfl⟩
      rw [← es1_]
      refine wi_inc (L' := [some (.ref 598), some (.int (iI n)), some (.int (iI (p + 1)))]) hc rfl rfl rfl ?_
      refine wi_go hc rfl ?_
      refine ih (by omega) (by omega) s1_ (fun c hc9_ => ((congrFun es1_ c).trans (up_cc (by omega))).trans (hF2 c (by omega))) (fun q q0 q1 => ?_)
      rw [es1_, up_ite]
      by_cases z9 : q = p
      · rw [if_pos z9, z9]
      · rw [if_neg z9]; exact hz2 q q0 (by omega)
  exact loop2_ 0 (by omega) (by omega) s (fun c _ => rfl) (fun q q0 q1 => by omega)
theorem sp_251 {d L t : Nat} {s l : Nat → Int → Int} {i : Int} (i0 : 0 ≤ i) (i1 : i < 5) : ∃ s1, mm_Ev mm_ct mm_CM (d + 1) 251 [.ref 598, .int (iI i)] (MX L t s l) (none, MX L t s1 l) ∧ (∀ c, c ≠ 614 → s1 c = s c) ∧ (∀ p, s1 614 p = if p = i then s 614 (i + 1) else if p = i + 1 then s 614 i else s 614 p) := by
  have hc : (mm_CM 251).2.2.2.2.2.2.2 = mm_cf cd_251 := by rw [cm_251]; rfl
  refine ev_xs ?_
  refine ev_to (mx := 3) (by rw [cm_251]; decide) (by rw [cm_251]; rfl) (by show 2 ≤ _; decide) ?_
  show mm_wp _ _ (0, [some (.ref 598), some (.int (iI i)), none], [], MX L t s l) (fun res => ∃ s1, res = (none, MX L t s1 l) ∧ (∀ c, c ≠ 614 → s1 c = s c) ∧ (∀ p, s1 614 p = if p = i then s 614 (i + 1) else if p = i + 1 then s 614 i else s 614 p))
  refine wi_a1 hc rfl rfl ?_
  refine wi_gr (w := 614) hc rfl rfl (by decide) (Nat.le_of_ble_eq_true rfl) rfl ?_
  refine wi_i1 hc rfl rfl ?_
  refine wi_ild (N := 6) hc rfl rfl (by decide) (by decide) (by omega) (by omega) ?_
  refine wi_is1 (L' := [some (.ref 598), some (.int (iI i)), some (.int (iI (s 614 i)))]) hc rfl (Nat.le_of_ble_eq_true rfl) rfl ?_
  refine wi_a1 hc rfl rfl ?_
  refine wi_gr (w := 614) hc rfl rfl (by decide) (Nat.le_of_ble_eq_true rfl) rfl ?_
  refine wi_i1 hc rfl rfl ?_
  refine wi_a1 hc rfl rfl ?_
  refine wi_gr (w := 614) hc rfl rfl (by decide) (Nat.le_of_ble_eq_true rfl) rfl ?_
  refine wi_i1 hc rfl rfl ?_
  refine wi_ic hc rfl ?_
  refine wi_add hc rfl ?_
  refine wi_ild (N := 6) hc rfl rfl (by decide) (by decide) (by omega) (by omega) ?_
  refine wi_ist (N := 6) hc rfl rfl (by decide) (by decide) (by omega) (by omega) ?_
  obtain ⟨s1_, es1_⟩ : ∃ q, q = up s 614 i (s 614 (i + 1)) := ⟨_, rfl⟩
  rw [← es1_]
  refine wi_a1 hc rfl rfl ?_
  refine wi_gr (w := 614) hc rfl rfl (by decide) (Nat.le_of_ble_eq_true rfl) rfl ?_
  refine wi_i1 hc rfl rfl ?_
  refine wi_ic hc rfl ?_
  refine wi_add hc rfl ?_
  refine wi_i1 hc rfl rfl ?_
  refine wi_ist (N := 6) hc rfl rfl (by decide) (by decide) (by omega) (by omega) ?_
  obtain ⟨s2_, es2_⟩ : ∃ q, q = up s1_ 614 (i + 1) (s 614 i) := ⟨_, rfl⟩
  rw [← es2_]
  refine wi_rv hc rfl (by rw [cm_251]; rfl) ?_
  exact ⟨s2_, rfl, fun c hc9_ => ((congrFun es2_ c).trans (up_cc (by omega))).trans ((congrFun es1_ c).trans (up_cc (by omega))), fun p => by rw [es2_, up_ite, es1_, up_ite]; exact sw_ite _ _ _ _ _⟩
theorem sp_252 {d L t : Nat} {s l : Nat → Int → Int} {f : Int → Int} {m : Nat} (m7 : m < 7) (hw : ∀ p, 0 ≤ p → p < (m : Int) → s 614 p = f p) (hr : ∀ p, 0 ≤ p → p < (m : Int) → 0 ≤ f p ∧ f p < m) (hM : s 598 34 = (m : Int)) {c : Int → Int → Int} {S N : Int} (h01 : ∀ x y, c x y = 0 ∨ c x y = 1) (hC : CHm s c N) (hE : EM S m s) (hel : ∀ e, 0 ≤ e → e < (m : Int) → 0 ≤ elF S e ∧ elF S e < N) (N1 : N ≤ 10) {p : Int} (p0 : 0 ≤ p) (p1 : p + 1 < (m : Int)) : mm_Ev mm_ct mm_CM (d + 1) 252 [.ref 598, .int (iI p)] (MX L t s l) (some (.int (iI (cE c S (f p) (f (p + 1))))), MX L t s l) := by
  have hc : (mm_CM 252).2.2.2.2.2.2.2 = mm_cf cd_252 := by rw [cm_252]; rfl
  refine ev_of (mx := 2) (by rw [cm_252]; decide) (by rw [cm_252]; rfl) (by show 2 ≤ _; decide) ?_
  show mm_wp _ _ (0, [some (.ref 598), some (.int (iI p))], [], MX L t s l) (fun r => r = (some (.int (iI (cE c S (f p) (f (p + 1))))), MX L t s l))
  have a1 := hr p (by omega) (by omega)
  have a2 := hr (p + 1) (by omega) (by omega)
  have b1 := hel _ a1.1 a1.2
  have b2 := hel _ a2.1 a2.2
  have b3 := h01 (elF S (f p)) (elF S (f (p + 1)))
  refine wi_a1 hc rfl rfl ?_
  refine wi_gr (w := 607) hc rfl rfl (by decide) (Nat.le_of_ble_eq_true rfl) rfl ?_
  refine wi_bi hc rfl rfl ?_
  refine wi_a1 hc rfl rfl ?_
  refine wi_gr (w := 613) hc rfl rfl (by decide) (Nat.le_of_ble_eq_true rfl) rfl ?_
  refine wi_a1 hc rfl rfl ?_
  refine wi_gr (w := 614) hc rfl rfl (by decide) (Nat.le_of_ble_eq_true rfl) rfl ?_
  refine wi_i1 hc rfl rfl ?_
  refine wi_ildv (N := 6) hc rfl rfl (by decide) (by decide) (by omega) (by omega) (v := f p) (hw _ (by omega) (by omega)) ?_
  refine wi_ildv (N := 10) hc rfl rfl (by decide) (by decide) (by omega) (by omega) (v := elF S (f p)) (hE _ (by omega) (by omega)) ?_
  refine wi_mul hc rfl ?_
  refine wi_a1 hc rfl rfl ?_
  refine wi_gr (w := 613) hc rfl rfl (by decide) (Nat.le_of_ble_eq_true rfl) rfl ?_
  refine wi_a1 hc rfl rfl ?_
  refine wi_gr (w := 614) hc rfl rfl (by decide) (Nat.le_of_ble_eq_true rfl) rfl ?_
  refine wi_i1 hc rfl rfl ?_
  refine wi_ic hc rfl ?_
  refine wi_add hc rfl ?_
  refine wi_ildv (N := 6) hc rfl rfl (by decide) (by decide) (by omega) (by omega) (v := f (p + 1)) (hw _ (by omega) (by omega)) ?_
  refine wi_ildv (N := 10) hc rfl rfl (by decide) (by decide) (by omega) (by omega) (v := elF S (f (p + 1))) (hE _ (by omega) (by omega)) ?_
  refine wi_add hc rfl ?_
  refine wi_bldv (N := 100) hc rfl rfl (by decide) (by decide) (by omega) (by omega) (v := c (elF S (f p)) (elF S (f (p + 1)))) (hC _ _ (by omega) (by omega) (by omega) (by omega)) ?_
  refine wi_rx (by omega) hc rfl (by rw [cm_252]; rfl) ?_
  rfl
theorem sp_253 {d L t : Nat} {s l : Nat → Int → Int} {m : Nat} (m7 : m < 7) (hM : s 598 34 = (m : Int)) : ∃ s1, mm_Ev mm_ct mm_CM (d + 2) 253 [.ref 598] (MX L t s l) (none, MX L t s1 l) ∧ (∀ c, c ≠ 598 ∧ c ≠ 610 → s1 c = s c) ∧ (∀ k, k ≠ 35 → s1 598 k = s 598 k) ∧ OM m s1 := by
  have hc : (mm_CM 253).2.2.2.2.2.2.2 = mm_cf cd_253 := by rw [cm_253]; rfl
  refine ev_xs ?_
  refine ev_to (mx := 8) (by rw [cm_253]; decide) (by rw [cm_253]; rfl) (by show 1 ≤ _; decide) ?_
  show mm_wp _ _ (0, [some (.ref 598), none, none, none, none, none, none, none], [], MX L t s l) (fun res => ∃ s1, res = (none, MX L t s1 l) ∧ (∀ c, c ≠ 598 ∧ c ≠ 610 → s1 c = s c) ∧ (∀ k, k ≠ 35 → s1 598 k = s 598 k) ∧ OM m s1)
  have hfm := fct_r m
  refine wi_a1 hc rfl rfl ?_
  refine wi_a1 hc rfl rfl ?_
  refine wi_gfv (kz := 34) rfl hc rfl rfl (by decide) (Nat.le_of_ble_eq_true rfl) rfl (v := (m : Int)) (hM) ?_
  refine wp_cs (As := [.int (iI (m : Int))]) (r := [.ref 598]) hc rfl (by rw [cm_248]; rfl) rfl (Nat.le_of_ble_eq_true rfl) (ev_mono (sp_248 (d := 0) (n := (m : Int)) (by omega) (by omega)) (by omega)) ?_
  show mm_wp _ _ (8, [some (.ref 598), none, none, none, none, none, none, none], [.int (iI (fI (m : Int))), .ref 598], MX L t s l) _
  refine wi_pf (kz := 35) rfl hc rfl rfl (by decide) (Nat.le_of_ble_eq_true rfl) rfl (Nat.le_of_ble_eq_true rfl) ⟨rfl, rfl⟩ rfl ?_
  obtain ⟨s1_, es1_⟩ : ∃ q, q = up s 598 35 (fI (m : Int)) := ⟨_, rfl⟩
  rw [← es1_]
  refine wi_ic hc rfl ?_
  refine wi_is1 (L' := [some (.ref 598), some (.int (iI 0)), none, none, none, none, none, none]) hc rfl (Nat.le_of_ble_eq_true rfl) rfl ?_
  have loop13_ : ∀ n : Int, n ≤ ((fct m : Nat) : Int) → 0 ≤ n → ∀ (o2 o3 o4 o5 o6 o7 : Option Value) (s2 : Nat → Int → Int), (∀ c, c ≠ 598 ∧ c ≠ 610 → s2 c = s c) → (∀ k, k ≠ 35 → s2 598 k = s 598 k) → s2 598 35 = ((fct m : Nat) : Int) → (∀ n9 p9, 0 ≤ n9 → 0 ≤ p9 → p9 < (m : Int) → (n9 < n ∨ n9 = n ∧ p9 < 0) → s2 610 (6 * n9 + p9) = dgI m n9 p9) → mm_wp (mm_Ev mm_ct mm_CM (d + 1)) 253 (13, [some (.ref 598), some (.int (iI n)), o2, o3, o4, o5, o6, o7], [], MX L t s2 l) (fun res => ∃ s1, res = (none, MX L t s1 l) ∧ (∀ c, c ≠ 598 ∧ c ≠ 610 → s1 c = s c) ∧ (∀ k, k ≠ 35 → s1 598 k = s 598 k) ∧ OM m s1) := by
    refine up_ind ?_
    intro n hn9 ihn n0 o2 o3 o4 o5 o6 o7 s2 hF2 hk2 h352 hT2
    refine wi_i1 hc rfl rfl ?_
    refine wi_a1 hc rfl rfl ?_
    refine wi_gfv (kz := 35) rfl hc rfl rfl (by decide) (Nat.le_of_ble_eq_true rfl) rfl (v := ((fct m : Nat) : Int)) (h352) ?_
    refine wi_cge hc rfl ⟨by omega, by omega⟩ ⟨by omega, by omega⟩ (fun h1_ => ?_) (fun h1_ => ?_)
    · refine wi_rv hc rfl (by rw [cm_253]; rfl) ?_
      exact ⟨s2, rfl, hF2, hk2, (hk2 34 (by decide)).trans hM, h352, fun n9 p9 a b d e => hT2 n9 p9 a d e (by omega)⟩
    · refine wi_i1 hc rfl rfl ?_
      refine wi_is1 (L' := [some (.ref 598), some (.int (iI n)), some (.int (iI n)), o3, o4, o5, o6, o7]) hc rfl (Nat.le_of_ble_eq_true rfl) rfl ?_
      refine wi_ic hc rfl ?_
      refine wi_is1 (L' := [some (.ref 598), some (.int (iI n)), some (.int (iI n)), some (.int (iI 0)), o4, o5, o6, o7]) hc rfl (Nat.le_of_ble_eq_true rfl) rfl ?_
      refine wi_ic hc rfl ?_
      refine wi_is2 (L' := [some (.ref 598), some (.int (iI n)), some (.int (iI n)), some (.int (iI 0)), some (.int (iI 0)), o5, o6, o7]) hc rfl (Nat.le_of_ble_eq_true rfl) rfl ?_
      have loop28_ : ∀ p : Int, p ≤ (m : Int) → 0 ≤ p → ∀ (o5 o6 o7 : Option Value) (s3 : Nat → Int → Int), (∀ c, c ≠ 598 ∧ c ≠ 610 → s3 c = s c) → (∀ k, k ≠ 35 → s3 598 k = s 598 k) → s3 598 35 = ((fct m : Nat) : Int) → (∀ n9 p9, 0 ≤ n9 → 0 ≤ p9 → p9 < (m : Int) → (n9 < n ∨ n9 = n ∧ p9 < p) → s3 610 (6 * n9 + p9) = dgI m n9 p9) → mm_wp (mm_Ev mm_ct mm_CM (d + 1)) 253 (28, [some (.ref 598), some (.int (iI n)), some (.int (iI (odI m n p))), some (.int (iI ((usM (dgI m n) p.toNat : Nat) : Int))), some (.int (iI p)), o5, o6, o7], [], MX L t s3 l) (fun res => ∃ s1, res = (none, MX L t s1 l) ∧ (∀ c, c ≠ 598 ∧ c ≠ 610 → s1 c = s c) ∧ (∀ k, k ≠ 35 → s1 598 k = s 598 k) ∧ OM m s1) := by
        refine up_ind ?_
        intro p hp9 ihp p0 o5 o6 o7 s3 hF3 hk3 h353 hT3
        refine wi_i2 hc rfl rfl ?_
        refine wi_a1 hc rfl rfl ?_
        refine wi_gfv (kz := 34) rfl hc rfl rfl (by decide) (Nat.le_of_ble_eq_true rfl) rfl (v := (m : Int)) (((hk3 34 (by decide)).trans hM)) ?_
        refine wi_cge hc rfl ⟨by omega, by omega⟩ ⟨by omega, by omega⟩ (fun h2_ => ?_) (fun h2_ => ?_)
        · refine wi_inc (L' := [some (.ref 598), some (.int (iI (n + 1))), some (.int (iI (odI m n p))), some (.int (iI ((usM (dgI m n) p.toNat : Nat) : Int))), some (.int (iI p)), o5, o6, o7]) hc rfl rfl rfl ?_
          refine wi_go hc rfl ?_
          exact ihn (by omega) (by omega) _ _ _ _ _ _ s3 hF3 hk3 h353 (fun n9 p9 a b d q => hT3 n9 p9 a b d (by omega))
        · have hnxo := od_nx m7 n0 (by omega : n < ((fct m : Nat) : Int)) p0 (by omega)
          have hod := odI_s (m := m) (n := n) p0 (by omega)
          have hfr := fI_r ((m : Int) - 1 - p)
          have hob : 0 ≤ odI m n p ∧ odI m n p < 720 := by
            have ho := List.all_eq_true.mp (List.all_eq_true.mp (od_all m m7) n.toNat (List.mem_range.mpr (by omega))) p.toNat (List.mem_range.mpr (by omega))
            rw [Bool.and_eq_true, Bool.and_eq_true, decide_eq_true_eq, decide_eq_true_eq, decide_eq_true_eq] at ho
            have := ho.2
            unfold odI
            omega
          have hdl : (odS m n.toNat p.toNat).2 / fct (m - 1 - p.toNat) ≤ (odS m n.toNat p.toNat).2 := Nat.div_le_self _ _
          have hob2 : (odS m n.toNat p.toNat).2 < 720 := by unfold odI at hob; omega
          refine wi_a1 hc rfl rfl ?_
          refine wi_gfv (kz := 34) rfl hc rfl rfl (by decide) (Nat.le_of_ble_eq_true rfl) rfl (v := (m : Int)) (((hk3 34 (by decide)).trans hM)) ?_
          refine wi_ic hc rfl ?_
          refine wi_sub hc rfl ?_
          refine wi_i2 hc rfl rfl ?_
          refine wi_sub hc rfl ?_
          refine wp_cs (As := [.int (iI (((m : Int) - 1) - p))]) (r := []) hc rfl (by rw [cm_248]; rfl) rfl (Nat.le_of_ble_eq_true rfl) (ev_mono (sp_248 (d := 0) (n := ((m : Int) - 1) - p) (by omega) (by omega)) (by omega)) ?_
          show mm_wp _ _ (49, [some (.ref 598), some (.int (iI n)), some (.int (iI (odI m n p))), some (.int (iI ((usM (dgI m n) p.toNat : Nat) : Int))), some (.int (iI p)), o5, o6, o7], [.int (iI (fI (((m : Int) - 1) - p)))], MX L t s3 l) _
          refine wi_is2 (L' := [some (.ref 598), some (.int (iI n)), some (.int (iI (odI m n p))), some (.int (iI ((usM (dgI m n) p.toNat : Nat) : Int))), some (.int (iI p)), some (.int (iI (fI (((m : Int) - 1) - p)))), o6, o7]) hc rfl (Nat.le_of_ble_eq_true rfl) rfl ?_
          refine wi_i1 hc rfl rfl ?_
          refine wi_i2 hc rfl rfl ?_
          refine wi_divp hc rfl ⟨by omega, by omega⟩ ⟨by omega, by omega⟩ (by omega) (by omega) ?_
          refine wi_is2 (L' := [some (.ref 598), some (.int (iI n)), some (.int (iI (odI m n p))), some (.int (iI ((usM (dgI m n) p.toNat : Nat) : Int))), some (.int (iI p)), some (.int (iI (fI (((m : Int) - 1) - p)))), some (.int (iI ((odI m n p) / (fI (((m : Int) - 1) - p))))), o7]) hc rfl (Nat.le_of_ble_eq_true rfl) rfl ?_
          refine wi_i1 hc rfl rfl ?_
          refine wi_i2 hc rfl rfl ?_
          refine wi_remp hc rfl ⟨by omega, by omega⟩ ⟨by omega, by omega⟩ (by omega) (by omega) ?_
          refine wi_is1 (L' := [some (.ref 598), some (.int (iI n)), some (.int (iI ((odI m n p) % (fI (((m : Int) - 1) - p))))), some (.int (iI ((usM (dgI m n) p.toNat : Nat) : Int))), some (.int (iI p)), some (.int (iI (fI (((m : Int) - 1) - p)))), some (.int (iI ((odI m n p) / (fI (((m : Int) - 1) - p))))), o7]) hc rfl (Nat.le_of_ble_eq_true rfl) rfl ?_
          refine wi_ic hc rfl ?_
          refine wi_is2 (L' := [some (.ref 598), some (.int (iI n)), some (.int (iI ((odI m n p) % (fI (((m : Int) - 1) - p))))), some (.int (iI ((usM (dgI m n) p.toNat : Nat) : Int))), some (.int (iI p)), some (.int (iI (fI (((m : Int) - 1) - p)))), some (.int (iI ((odI m n p) / (fI (((m : Int) - 1) - p))))), some (.int (iI 0))]) hc rfl (Nat.le_of_ble_eq_true rfl) rfl ?_
          have loop65_ : ∀ e : Int, e ≤ (m : Int) → 0 ≤ e → ∀ k : Int, 0 ≤ k → k ≤ 720 → nxO (usM (dgI m n) p.toNat) ((m : Int) - e).toNat k.toNat e.toNat = some (dgE m n.toNat p.toNat) → mm_wp (mm_Ev mm_ct mm_CM (d + 1)) 253 (65, [some (.ref 598), some (.int (iI n)), some (.int (iI ((odI m n p) % (fI (((m : Int) - 1) - p))))), some (.int (iI ((usM (dgI m n) p.toNat : Nat) : Int))), some (.int (iI p)), some (.int (iI (fI (((m : Int) - 1) - p)))), some (.int (iI k)), some (.int (iI e))], [], MX L t s3 l) (fun res => ∃ s1, res = (none, MX L t s1 l) ∧ (∀ c, c ≠ 598 ∧ c ≠ 610 → s1 c = s c) ∧ (∀ k, k ≠ 35 → s1 598 k = s 598 k) ∧ OM m s1) := by
            refine up_ind ?_
            intro e he9 ihe e0 k k0 k1 hnx
            have he1 : e < (m : Int) := by
              rcases (by omega : e < (m : Int) ∨ e = (m : Int)) with q | q
              · exact q
              · rw [show ((m : Int) - e).toNat = 0 by omega] at hnx; exact absurd hnx (by intro q; cases q)
            have hns := nxO_s (u := usM (dgI m n) p.toNat) (k := k) e0 he1
            rw [hnx] at hns
            have hbc := bit_cast (u := usM (dgI m n) p.toNat) (e := e)
            refine wi_i1 hc rfl rfl ?_
            refine wi_i2 hc rfl rfl ?_
            refine wp_cs (As := [.int (iI ((usM (dgI m n) p.toNat : Nat) : Int)), .int (iI e)]) (r := []) hc rfl (by rw [cm_149]; rfl) rfl (Nat.le_of_ble_eq_true rfl) (ev_mono (sp_149 (d := 0) (i := e) ⟨by omega, by omega⟩ (by omega) (by omega)) (by omega)) ?_
            show mm_wp _ _ (71, [some (.ref 598), some (.int (iI n)), some (.int (iI ((odI m n p) % (fI (((m : Int) - 1) - p))))), some (.int (iI ((usM (dgI m n) p.toNat : Nat) : Int))), some (.int (iI p)), some (.int (iI (fI (((m : Int) - 1) - p)))), some (.int (iI k)), some (.int (iI e))], [.int (iI (bI (((usM (dgI m n) p.toNat : Nat) : Int) / 2 ^ e.toNat % 2 = 1)))], MX L t s3 l) _
            refine wi_bne hc rfl (fun h3_ => ?_) (fun h3_ => ?_)
            · refine wi_i2 hc rfl rfl ?_
              refine wi_i1 hc rfl rfl ?_
              refine wi_i2 hc rfl rfl ?_
              refine wp_cs (As := [.int (iI ((usM (dgI m n) p.toNat : Nat) : Int)), .int (iI e)]) (r := [.int (iI k)]) hc rfl (by rw [cm_149]; rfl) rfl (Nat.le_of_ble_eq_true rfl) (ev_mono (sp_149 (d := 0) (i := e) ⟨by omega, by omega⟩ (by omega) (by omega)) (by omega)) ?_
              show mm_wp _ _ (87, [some (.ref 598), some (.int (iI n)), some (.int (iI ((odI m n p) % (fI (((m : Int) - 1) - p))))), some (.int (iI ((usM (dgI m n) p.toNat : Nat) : Int))), some (.int (iI p)), some (.int (iI (fI (((m : Int) - 1) - p)))), some (.int (iI k)), some (.int (iI e))], [.int (iI (bI (((usM (dgI m n) p.toNat : Nat) : Int) / 2 ^ e.toNat % 2 = 1))), .int (iI k)], MX L t s3 l) _
              refine wi_beq hc rfl (fun h4_ => ?_) (fun h4_ => ?_)
              · refine wi_ic hc rfl ?_
                refine wi_sub hc rfl ?_
                refine wi_is2 (L' := [some (.ref 598), some (.int (iI n)), some (.int (iI ((odI m n p) % (fI (((m : Int) - 1) - p))))), some (.int (iI ((usM (dgI m n) p.toNat : Nat) : Int))), some (.int (iI p)), some (.int (iI (fI (((m : Int) - 1) - p)))), some (.int (iI (k - 1))), some (.int (iI e))]) hc rfl (Nat.le_of_ble_eq_true rfl) rfl ?_
                refine wi_inc (L' := [some (.ref 598), some (.int (iI n)), some (.int (iI ((odI m n p) % (fI (((m : Int) - 1) - p))))), some (.int (iI ((usM (dgI m n) p.toNat : Nat) : Int))), some (.int (iI p)), some (.int (iI (fI (((m : Int) - 1) - p)))), some (.int (iI (k - 1))), some (.int (iI (e + 1)))]) hc rfl rfl rfl ?_
                refine wi_go hc rfl ?_
                first
                | (exfalso; omega)
                | exact ihe (by omega) (by omega) (k - 1) (by omega) (by omega) (by rw [if_neg (fun q => by have := hbc.mpr q; omega), if_neg (by omega)] at hns; rw [← hns])
              · refine wi_ic hc rfl ?_
                refine wi_go hc rfl ?_
                refine wi_sub hc rfl ?_
                refine wi_is2 (L' := [some (.ref 598), some (.int (iI n)), some (.int (iI ((odI m n p) % (fI (((m : Int) - 1) - p))))), some (.int (iI ((usM (dgI m n) p.toNat : Nat) : Int))), some (.int (iI p)), some (.int (iI (fI (((m : Int) - 1) - p)))), some (.int (iI (k - 0))), some (.int (iI e))]) hc rfl (Nat.le_of_ble_eq_true rfl) rfl ?_
                refine wi_inc (L' := [some (.ref 598), some (.int (iI n)), some (.int (iI ((odI m n p) % (fI (((m : Int) - 1) - p))))), some (.int (iI ((usM (dgI m n) p.toNat : Nat) : Int))), some (.int (iI p)), some (.int (iI (fI (((m : Int) - 1) - p)))), some (.int (iI (k - 0))), some (.int (iI (e + 1)))]) hc rfl rfl rfl ?_
                refine wi_go hc rfl ?_
                first
                | (exfalso; omega)
                | exact ihe (by omega) (by omega) (k - 0) (by omega) (by omega) (by rw [if_pos (hbc.mp (by omega))] at hns; rw [Int.sub_zero, ← hns])
            · refine wi_i2 hc rfl rfl ?_
              refine wi_zle hc rfl ⟨by omega, by omega⟩ (fun h5_ => ?_) (fun h5_ => ?_)
              · have hdv : dgI m n p = e := by
                  rw [if_neg (fun q => by have := hbc.mpr q; omega), if_pos (by omega)] at hns
                  have := Option.some.inj hns
                  unfold dgI
                  omega
                have hpe := pow_10 e0 (by omega : e < 10)
                refine wi_a1 hc rfl rfl ?_
                refine wi_gr (w := 610) hc rfl rfl (by decide) (Nat.le_of_ble_eq_true rfl) rfl ?_
                refine wi_bi hc rfl rfl ?_
                refine wi_i1 hc rfl rfl ?_
                refine wi_mul hc rfl ?_
                refine wi_i2 hc rfl rfl ?_
                refine wi_add hc rfl ?_
                refine wi_i2 hc rfl rfl ?_
                refine wi_ist (N := 4320) hc rfl rfl (by decide) (by decide) (by omega) (by omega) ?_
                obtain ⟨s2_, es2_⟩ : ∃ q, q = up s3 610 ((6 * n) + p) e := ⟨_, rfl⟩
                rw [← es2_]
                refine wi_i1 hc rfl rfl ?_
                refine wi_ic hc rfl ?_
                refine wi_i2 hc rfl rfl ?_
                refine wi_shl (2 ^ e.toNat) rfl hc rfl (by omega) (by omega) ?_
                refine wi_or hc rfl (by omega) (by omega) ?_
                refine wi_is1 (L' := [some (.ref 598), some (.int (iI n)), some (.int (iI ((odI m n p) % (fI (((m : Int) - 1) - p))))), some (.int (iI (orI ((usM (dgI m n) p.toNat : Nat) : Int) (1 * (2 ^ e.toNat))))), some (.int (iI p)), some (.int (iI (fI (((m : Int) - 1) - p)))), some (.int (iI k)), some (.int (iI e))]) hc rfl (Nat.le_of_ble_eq_true rfl) rfl ?_
                refine wi_inc (L' := [some (.ref 598), some (.int (iI n)), some (.int (iI ((odI m n p) % (fI (((m : Int) - 1) - p))))), some (.int (iI (orI ((usM (dgI m n) p.toNat : Nat) : Int) (1 * (2 ^ e.toNat))))), some (.int (iI (p + 1))), some (.int (iI (fI (((m : Int) - 1) - p)))), some (.int (iI k)), some (.int (iI e))]) hc rfl rfl rfl ?_
                refine wi_go hc rfl ?_
                have eo : orI ((usM (dgI m n) p.toNat : Nat) : Int) (1 * (2 ^ e.toNat)) = ((usM (dgI m n) (p + 1).toNat : Nat) : Int) := by rw [usM_s p0, hdv]
                rw [eo, hod.2]
                refine ihp (by omega) (by omega) _ _ _ s2_ (fun c hc9_ => ((congrFun es2_ c).trans (up_cc (by omega))).trans (hF3 c (by omega))) (fun k9 hk9 => (congrFun (congrFun es2_ _) _).trans ((up_c (by decide)).trans (hk3 k9 hk9))) ((congrFun (congrFun es2_ _) _).trans ((up_c (by decide)).trans h353)) (fun n9 p9 a b d q => ?_)
                rw [es2_, up_ite]
                by_cases z9 : n9 = n ∧ p9 = p
                · rw [if_pos (by omega), z9.1, z9.2, hdv]
                · rw [if_neg (by omega)]; exact hT3 n9 p9 a b d (by omega)
              · refine wi_i2 hc rfl rfl ?_
                refine wi_i1 hc rfl rfl ?_
                refine wi_i2 hc rfl rfl ?_
                refine wp_cs (As := [.int (iI ((usM (dgI m n) p.toNat : Nat) : Int)), .int (iI e)]) (r := [.int (iI k)]) hc rfl (by rw [cm_149]; rfl) rfl (Nat.le_of_ble_eq_true rfl) (ev_mono (sp_149 (d := 0) (i := e) ⟨by omega, by omega⟩ (by omega) (by omega)) (by omega)) ?_
                show mm_wp _ _ (87, [some (.ref 598), some (.int (iI n)), some (.int (iI ((odI m n p) % (fI (((m : Int) - 1) - p))))), some (.int (iI ((usM (dgI m n) p.toNat : Nat) : Int))), some (.int (iI p)), some (.int (iI (fI (((m : Int) - 1) - p)))), some (.int (iI k)), some (.int (iI e))], [.int (iI (bI (((usM (dgI m n) p.toNat : Nat) : Int) / 2 ^ e.toNat % 2 = 1))), .int (iI k)], MX L t s3 l) _
                refine wi_beq hc rfl (fun h6_ => ?_) (fun h6_ => ?_)
                · refine wi_ic hc rfl ?_
                  refine wi_sub hc rfl ?_
                  refine wi_is2 (L' := [some (.ref 598), some (.int (iI n)), some (.int (iI ((odI m n p) % (fI (((m : Int) - 1) - p))))), some (.int (iI ((usM (dgI m n) p.toNat : Nat) : Int))), some (.int (iI p)), some (.int (iI (fI (((m : Int) - 1) - p)))), some (.int (iI (k - 1))), some (.int (iI e))]) hc rfl (Nat.le_of_ble_eq_true rfl) rfl ?_
                  refine wi_inc (L' := [some (.ref 598), some (.int (iI n)), some (.int (iI ((odI m n p) % (fI (((m : Int) - 1) - p))))), some (.int (iI ((usM (dgI m n) p.toNat : Nat) : Int))), some (.int (iI p)), some (.int (iI (fI (((m : Int) - 1) - p)))), some (.int (iI (k - 1))), some (.int (iI (e + 1)))]) hc rfl rfl rfl ?_
                  refine wi_go hc rfl ?_
                  first
                  | (exfalso; omega)
                  | exact ihe (by omega) (by omega) (k - 1) (by omega) (by omega) (by rw [if_neg (fun q => by have := hbc.mpr q; omega), if_neg (by omega)] at hns; rw [← hns])
                · refine wi_ic hc rfl ?_
                  refine wi_go hc rfl ?_
                  refine wi_sub hc rfl ?_
                  refine wi_is2 (L' := [some (.ref 598), some (.int (iI n)), some (.int (iI ((odI m n p) % (fI (((m : Int) - 1) - p))))), some (.int (iI ((usM (dgI m n) p.toNat : Nat) : Int))), some (.int (iI p)), some (.int (iI (fI (((m : Int) - 1) - p)))), some (.int (iI (k - 0))), some (.int (iI e))]) hc rfl (Nat.le_of_ble_eq_true rfl) rfl ?_
                  refine wi_inc (L' := [some (.ref 598), some (.int (iI n)), some (.int (iI ((odI m n p) % (fI (((m : Int) - 1) - p))))), some (.int (iI ((usM (dgI m n) p.toNat : Nat) : Int))), some (.int (iI p)), some (.int (iI (fI (((m : Int) - 1) - p)))), some (.int (iI (k - 0))), some (.int (iI (e + 1)))]) hc rfl rfl rfl ?_
                  refine wi_go hc rfl ?_
                  first
                  | (exfalso; omega)
                  | exact ihe (by omega) (by omega) (k - 0) (by omega) (by omega) (by rw [if_pos (hbc.mp (by omega))] at hns; rw [Int.sub_zero, ← hns])
          rw [hod.1]
          exact loop65_ 0 (by omega) (by omega) _ (Int.natCast_nonneg _) (by omega) (by rw [show ((m : Int) - 0).toNat = m by omega, Int.toNat_natCast]; exact hnxo.2.1)
      have e0 : odI m n 0 = n := by unfold odI; show ((n.toNat : Nat) : Int) = n; omega
      have q9 := loop28_ 0 (by omega) (by omega) o5 o6 o7 s2 hF2 hk2 h352 hT2
      rw [e0] at q9
      exact q9
  exact loop13_ 0 (by omega) (by omega) _ _ _ _ _ _ s1_ (fun c hc9_ => (congrFun es1_ c).trans (up_cc (by omega))) (fun k hk => (congrFun (congrFun es1_ _) _).trans (up_k hk)) (by rw [es1_, up_at]; unfold fI; rw [Int.toNat_natCast]) (fun n9 p9 a b d q => by omega)
