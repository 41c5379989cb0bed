/-! The model's nights to come, on one row. -/
/-- the model's table of changes -/
def CHm (s : Nat → Int → Int) (c : Int → Int → Int) (N : Int) : Prop := ∀ x y, 0 ≤ x → x < N → 0 ≤ y → y < N → s 607 (10 * x + y) = c x y
theorem CHm.of {s s1 : Nat → Int → Int} {c : Int → Int → Int} {N : Int} (h : CHm s c N) (e : s1 607 = s 607) : CHm s1 c N := by
  unfold CHm
  rw [e]
  exact h
/-- the table as far as (i, j) -/
def TBm (g : Int → Int) (c : Int → Int → Int) (N i j : Int) : Prop := ∀ x y, 0 ≤ x → 0 ≤ y → y < N → (x < i ∨ x = i ∧ y < j) → g (10 * x + y) = c x y
theorem TBm.up {g g' : Int → Int} {c : Int → Int → Int} {N i j v : Int} (h : TBm g c N i j) (hv : v = c i j) (hN : N ≤ 10) (j0 : 0 ≤ j) (j1 : j < N) (e : ∀ k, g' k = if k = 10 * i + j then v else g k) : TBm g' c N i (j + 1) := by
  intro x y x0 y0 y1 q
  rw [e]
  by_cases z : x = i ∧ y = j
  · rw [if_pos (by omega), hv, z.1, z.2]
  · rw [if_neg (by omega)]
    exact h x y x0 y0 y1 (by omega)
theorem up_ite {s : Nat → Int → Int} {a : Nat} {k v : Int} (j : Int) : up s a k v a j = if j = k then v else s a j := by
  by_cases q : j = k
  · rw [if_pos q, up_e q]
  · rw [if_neg q, up_k q]
/-- a row without place q -/
def woF (g : Int → Int) (q : Int) : Int → Int := fun p => if p < q then g p else g (p + 1)
theorem nwP_sw {c : Int → Int → Int} {k i p : Int} {f g g1 : Int → Int} {n : Int} (hk : k ≤ i) (hp : (i - k) % 2 = 0) (h0 : 0 ≤ i) (h1 : i + 1 < n) (hg : ∀ p, 0 ≤ p → p < n → g p = nwP c k i f p) (e : ∀ p, g1 p = if p = i then g (i + 1) else if p = i + 1 then g i else g p) (hc : c (f i) (f (i + 1)) = 1) (p0 : 0 ≤ p) (p1 : p < n) : g1 p = nwP c k (i + 2) f p := by
  rw [e, nwP_step hk hp, if_pos hc, hg (i + 1) (by omega) (by omega), hg i h0 (by omega), hg p p0 p1, nwP_at (by omega) hp, nwP_at (by omega) hp]
theorem sp_239 {d L t : Nat} {s l : Nat → Int → Int} {A T : Int → Int} (hJ : JM s A T) (hK : KA A T) : ∃ s1 l1, mm_Ev mm_ct mm_CM (d + 7) 239 [.ref 598] (MX L t s l) (none, MX L t s1 l1) ∧ (∀ c, c ≠ 604 ∧ c ≠ 606 ∧ c ≠ 607 → s1 c = s c) ∧ (∀ c, c ≠ 605 → l1 c = l c) ∧ JM s1 A T ∧ CHm s1 (cF A T) (A 0) := by
  have hc : (mm_CM 239).2.2.2.2.2.2.2 = mm_cf cd_239 := by rw [cm_239]; rfl
  refine ev_xsl ?_
  refine ev_to (mx := 3) (by rw [cm_239]; decide) (by rw [cm_239]; rfl) (by show 1 ≤ _; decide) ?_
  show mm_wp _ _ (0, [some (.ref 598), none, none], [], MX L t s l) (fun res => ∃ s1 l1, res = (none, MX L t s1 l1) ∧ (∀ c, c ≠ 604 ∧ c ≠ 606 ∧ c ≠ 607 → s1 c = s c) ∧ (∀ c, c ≠ 605 → l1 c = l c) ∧ JM s1 A T ∧ CHm s1 (cF A T) (A 0))
  have hV := hK.1
  have hB := hK.2.1
  have g0 := hB.1
  refine wi_ic hc rfl ?_
  refine wi_is1 (L' := [some (.ref 598), some (.int (iI 0)), none]) hc rfl (Nat.le_of_ble_eq_true rfl) rfl ?_
  have loop2_ : ∀ i : Int, i ≤ A 0 → 0 ≤ i → ∀ (o2 : Option Value) (s2 l2 : Nat → Int → Int), (∀ c, c ≠ 604 ∧ c ≠ 606 ∧ c ≠ 607 → s2 c = s c) → (∀ c, c ≠ 605 → l2 c = l c) → JM s2 A T → TBm (s2 607) (cF A T) (A 0) i 0 → mm_wp (mm_Ev mm_ct mm_CM (d + 6)) 239 (2, [some (.ref 598), some (.int (iI i)), o2], [], MX L t s2 l2) (fun res => ∃ s1 l1, res = (none, MX L t s1 l1) ∧ (∀ c, c ≠ 604 ∧ c ≠ 606 ∧ c ≠ 607 → s1 c = s c) ∧ (∀ c, c ≠ 605 → l1 c = l c) ∧ JM s1 A T ∧ CHm s1 (cF A T) (A 0)) := by
    refine up_ind ?_
    intro i hi9 ih i0 o2 s2 l2 hF2 hG2 hJ2 hT2
    refine wi_i1 hc rfl rfl ?_
    refine wi_a1 hc rfl rfl ?_
    refine wi_gr (w := 599) hc rfl rfl (by decide) (Nat.le_of_ble_eq_true rfl) rfl ?_
    refine wi_ic hc rfl ?_
    refine wi_ildv (N := 3642) hc rfl rfl (by decide) (by decide) (by omega) (by omega) (v := A 0) (congrFun (hJ2.1) _) ?_
    refine wi_cge hc rfl ⟨by omega, by omega⟩ ⟨by omega, by omega⟩ (fun h1_ => ?_) (fun h1_ => ?_)
    · refine wi_rv hc rfl (by rw [cm_239]; rfl) ?_
      exact ⟨s2, l2, rfl, hF2, hG2, hJ2, fun x y x0 x1 y0 y1 => hT2 x y x0 y0 y1 (by omega)⟩
    · refine wi_ic hc rfl ?_
      refine wi_is1 (L' := [some (.ref 598), some (.int (iI i)), some (.int (iI 0))]) hc rfl (Nat.le_of_ble_eq_true rfl) rfl ?_
      have loop14_ : ∀ j : Int, j ≤ A 0 → 0 ≤ j → ∀ (s3 l3 : Nat → Int → Int), (∀ c, c ≠ 604 ∧ c ≠ 606 ∧ c ≠ 607 → s3 c = s c) → (∀ c, c ≠ 605 → l3 c = l c) → JM s3 A T → TBm (s3 607) (cF A T) (A 0) i j → mm_wp (mm_Ev mm_ct mm_CM (d + 6)) 239 (14, [some (.ref 598), some (.int (iI i)), some (.int (iI j))], [], MX L t s3 l3) (fun res => ∃ s1 l1, res = (none, MX L t s1 l1) ∧ (∀ c, c ≠ 604 ∧ c ≠ 606 ∧ c ≠ 607 → s1 c = s c) ∧ (∀ c, c ≠ 605 → l1 c = l c) ∧ JM s1 A T ∧ CHm s1 (cF A T) (A 0)) := by
        refine up_ind ?_
        intro j hj9 ih3 j0 s3 l3 hF3 hG3 hJ3 hT3
        refine wi_i1 hc rfl rfl ?_
        refine wi_a1 hc rfl rfl ?_
        refine wi_gr (w := 599) hc rfl rfl (by decide) (Nat.le_of_ble_eq_true rfl) rfl ?_
        refine wi_ic hc rfl ?_
        refine wi_ildv (N := 3642) hc rfl rfl (by decide) (by decide) (by omega) (by omega) (v := A 0) (congrFun (hJ3.1) _) ?_
        refine wi_cge hc rfl ⟨by omega, by omega⟩ ⟨by omega, by omega⟩ (fun h2_ => ?_) (fun h2_ => ?_)
        · refine wi_inc (L' := [some (.ref 598), some (.int (iI (i + 1))), some (.int (iI j))]) hc rfl rfl rfl ?_
          refine wi_go hc rfl ?_
          exact ih (by omega) (by omega) _ s3 l3 hF3 hG3 hJ3 (fun x y x0 y0 y1 q => hT3 x y x0 y0 y1 (by omega))
        · refine wi_a1 hc rfl rfl ?_
          refine wi_gr (w := 607) hc rfl rfl (by decide) (Nat.le_of_ble_eq_true rfl) rfl ?_
          refine wi_bi hc rfl rfl ?_
          refine wi_i1 hc rfl rfl ?_
          refine wi_mul hc rfl ?_
          refine wi_i1 hc rfl rfl ?_
          refine wi_add hc rfl ?_
          refine wi_i1 hc rfl rfl ?_
          refine wi_i1 hc rfl rfl ?_
          refine wi_ceq hc rfl ⟨by omega, by omega⟩ ⟨by omega, by omega⟩ (fun h3_ => ?_) (fun h3_ => ?_)
          · refine wi_ic hc rfl ?_
            refine wi_bst (N := 100) hc rfl rfl (by decide) (by decide) (by omega) (by omega) (by omega) ?_
            obtain ⟨s1_, es1_⟩ : ∃ q, q = up s3 607 ((10 * i) + j) 0 := ⟨_, rfl⟩
            rw [← es1_]
            refine wi_inc (L' := [some (.ref 598), some (.int (iI i)), some (.int (iI (j + 1)))]) hc rfl rfl rfl ?_
            refine wi_go hc rfl ?_
            exact ih3 (by omega) (by omega) s1_ l3 (fun c hc9_ => ((congrFun es1_ c).trans (up_cc (by omega))).trans (hF3 c (by omega))) (fun c hc9_ => hG3 c (by omega)) (JM.of hJ3 ((congrFun es1_ 599).trans (up_cc (by decide))) ((congrFun es1_ 601).trans (up_cc (by decide))) ((congrFun es1_ 604).trans (up_cc (by decide)))) (hT3.up (by unfold cF; rw [if_pos (by omega)]) (by omega) (by omega) (by omega) (fun k => by rw [es1_, up_ite]))
          · refine wi_a1 hc rfl rfl ?_
            refine wi_i1 hc rfl rfl ?_
            refine wi_i1 hc rfl rfl ?_
            obtain ⟨s2_, l2_, hE2_, hF2_, hG2_, hJ2_⟩ := sp_211 (d := 0) (L := L) (t := t) (l := l3) hJ3 hK.1 (x := i) (y := j) (by omega) (by omega) (by omega) (by omega)
            refine wp_cv (b := 598) (As := [.int (iI i), .int (iI j)]) (r := [.int (iI ((10 * i) + j)), .ref 607]) hc rfl (by rw [cm_211]; rfl) rfl (Nat.le_of_ble_eq_true rfl) (show 598 < 621 by decide) (by rw [cm_211]; rfl) (ev_mono hE2_ (by omega)) ?_
            show mm_wp _ _ (45, [some (.ref 598), some (.int (iI i)), some (.int (iI j))], [.int (iI (chgI A T i j)), .int (iI ((10 * i) + j)), .ref 607], MX L t s2_ l2_) _
            have h9_ := chgI_01 A T i j
            refine wi_b01 hc rfl rfl rfl rfl (by omega) ?_
            refine wi_bst (N := 100) hc rfl rfl (by decide) (by decide) (by omega) (by omega) (by omega) ?_
            obtain ⟨s3_, es3_⟩ : ∃ q, q = up s2_ 607 ((10 * i) + j) (chgI A T i j) := ⟨_, rfl⟩
            rw [← es3_]
            refine wi_inc (L' := [some (.ref 598), some (.int (iI i)), some (.int (iI (j + 1)))]) hc rfl rfl rfl ?_
            refine wi_go hc rfl ?_
            exact ih3 (by omega) (by omega) s3_ l2_ (fun c hc9_ => ((congrFun es3_ c).trans (up_cc (by omega))).trans ((hF2_ c (by omega)).trans (hF3 c (by omega)))) (fun c hc9_ => (hG2_ c (by omega)).trans (hG3 c (by omega))) (JM.of hJ2_ ((congrFun es3_ 599).trans (up_cc (by decide))) ((congrFun es3_ 601).trans (up_cc (by decide))) ((congrFun es3_ 604).trans (up_cc (by decide)))) (hT3.up (by unfold cF; rw [if_neg (by omega)]) (by omega) (by omega) (by omega) (fun k => by rw [es3_, up_ite, hF2_ 607 (by decide)]))
      exact loop14_ 0 (by omega) (by omega) s2 l2 hF2 hG2 hJ2 hT2
  exact loop2_ 0 (by omega) (by omega) _ s l (fun c _ => rfl) (fun c _ => rfl) hJ (fun x y x0 y0 y1 q => by omega)
theorem sp_240 {d L t : Nat} {s l : Nat → Int → Int} {A T : Int → Int} (hJ : JM s A T) (hK : KA A T) {x w jq : Int} (x0 : 0 ≤ x) (x1 : x < 3) (hw : rI w) (q0 : 0 ≤ jq) (hq : ∀ p, 0 ≤ p → p < A (13 + x) → (A (16 + 10 * x + p) = w ↔ p = jq)) : ∃ s1 l1, mm_Ev mm_ct mm_CM (d + 8) 240 [.ref 598, .int (iI x), .int (iI w)] (MX L t s l) (none, MX L t s1 l1) ∧ (∀ c, c ≠ 598 ∧ c ≠ 604 ∧ c ≠ 606 ∧ c ≠ 607 ∧ c ≠ 608 → s1 c = s c) ∧ (∀ c, c ≠ 605 → l1 c = l c) ∧ (∀ k, k ≠ 28 → s1 598 k = s 598 k) ∧ JM s1 A T ∧ CHm s1 (cF A T) (A 0) ∧ s1 598 28 = (if A (13 + x) ≤ jq then A (13 + x) else A (13 + x) - 1) ∧ (∀ p, 0 ≤ p → p < (if A (13 + x) ≤ jq then A (13 + x) else A (13 + x) - 1) → s1 608 p = woF (fun p => A (16 + 10 * x + p)) jq p) := by
  have hc : (mm_CM 240).2.2.2.2.2.2.2 = mm_cf cd_240 := by rw [cm_240]; rfl
  refine ev_xsl ?_
  refine ev_to (mx := 4) (by rw [cm_240]; decide) (by rw [cm_240]; rfl) (by show 3 ≤ _; decide) ?_
  show mm_wp _ _ (0, [some (.ref 598), some (.int (iI x)), some (.int (iI w)), none], [], MX L t s l) (fun res => ∃ s1 l1, res = (none, MX L t s1 l1) ∧ (∀ c, c ≠ 598 ∧ c ≠ 604 ∧ c ≠ 606 ∧ c ≠ 607 ∧ c ≠ 608 → s1 c = s c) ∧ (∀ c, c ≠ 605 → l1 c = l c) ∧ (∀ k, k ≠ 28 → s1 598 k = s 598 k) ∧ JM s1 A T ∧ CHm s1 (cF A T) (A 0) ∧ s1 598 28 = (if A (13 + x) ≤ jq then A (13 + x) else A (13 + x) - 1) ∧ (∀ p, 0 ≤ p → p < (if A (13 + x) ≤ jq then A (13 + x) else A (13 + x) - 1) → s1 608 p = woF (fun p => A (16 + 10 * x + p)) jq p))
  have hV := hK.1
  have hB := hK.2.1
  have g0 := hB.1
  have gm := hB.2.1 x x0 x1
  refine wi_a1 hc rfl rfl ?_
  obtain ⟨s1_, l1_, hE1_, hF1_, hG1_, hJ1_, hC1_⟩ := sp_239 (d := 0) (L := L) (t := t) (l := l) hJ hK
  refine wp_cv (b := 598) (As := []) (r := []) hc rfl (by rw [cm_239]; rfl) rfl (Nat.le_of_ble_eq_true rfl) (show 598 < 621 by decide) (by rw [cm_239]; rfl) (ev_mono hE1_ (by omega)) ?_
  show mm_wp _ _ (4, [some (.ref 598), some (.int (iI x)), some (.int (iI w)), none], [], MX L t s1_ l1_) _
  refine wi_a1 hc rfl rfl ?_
  refine wi_ic hc rfl ?_
  refine wi_pf (kz := 28) rfl hc rfl rfl (by decide) (Nat.le_of_ble_eq_true rfl) rfl (Nat.le_of_ble_eq_true rfl) ⟨rfl, rfl⟩ rfl ?_
  obtain ⟨s2_, es2_⟩ : ∃ q, q = up s1_ 598 28 0 := ⟨_, rfl⟩
  rw [← es2_]
  refine wi_ic hc rfl ?_
  refine wi_is1 (L' := [some (.ref 598), some (.int (iI x)), some (.int (iI w)), some (.int (iI 0))]) hc rfl (Nat.le_of_ble_eq_true rfl) rfl ?_
  have loop11_ : ∀ i : Int, i ≤ A (13 + x) → 0 ≤ i → ∀ (s2 : Nat → Int → Int), (∀ c, c ≠ 598 ∧ c ≠ 604 ∧ c ≠ 606 ∧ c ≠ 607 ∧ c ≠ 608 → s2 c = s c) → (∀ k, k ≠ 28 → s2 598 k = s 598 k) → JM s2 A T → CHm s2 (cF A T) (A 0) → s2 598 28 = (if i ≤ jq then i else i - 1) → (∀ p, 0 ≤ p → p < (if i ≤ jq then i else i - 1) → s2 608 p = woF (fun p => A (16 + 10 * x + p)) jq p) → mm_wp (mm_Ev mm_ct mm_CM (d + 7)) 240 (11, [some (.ref 598), some (.int (iI x)), some (.int (iI w)), some (.int (iI i))], [], MX L t s2 l1_) (fun res => ∃ s1 l1, res = (none, MX L t s1 l1) ∧ (∀ c, c ≠ 598 ∧ c ≠ 604 ∧ c ≠ 606 ∧ c ≠ 607 ∧ c ≠ 608 → s1 c = s c) ∧ (∀ c, c ≠ 605 → l1 c = l c) ∧ (∀ k, k ≠ 28 → s1 598 k = s 598 k) ∧ JM s1 A T ∧ CHm s1 (cF A T) (A 0) ∧ s1 598 28 = (if A (13 + x) ≤ jq then A (13 + x) else A (13 + x) - 1) ∧ (∀ p, 0 ≤ p → p < (if A (13 + x) ≤ jq then A (13 + x) else A (13 + x) - 1) → s1 608 p = woF (fun p => A (16 + 10 * x + p)) jq p)) := by
    refine up_ind ?_
    intro i hi9 ih i0 s2 hF2 hf2 hJ2 hC2 hn2 hr2
    refine wi_i1 hc rfl rfl ?_
    refine wi_a1 hc rfl rfl ?_
    refine wi_gr (w := 599) hc rfl rfl (by decide) (Nat.le_of_ble_eq_true rfl) rfl ?_
    refine wi_bi hc rfl rfl ?_
    refine wi_i1 hc rfl rfl ?_
    refine wi_add hc rfl ?_
    refine wi_ildv (N := 3642) hc rfl rfl (by decide) (by decide) (by omega) (by omega) (v := A (13 + x)) (congrFun (hJ2.1) _) ?_
    refine wi_cge hc rfl ⟨by omega, by omega⟩ ⟨by omega, by omega⟩ (fun h1_ => ?_) (fun h1_ => ?_)
    · refine wi_rv hc rfl (by rw [cm_240]; rfl) ?_
      have e9 : i = A (13 + x) := by omega
      rw [e9] at hn2 hr2
      exact ⟨s2, l1_, rfl, hF2, hG1_, hf2, hJ2, hC2, hn2, hr2⟩
    · have gb := hB.2.2.1 x i x0 x1 i0 (by omega)
      have hq9 := hq i (by omega) (by omega)
      refine wi_a1 hc rfl rfl ?_
      refine wi_i1 hc rfl rfl ?_
      refine wi_i1 hc rfl rfl ?_
      refine wp_cv (b := 598) (As := [.int (iI x), .int (iI i)]) (r := []) hc rfl (by rw [cm_155]; rfl) rfl (Nat.le_of_ble_eq_true rfl) (show 598 < 621 by decide) (by rw [cm_155]; rfl) (ev_mono (sg_155 (d := 0) hJ2.1 (x := x) (p := i) (by omega) (by omega) (by omega) (by omega)) (by omega)) ?_
      show mm_wp _ _ (30, [some (.ref 598), some (.int (iI x)), some (.int (iI w)), some (.int (iI i))], [.int (iI (A (16 + 10 * x + i)))], MX L t s2 l1_) _
      refine wi_i1 hc rfl rfl ?_
      refine wi_cne hc rfl ⟨by omega, by omega⟩ hw (fun h2_ => ?_) (fun h2_ => ?_)
      · have hq9 := hq i (by omega) (by omega)
        have hb28 : 0 ≤ (if i ≤ jq then i else i - 1) ∧ (if i ≤ jq then i else i - 1) ≤ i := by split <;> omega
        refine wi_a1 hc rfl rfl ?_
        refine wi_gr (w := 608) hc rfl rfl (by decide) (Nat.le_of_ble_eq_true rfl) rfl ?_
        refine wi_a1 hc rfl rfl ?_
        refine wi_gfv (kz := 28) rfl hc rfl rfl (by decide) (Nat.le_of_ble_eq_true rfl) rfl (v := (if i ≤ jq then i else i - 1)) (hn2) ?_
        refine wi_a1 hc rfl rfl ?_
        refine wi_i1 hc rfl rfl ?_
        refine wi_i1 hc rfl rfl ?_
        refine wp_cv (b := 598) (As := [.int (iI x), .int (iI i)]) (r := [.int (iI (if i ≤ jq then i else i - 1)), .ref 608]) hc rfl (by rw [cm_155]; rfl) rfl (Nat.le_of_ble_eq_true rfl) (show 598 < 621 by decide) (by rw [cm_155]; rfl) (ev_mono (sg_155 (d := 0) hJ2.1 (x := x) (p := i) (by omega) (by omega) (by omega) (by omega)) (by omega)) ?_
        show mm_wp _ _ (51, [some (.ref 598), some (.int (iI x)), some (.int (iI w)), some (.int (iI i))], [.int (iI (A (16 + 10 * x + i))), .int (iI (if i ≤ jq then i else i - 1)), .ref 608], MX L t s2 l1_) _
        refine wi_ist (N := 10) hc rfl rfl (by decide) (by decide) (by omega) (by omega) ?_
        obtain ⟨s3_, es3_⟩ : ∃ q, q = up s2 608 (if i ≤ jq then i else i - 1) (A (16 + 10 * x + i)) := ⟨_, rfl⟩
        rw [← es3_]
        refine wi_a1 hc rfl rfl ?_
        refine wi_dupr hc rfl ?_
        refine wi_gfv (kz := 28) rfl hc rfl rfl (by decide) (Nat.le_of_ble_eq_true rfl) rfl (v := (if i ≤ jq then i else i - 1)) (((congrFun (congrFun es3_ _) _).trans (up_c (by decide))).trans hn2) ?_
        refine wi_ic hc rfl ?_
        refine wi_add hc rfl ?_
        refine wi_pf (kz := 28) rfl hc rfl rfl (by decide) (Nat.le_of_ble_eq_true rfl) rfl (Nat.le_of_ble_eq_true rfl) ⟨rfl, rfl⟩ rfl ?_
        obtain ⟨s4_, es4_⟩ : ∃ q, q = up s3_ 598 28 ((if i ≤ jq then i else i - 1) + 1) := ⟨_, rfl⟩
        rw [← es4_]
        refine wi_inc (L' := [some (.ref 598), some (.int (iI x)), some (.int (iI w)), some (.int (iI (i + 1)))]) hc rfl rfl rfl ?_
        refine wi_go hc rfl ?_
        have g608 : ∀ k, s4_ 608 k = if k = (if i ≤ jq then i else i - 1) then A (16 + 10 * x + i) else s2 608 k := fun k => (congrFun (congrFun es4_ _) _).trans ((up_c (by decide)).trans ((congrFun (congrFun es3_ _) _).trans (up_ite _)))
        have e28 : (if i + 1 ≤ jq then i + 1 else i + 1 - 1) = (if i ≤ jq then i else i - 1) + 1 := by split <;> split <;> omega
        refine ih (by omega) (by omega) s4_ (fun c hc9_ => ((congrFun es4_ c).trans (up_cc (by omega))).trans (((congrFun es3_ c).trans (up_cc (by omega))).trans (hF2 c (by omega)))) (fun k k9 => (congrFun (congrFun es4_ _) _).trans ((up_k k9).trans ((congrFun (congrFun es3_ _) _).trans ((up_c (by decide)).trans (hf2 k k9))))) (JM.of hJ2 (((congrFun es4_ 599).trans (up_cc (by decide))).trans ((congrFun es3_ 599).trans (up_cc (by decide)))) (((congrFun es4_ 601).trans (up_cc (by decide))).trans ((congrFun es3_ 601).trans (up_cc (by decide)))) (((congrFun es4_ 604).trans (up_cc (by decide))).trans ((congrFun es3_ 604).trans (up_cc (by decide))))) (hC2.of (((congrFun es4_ 607).trans (up_cc (by decide))).trans ((congrFun es3_ 607).trans (up_cc (by decide))))) ?_ ?_
        · rw [e28, es4_, up_at]
        · intro p p0 p1
          rw [e28] at p1
          rw [g608]
          by_cases z : p = (if i ≤ jq then i else i - 1)
          · rw [if_pos z]
            unfold woF
            by_cases y : i ≤ jq
            · rw [if_pos y] at z; rw [if_pos (by omega), z]
            · rw [if_neg y] at z; rw [if_neg (by omega), z, show i - 1 + 1 = i by omega]
          · rw [if_neg z]
            exact hr2 p p0 (by omega)
      · refine wi_go hc rfl ?_
        refine wi_inc (L' := [some (.ref 598), some (.int (iI x)), some (.int (iI w)), some (.int (iI (i + 1)))]) hc rfl rfl rfl ?_
        refine wi_go hc rfl ?_
        exact ih (by omega) (by omega) s2 hF2 hf2 hJ2 hC2 (by rw [hn2, if_pos (by omega), if_neg (by omega)]; omega) (fun p p0 p1 => hr2 p p0 (by rw [if_neg (by omega)] at p1; rw [if_pos (by omega)]; omega))
  exact loop11_ 0 (by omega) (by omega) s2_ (fun c hc9_ => ((congrFun es2_ c).trans (up_cc (by omega))).trans (hF1_ c (by omega))) (fun k k9 => (congrFun (congrFun es2_ _) _).trans ((up_k k9).trans (congrFun (hF1_ 598 (by decide)) _))) (JM.of hJ1_ ((congrFun es2_ 599).trans (up_cc (by decide))) ((congrFun es2_ 601).trans (up_cc (by decide))) ((congrFun es2_ 604).trans (up_cc (by decide)))) (hC1_.of ((congrFun es2_ 607).trans (up_cc (by decide)))) (by rw [es2_, up_at, if_pos (by omega)]) (fun p p0 p1 => by rw [if_pos (by omega)] at p1; omega)
theorem sp_241 {d L t : Nat} {s l : Nat → Int → Int} {c : Int → Int → Int} {f : Int → Int} {n N : Int} (hC : CHm s c N) (h01 : ∀ x y, c x y = 0 ∨ c x y = 1) (hr : ∀ p, 0 ≤ p → p < n → s 608 p = f p) (hf : ∀ p, 0 ≤ p → p < n → 0 ≤ f p ∧ f p < N) (hn : s 598 28 = n) (n0 : 0 ≤ n) (n1 : n ≤ 10) (N1 : N ≤ 10) : mm_Ev mm_ct mm_CM (d + 1) 241 [.ref 598] (MX L t s l) (some (.int (iI (clN c f (n - 1).toNat))), MX L t s l) := by
  have hc : (mm_CM 241).2.2.2.2.2.2.2 = mm_cf cd_241 := by rw [cm_241]; rfl
  refine ev_of (mx := 2) (by rw [cm_241]; decide) (by rw [cm_241]; rfl) (by show 1 ≤ _; decide) ?_
  show mm_wp _ _ (0, [some (.ref 598), none], [], MX L t s l) (fun r => r = (some (.int (iI (clN c f (n - 1).toNat))), MX L t s l))
  refine wi_ic hc rfl ?_
  refine wi_is1 (L' := [some (.ref 598), some (.int (iI 0))]) hc rfl (Nat.le_of_ble_eq_true rfl) rfl ?_
  have loop2_ : ∀ i : Int, i ≤ n → 0 ≤ i → (i = 0 ∨ i + 1 ≤ n) → clN c f i.toNat = 1 → mm_wp (mm_Ev mm_ct mm_CM d) 241 (2, [some (.ref 598), some (.int (iI i))], [], MX L t s l) (fun r => r = (some (.int (iI (clN c f (n - 1).toNat))), MX L t s l)) := by
    refine up_ind ?_
    intro i hi9 ih i0 i1 hcl
    refine wi_i1 hc rfl rfl ?_
    refine wi_ic hc rfl ?_
    refine wi_add hc rfl ?_
    refine wi_a1 hc rfl rfl ?_
    refine wi_gfv (kz := 28) rfl hc rfl rfl (by decide) (Nat.le_of_ble_eq_true rfl) rfl (v := n) (hn) ?_
    refine wi_cge hc rfl ⟨by omega, by omega⟩ ⟨by omega, by omega⟩ (fun h1_ => ?_) (fun h1_ => ?_)
    · refine wi_ic hc rfl ?_
      refine wi_r1 hc rfl (by rw [cm_241]; rfl) ?_
      rw [show (n - 1).toNat = i.toNat by omega, hcl]
    · have a1 := hf i (by omega) (by omega)
      have a2 := hf (i + 1) (by omega) (by omega)
      have a3 := h01 (f i) (f (i + 1))
      refine wi_a1 hc rfl rfl ?_
      refine wi_gr (w := 607) hc rfl rfl (by decide) (Nat.le_of_ble_eq_true rfl) rfl ?_
      refine wi_bi hc rfl rfl ?_
      refine wi_a1 hc rfl rfl ?_
      refine wi_gr (w := 608) hc rfl rfl (by decide) (Nat.le_of_ble_eq_true rfl) rfl ?_
      refine wi_i1 hc rfl rfl ?_
      refine wi_ildv (N := 10) hc rfl rfl (by decide) (by decide) (by omega) (by omega) (v := f i) (hr _ (by omega) (by omega)) ?_
      refine wi_mul hc rfl ?_
      refine wi_a1 hc rfl rfl ?_
      refine wi_gr (w := 608) hc rfl rfl (by decide) (Nat.le_of_ble_eq_true rfl) rfl ?_
      refine wi_i1 hc rfl rfl ?_
      refine wi_ic hc rfl ?_
      refine wi_add hc rfl ?_
      refine wi_ildv (N := 10) hc rfl rfl (by decide) (by decide) (by omega) (by omega) (v := f (i + 1)) (hr _ (by omega) (by omega)) ?_
      refine wi_add hc rfl ?_
      refine wi_bldv (N := 100) hc rfl rfl (by decide) (by decide) (by omega) (by omega) (v := c (f i) (f (i + 1))) (hC _ _ (by omega) (by omega) (by omega) (by omega)) ?_
      refine wi_zeq hc rfl ⟨by omega, by omega⟩ (fun h2_ => ?_) (fun h2_ => ?_)
      · refine wi_inc (L' := [some (.ref 598), some (.int (iI (i + 1)))]) hc rfl rfl rfl ?_
        refine wi_go hc rfl ?_
        exact ih (by omega) (by omega) (by omega) (by rw [clN_s i0, if_neg (by omega)]; exact hcl)
      · refine wi_ic hc rfl ?_
        refine wi_r0 hc rfl (by rw [cm_241]; rfl) ?_
        rw [clN_z i0 (by omega) (by omega)]
  exact loop2_ 0 (by omega) (by omega) (by omega) rfl
theorem sw_ite (g : Int → Int) (a b i p : Int) : (if p = i + 1 then b else if p = i then a else g p) = if p = i then a else if p = i + 1 then b else g p := by
  by_cases z : p = i + 1
  · rw [if_pos z, if_neg (by omega), if_pos z]
  · rw [if_neg z, if_neg z]
theorem sp_242 {d L t : Nat} {s l : Nat → Int → Int} {i : Int} (i0 : 0 ≤ i) (i1 : i < 9) : ∃ s1, mm_Ev mm_ct mm_CM (d + 1) 242 [.ref 598, .int (iI i)] (MX L t s l) (none, MX L t s1 l) ∧ (∀ c, c ≠ 608 → s1 c = s c) ∧ (∀ p, s1 608 p = if p = i then s 608 (i + 1) else if p = i + 1 then s 608 i else s 608 p) := by
  have hc : (mm_CM 242).2.2.2.2.2.2.2 = mm_cf cd_242 := by rw [cm_242]; rfl
  refine ev_xs ?_
  refine ev_to (mx := 3) (by rw [cm_242]; decide) (by rw [cm_242]; rfl) (by show 2 ≤ _; decide) ?_
  show mm_wp _ _ (0, [some (.ref 598), some (.int (iI i)), none], [], MX L t s l) (fun res => ∃ s1, res = (none, MX L t s1 l) ∧ (∀ c, c ≠ 608 → s1 c = s c) ∧ (∀ p, s1 608 p = if p = i then s 608 (i + 1) else if p = i + 1 then s 608 i else s 608 p))
  refine wi_a1 hc rfl rfl ?_
  refine wi_gr (w := 608) hc rfl rfl (by decide) (Nat.le_of_ble_eq_true rfl) rfl ?_
  refine wi_i1 hc rfl rfl ?_
  refine wi_ild (N := 10) hc rfl rfl (by decide) (by decide) (by omega) (by omega) ?_
  refine wi_is1 (L' := [some (.ref 598), some (.int (iI i)), some (.int (iI (s 608 i)))]) hc rfl (Nat.le_of_ble_eq_true rfl) rfl ?_
  refine wi_a1 hc rfl rfl ?_
  refine wi_gr (w := 608) hc rfl rfl (by decide) (Nat.le_of_ble_eq_true rfl) rfl ?_
  refine wi_i1 hc rfl rfl ?_
  refine wi_a1 hc rfl rfl ?_
  refine wi_gr (w := 608) hc rfl rfl (by decide) (Nat.le_of_ble_eq_true rfl) rfl ?_
  refine wi_i1 hc rfl rfl ?_
  refine wi_ic hc rfl ?_
  refine wi_add hc rfl ?_
  refine wi_ild (N := 10) hc rfl rfl (by decide) (by decide) (by omega) (by omega) ?_
  refine wi_ist (N := 10) hc rfl rfl (by decide) (by decide) (by omega) (by omega) ?_
  obtain ⟨s1_, es1_⟩ : ∃ q, q = up s 608 i (s 608 (i + 1)) := ⟨_, rfl⟩
  rw [← es1_]
  refine wi_a1 hc rfl rfl ?_
  refine wi_gr (w := 608) hc rfl rfl (by decide) (Nat.le_of_ble_eq_true rfl) rfl ?_
  refine wi_i1 hc rfl rfl ?_
  refine wi_ic hc rfl ?_
  refine wi_add hc rfl ?_
  refine wi_i1 hc rfl rfl ?_
  refine wi_ist (N := 10) hc rfl rfl (by decide) (by decide) (by omega) (by omega) ?_
  obtain ⟨s2_, es2_⟩ : ∃ q, q = up s1_ 608 (i + 1) (s 608 i) := ⟨_, rfl⟩
  rw [← es2_]
  refine wi_rv hc rfl (by rw [cm_242]; rfl) ?_
  exact ⟨s2_, rfl, fun c hc9_ => ((congrFun es2_ c).trans (up_cc (by omega))).trans ((congrFun es1_ c).trans (up_cc (by omega))), fun p => by rw [es2_, up_ite, es1_, up_ite]; exact sw_ite _ _ _ _ _⟩
theorem sp_243 {d L t : Nat} {s l : Nat → Int → Int} {c : Int → Int → Int} {f : Int → Int} {n N : Int} (hC : CHm s c N) (h01 : ∀ x y, c x y = 0 ∨ c x y = 1) (hr : ∀ p, 0 ≤ p → p < n → s 608 p = f p) (hf : ∀ p, 0 ≤ p → p < n → 0 ≤ f p ∧ f p < N) (hn : s 598 28 = n) (n0 : 0 ≤ n) (n1 : n ≤ 10) (N1 : N ≤ 10) {k : Int} (k0 : 0 ≤ k) (k1 : k ≤ 1) : ∃ s1, mm_Ev mm_ct mm_CM (d + 2) 243 [.ref 598, .int (iI k)] (MX L t s l) (none, MX L t s1 l) ∧ (∀ c, c ≠ 608 → s1 c = s c) ∧ (∀ p, 0 ≤ p → p < n → s1 608 p = nF c n k f p) := by
  have hc : (mm_CM 243).2.2.2.2.2.2.2 = mm_cf cd_243 := by rw [cm_243]; rfl
  refine ev_xs ?_
  refine ev_to (mx := 3) (by rw [cm_243]; decide) (by rw [cm_243]; rfl) (by show 2 ≤ _; decide) ?_
  show mm_wp _ _ (0, [some (.ref 598), some (.int (iI k)), none], [], MX L t s l) (fun res => ∃ s1, res = (none, MX L t s1 l) ∧ (∀ c, c ≠ 608 → s1 c = s c) ∧ (∀ p, 0 ≤ p → p < n → s1 608 p = nF c n k f p))
  refine wi_i1 hc rfl rfl ?_
  refine wi_is1 (L' := [some (.ref 598), some (.int (iI k)), some (.int (iI k))]) hc rfl (Nat.le_of_ble_eq_true rfl) rfl ?_
  have loop2_ : ∀ i : Int, i ≤ n + 1 → k ≤ i → (i - k) % 2 = 0 → (i = k ∨ i ≤ n) → ∀ s2 : Nat → Int → Int, (∀ c, c ≠ 608 → s2 c = s c) → (∀ p, 0 ≤ p → p < n → s2 608 p = nwP c k i f p) → mm_wp (mm_Ev mm_ct mm_CM (d + 1)) 243 (2, [some (.ref 598), some (.int (iI k)), some (.int (iI i))], [], MX L t s2 l) (fun res => ∃ s1, res = (none, MX L t s1 l) ∧ (∀ c, c ≠ 608 → s1 c = s c) ∧ (∀ p, 0 ≤ p → p < n → s1 608 p = nF c n k f p)) := by
    refine up_ind2 ?_
    intro i hi9 ih i0 i1 i2 s2 hF2 hr2
    have hC2 : CHm s2 c N := hC.of (hF2 607 (by decide))
    have hn2 : s2 598 28 = n := (congrFun (hF2 598 (by decide)) _).trans hn
    have hr3 : ∀ p, 0 ≤ p → p < n → i ≤ p → s2 608 p = f p := fun p b d a => by rw [hr2 p b d, nwP_at a i1]
    refine wi_i1 hc rfl rfl ?_
    refine wi_ic hc rfl ?_
    refine wi_add hc rfl ?_
    refine wi_a1 hc rfl rfl ?_
    refine wi_gfv (kz := 28) rfl hc rfl rfl (by decide) (Nat.le_of_ble_eq_true rfl) rfl (v := n) (hn2) ?_
    refine wi_cge hc rfl ⟨by omega, by omega⟩ ⟨by omega, by omega⟩ (fun h1_ => ?_) (fun h1_ => ?_)
    · refine wi_rv hc rfl (by rw [cm_243]; rfl) ?_
      exact ⟨s2, rfl, hF2, fun p p0 p1 => by rw [hr2 p p0 p1, nF_end i1 (by omega) i2 p1]⟩
    · have a1 := hf i (by omega) (by omega)
      have a2 := hf (i + 1) (by omega) (by omega)
      have a3 := h01 (f i) (f (i + 1))
      refine wi_a1 hc rfl rfl ?_
      refine wi_gr (w := 607) hc rfl rfl (by decide) (Nat.le_of_ble_eq_true rfl) rfl ?_
      refine wi_bi hc rfl rfl ?_
      refine wi_a1 hc rfl rfl ?_
      refine wi_gr (w := 608) hc rfl rfl (by decide) (Nat.le_of_ble_eq_true rfl) rfl ?_
      refine wi_i1 hc rfl rfl ?_
      refine wi_ildv (N := 10) hc rfl rfl (by decide) (by decide) (by omega) (by omega) (v := f i) (hr3 _ (by omega) (by omega) (by omega)) ?_
      refine wi_mul hc rfl ?_
      refine wi_a1 hc rfl rfl ?_
      refine wi_gr (w := 608) hc rfl rfl (by decide) (Nat.le_of_ble_eq_true rfl) rfl ?_
      refine wi_i1 hc rfl rfl ?_
      refine wi_ic hc rfl ?_
      refine wi_add hc rfl ?_
      refine wi_ildv (N := 10) hc rfl rfl (by decide) (by decide) (by omega) (by omega) (v := f (i + 1)) (hr3 _ (by omega) (by omega) (by omega)) ?_
      refine wi_add hc rfl ?_
      refine wi_bldv (N := 100) hc rfl rfl (by decide) (by decide) (by omega) (by omega) (v := c (f i) (f (i + 1))) (hC2 _ _ (by omega) (by omega) (by omega) (by omega)) ?_
      refine wi_zeq hc rfl ⟨by omega, by omega⟩ (fun h2_ => ?_) (fun h2_ => ?_)
      · refine wi_inc (L' := [some (.ref 598), some (.int (iI k)), some (.int (iI (i + 2)))]) hc rfl rfl rfl ?_
        refine wi_go hc rfl ?_
        exact ih (by omega) (by omega) (by omega) (by omega) s2 hF2 (fun p p0 p1 => by rw [hr2 p p0 p1, nwP_step i0 i1, if_neg (by omega)])
      · refine wi_a1 hc rfl rfl ?_
        refine wi_i1 hc rfl rfl ?_
        obtain ⟨s1_, hE1_, hF1_, hp1_⟩ := sp_242 (d := 0) (L := L) (t := t) (s := s2) (l := l) (i := i) (by omega) (by omega)
        refine wp_cv (b := 598) (As := [.int (iI i)]) (r := []) hc rfl (by rw [cm_242]; rfl) rfl (Nat.le_of_ble_eq_true rfl) (show 598 < 621 by decide) (by rw [cm_242]; rfl) (ev_mono hE1_ (by omega)) ?_
        show mm_wp _ _ (43, [some (.ref 598), some (.int (iI k)), some (.int (iI i))], [], MX L t s1_ l) _
        refine wi_inc (L' := [some (.ref 598), some (.int (iI k)), some (.int (iI (i + 2)))]) hc rfl rfl rfl ?_
        refine wi_go hc rfl ?_
        exact ih (by omega) (by omega) (by omega) (by omega) s1_ (fun c hc9_ => (hF1_ c (by omega)).trans (hF2 c (by omega))) (fun p p0 p1 => nwP_sw i0 i1 (by omega) (by omega) hr2 hp1_ (by omega) p0 p1)
  exact loop2_ k (by omega) (by omega) (by omega) (by omega) s (fun c _ => rfl) (fun p p0 p1 => by rw [nwP_0]; exact hr p p0 p1)
theorem sp_244 {d L t : Nat} {s l : Nat → Int → Int} {c : Int → Int → Int} {f : Int → Int} {n N : Int} (hC : CHm s c N) (h01 : ∀ x y, c x y = 0 ∨ c x y = 1) (hr : ∀ p, 0 ≤ p → p < n → s 608 p = f p) (hf : ∀ p, 0 ≤ p → p < n → 0 ≤ f p ∧ f p < N) (hn : s 598 28 = n) (n0 : 0 ≤ n) (n1 : n ≤ 10) (N1 : N ≤ 10) {k : Int} (hk : s 599 1 = k) (k0 : 0 ≤ k) (k1 : k ≤ 9999) : ∃ s1, mm_Ev mm_ct mm_CM (d + 3) 244 [.ref 598] (MX L t s l) (some (.int (iI (rsF c n k f 501 0))), MX L t s1 l) ∧ (∀ c, c ≠ 608 → s1 c = s c) ∧ (0 ≤ rsF c n k f 501 0 → ∀ p, 0 ≤ p → p < n → s1 608 p = stF c n k f (rsF c n k f 501 0).toNat p) := by
  have hc : (mm_CM 244).2.2.2.2.2.2.2 = mm_cf cd_244 := by rw [cm_244]; rfl
  refine ev_xs ?_
  refine ev_to (mx := 2) (by rw [cm_244]; decide) (by rw [cm_244]; rfl) (by show 1 ≤ _; decide) ?_
  show mm_wp _ _ (0, [some (.ref 598), none], [], MX L t s l) (fun res => ∃ s1, res = (some (.int (iI (rsF c n k f 501 0))), MX L t s1 l) ∧ (∀ c, c ≠ 608 → s1 c = s c) ∧ (0 ≤ rsF c n k f 501 0 → ∀ p, 0 ≤ p → p < n → s1 608 p = stF c n k f (rsF c n k f 501 0).toNat p))
  refine wi_ic hc rfl ?_
  refine wi_is1 (L' := [some (.ref 598), some (.int (iI 0))]) hc rfl (Nat.le_of_ble_eq_true rfl) rfl ?_
  have loop2_ : ∀ i : Int, i ≤ 501 → 0 ≤ i → rsF c n k f 501 0 = rsF c n k f (501 - i).toNat i.toNat → ∀ s2 : Nat → Int → Int, (∀ c, c ≠ 608 → s2 c = s c) → (∀ p, 0 ≤ p → p < n → s2 608 p = stF c n k f i.toNat p) → mm_wp (mm_Ev mm_ct mm_CM (d + 2)) 244 (2, [some (.ref 598), some (.int (iI i))], [], MX L t s2 l) (fun res => ∃ s1, res = (some (.int (iI (rsF c n k f 501 0))), MX L t s1 l) ∧ (∀ c, c ≠ 608 → s1 c = s c) ∧ (0 ≤ rsF c n k f 501 0 → ∀ p, 0 ≤ p → p < n → s1 608 p = stF c n k f (rsF c n k f 501 0).toNat p)) := by
    refine up_ind ?_
    intro i hi9 ih i0 hrs s2 hF2 hr2
    have hC2 : CHm s2 c N := hC.of (hF2 607 (by decide))
    have hn2 : s2 598 28 = n := (congrFun (hF2 598 (by decide)) _).trans hn
    have hf2 : ∀ p, 0 ≤ p → p < n → 0 ≤ stF c n k f i.toNat p ∧ stF c n k f i.toNat p < N := stF_all (P := fun v => 0 ≤ v ∧ v < N) hf i.toNat
    refine wi_i1 hc rfl rfl ?_
    refine wi_si hc rfl rfl ?_
    refine wi_cgt hc rfl ⟨by omega, by omega⟩ ⟨by decide, by decide⟩ (fun h1_ => ?_) (fun h1_ => ?_)
    · refine wi_ic hc rfl ?_
      refine wi_ri hc rfl (by rw [cm_244]; rfl) ?_
      have hR : rsF c n k f 501 0 = -1 := by rw [hrs, show (501 - i).toNat = 0 by omega]; rfl
      rw [hR]
      exact ⟨s2, rfl, hF2, fun q => absurd q (by decide)⟩
    · refine wi_a1 hc rfl rfl ?_
      refine wp_cv (b := 598) (As := []) (r := []) hc rfl (by rw [cm_241]; rfl) rfl (Nat.le_of_ble_eq_true rfl) (show 598 < 621 by decide) (by rw [cm_241]; rfl) (ev_mono (sp_241 (d := 0) hC2 h01 hr2 hf2 hn2 n0 n1 N1) (by omega)) ?_
      have h9_ := clN_01 c (stF c n k f i.toNat) (n - 1).toNat
      show mm_wp _ _ (13, [some (.ref 598), some (.int (iI i))], [.int (iI (clN c (stF c n k f i.toNat) (n - 1).toNat))], MX L t s2 l) _
      refine wi_zeq hc rfl ⟨by omega, by omega⟩ (fun h2_ => ?_) (fun h2_ => ?_)
      · refine wi_a1 hc rfl rfl ?_
        refine wi_a1 hc rfl rfl ?_
        refine wi_gr (w := 599) hc rfl rfl (by decide) (Nat.le_of_ble_eq_true rfl) rfl ?_
        refine wi_ic hc rfl ?_
        refine wi_ildv (N := 3642) hc rfl rfl (by decide) (by decide) (by omega) (by omega) (v := k) ((congrFun (hF2 599 (by decide)) _).trans hk) ?_
        refine wi_i1 hc rfl rfl ?_
        refine wi_add hc rfl ?_
        refine wi_ic hc rfl ?_
        refine wi_remp hc rfl ⟨by omega, by omega⟩ ⟨by decide, by decide⟩ (by omega) (by omega) ?_
        obtain ⟨s1_, hE1_, hF1_, hp1_⟩ := sp_243 (d := 0) (L := L) (t := t) (l := l) hC2 h01 hr2 hf2 hn2 n0 n1 N1 (k := (k + i) % 2) (by omega) (by omega)
        refine wp_cv (b := 598) (As := [.int (iI ((k + i) % 2))]) (r := []) hc rfl (by rw [cm_243]; rfl) rfl (Nat.le_of_ble_eq_true rfl) (show 598 < 621 by decide) (by rw [cm_243]; rfl) (ev_mono hE1_ (by omega)) ?_
        show mm_wp _ _ (32, [some (.ref 598), some (.int (iI i))], [], MX L t s1_ l) _
        refine wi_inc (L' := [some (.ref 598), some (.int (iI (i + 1)))]) hc rfl rfl rfl ?_
        refine wi_go hc rfl ?_
        exact ih (by omega) (by omega) (by rw [hrs, rsF_s i0 (by omega), if_neg (by omega)]) s1_ (fun c hc9_ => (hF1_ c (by omega)).trans (hF2 c (by omega))) (fun p p0 p1 => by rw [stF_s i0]; exact hp1_ p p0 p1)
      · refine wi_i1 hc rfl rfl ?_
        refine wi_ri hc rfl (by rw [cm_244]; rfl) ?_
        have hR : rsF c n k f 501 0 = i := by rw [hrs, rsF_s i0 (by omega), if_pos (by omega)]
        rw [hR]
        exact ⟨s2, rfl, hF2, fun _ => hr2⟩
  exact loop2_ 0 (by omega) (by omega) rfl s (fun c _ => rfl) hr
