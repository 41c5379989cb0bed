/-! Whole NIGHTS. -/
theorem sp_136 {d L t : Nat} {s l : Nat → Int → Int} {A T : Int → Int} (hJ : JC s A T) (hVA : VA A T) (hni : A 1 + 1 ≤ 9999) : ∃ s1, mm_Ev mm_ct mm_CM (d + 6) 136 [.ref 0] (MX L t s l) (some (.int (iI (nightB A T).2)), MX L t s1 l) ∧ (∀ c, ¬ (1 ≤ c ∧ c ≤ 288) ∧ c ≠ 578 ∧ c ≠ 579 → s1 c = s c) ∧ JC s1 (nightF A T) T := by
  have hc : (mm_CM 136).2.2.2.2.2.2.2 = mm_cf cd_136 := by rw [cm_136]; rfl
  refine ev_xs ?_
  refine ev_to (mx := 5) (by rw [cm_136]; decide) (by rw [cm_136]; rfl) (by show 1 ≤ _; decide) ?_
  show mm_wp _ _ (0, [some (.ref 0), none, none, none, none], [], MX L t s l) (fun res => ∃ s1, res = (some (.int (iI (nightB A T).2)), MX L t s1 l) ∧ (∀ c, ¬ (1 ≤ c ∧ c ≤ 288) ∧ c ≠ 578 ∧ c ≠ 579 → s1 c = s c) ∧ JC s1 (nightF A T) T)
  have hKA := (keep_ok hVA)
  have hKk := hKA.1
  have hGk := hKA.2
  have h7 := hVA.2.2.1.2.2.1
  have hn1 := hVA.2.2.1.1
  have h9 := hVA.2.2.2.2.2
  have hk1 : keepF A 1 = A 1 := keep_lo h7 (by decide) (by decide)
  have hk9 : keepF A 9 = A 9 := keep_lo h7 (by decide) (by decide)
  obtain ⟨q, hq⟩ : ∃ q, q = A 1 % 2 := ⟨_, rfl⟩
  refine wi_a1 hc rfl rfl ?_
  refine wi_gr (w := 1) hc rfl rfl (by decide) (Nat.le_of_ble_eq_true rfl) rfl ?_
  obtain ⟨s1_, hE1_, hF1_, hL1_⟩ := sp_11 (d := 0) (L := L) (t := t) (l := l) hJ.1 hVA
  refine wp_cv (b := 1) (As := []) (r := []) hc rfl (by rw [cm_11]; rfl) rfl (Nat.le_of_ble_eq_true rfl) (show 1 < 621 by decide) (by rw [cm_11]; rfl) (ev_mono hE1_ (by omega)) ?_
  have hJ1_ : JC s1_ (keepF A) T := ⟨hL1_, by rw [hF1_ 578 (by omega)]; exact hJ.2⟩
  have hK1_ : KA (keepF A) T := (keep_ok hVA).1
  show mm_wp _ _ (7, [some (.ref 0), none, none, none, none], [], MX L t s1_ l) _
  refine wi_a1 hc rfl rfl ?_
  refine wi_gr (w := 1) hc rfl rfl (by decide) (Nat.le_of_ble_eq_true rfl) rfl ?_
  refine wi_gr (w := 2) hc rfl rfl (by decide) (Nat.le_of_ble_eq_true rfl) rfl ?_
  refine wi_as1 (L' := [some (.ref 0), some (.ref 2), none, none, none]) hc rfl (Nat.le_of_ble_eq_true rfl) rfl ?_
  refine wi_ic hc rfl ?_
  refine wi_is1 (L' := [some (.ref 0), some (.ref 2), some (.int (iI 0)), none, none]) hc rfl (Nat.le_of_ble_eq_true rfl) rfl ?_
  refine wi_ic hc rfl ?_
  refine wi_is1 (L' := [some (.ref 0), some (.ref 2), some (.int (iI 0)), some (.int (iI 0)), none]) hc rfl (Nat.le_of_ble_eq_true rfl) rfl ?_
  have loop19_ : ∀ x : Int, x ≤ 3 → 0 ≤ x → ∀ (B : Int → Int) (n : Int) (q4 : Option Value) (s2 : Nat → Int → Int), B = (chA (keepF A) T q x.toNat).1 → n = (chA (keepF A) T q x.toNat).2 → (∀ c, ¬ (1 ≤ c ∧ c ≤ 288) ∧ c ≠ 578 ∧ c ≠ 579 → s2 c = s c) → JC s2 B T → mm_wp (mm_Ev mm_ct mm_CM (d + 5)) 136 (19, [some (.ref 0), some (.ref 2), some (.int (iI n)), some (.int (iI x)), q4], [], MX L t s2 l) (fun res => ∃ s1, res = (some (.int (iI (nightB A T).2)), MX L t s1 l) ∧ (∀ c, ¬ (1 ≤ c ∧ c ≤ 288) ∧ c ≠ 578 ∧ c ≠ 579 → s1 c = s c) ∧ JC s1 (nightF A T) T) := by
    refine up_ind ?_
    intro x hx ih hx0 B n q4 s2 hB hn hF hJ2
    obtain ⟨cK, cN, cG, c9, c9b, cn0, cn1⟩ := chA_ok (q := q) hKk (by omega) hGk x.toNat (by omega)
    rw [← hB] at cK cN cG c9 c9b
    rw [← hn] at cn0 cn1
    have hb1 : B 1 = A 1 := (cN 1 (by omega)).trans hk1
    refine wi_i1 hc rfl rfl ?_
    refine wi_ic hc rfl ?_
    refine wi_cge hc rfl ⟨by omega, by omega⟩ ⟨by decide, by decide⟩ (fun h1_ => ?_) (fun h1_ => ?_)
    · refine wi_a1 hc rfl rfl ?_
      refine wi_dupr hc rfl ?_
      refine wi_gfv (kz := 6) rfl hc rfl rfl (by decide) (Nat.le_of_ble_eq_true rfl) rfl (v := A 1) ((lb_night hJ2.1).trans hb1) ?_
      refine wi_ic hc rfl ?_
      refine wi_add hc rfl ?_
      refine wi_pf (kz := 6) rfl hc rfl rfl (by decide) (Nat.le_of_ble_eq_true rfl) rfl (Nat.le_of_ble_eq_true rfl) ⟨rfl, rfl⟩ rfl ?_
      obtain ⟨s2_, es2_⟩ : ∃ q, q = up s2 2 6 ((A 1) + 1) := ⟨_, rfl⟩
      rw [← es2_]
      have e3 : x = 3 := by omega
      have hBn : B = (nightB A T).1 := by rw [hB, hq, e3]; rfl
      have hnn : n = (nightB A T).2 := by rw [hn, hq, e3]; rfl
      have hJs : JC s2_ (set1 B 1 (A 1 + 1)) T := ⟨hJ2.1.set1 cK (Or.inl rfl) (fun c _ _ q3 => (congrFun es2_ c).trans (up_cc q3)) (by rw [es2_, up_k (by decide)]) (by rw [es2_, up_k (by decide), if_neg (by decide)]) (by rw [es2_, up_e rfl, if_pos rfl]) (by rw [es2_, up_k (by decide), if_neg (by decide)]), by rw [es2_, up_cc (by decide)]; exact hJ2.2⟩
      have hKs : KA (set1 B 1 (A 1 + 1)) T := set1_KA cK (Or.inl ⟨rfl, by omega, by omega⟩)
      refine wi_a1 hc rfl rfl ?_
      obtain ⟨s3_, hE3_, hF3_, hJ3_⟩ := sp_139 (d := 0) (L := L) (t := t) (l := l) hJs hKs
      refine wp_cv (b := 0) (As := []) (r := []) hc rfl (by rw [cm_139]; rfl) rfl (Nat.le_of_ble_eq_true rfl) (show 0 < 621 by decide) (by rw [cm_139]; rfl) (ev_mono hE3_ (by omega)) ?_
      have hfo3_ := fallAll_ok hKs.1 hKs.2.1 (fun x x0 x1 => by have := hKs.2.2.1.2.2.2.2.1 x x0 x1; omega) 3 (by decide)
      have hK3_ : KA (fallAll (set1 B 1 (A 1 + 1)) T 3).1 T := hfo3_.1.KA hKs hfo3_.2.1
      show mm_wp _ _ (84, [some (.ref 0), some (.ref 2), some (.int (iI n)), some (.int (iI x)), q4], [.int (iI ((fallAll (set1 B 1 (A 1 + 1)) T 3).2))], MX L t s3_ l) _
      refine wi_pop hc rfl ?_
      refine wi_i1 hc rfl rfl ?_
      refine wi_ri hc rfl (by rw [cm_136]; rfl) ?_
      refine ⟨s3_, ?_, fun c hc9_ => (hF3_ c (by omega)).trans (((congrFun es2_ c).trans (up_cc (by omega))).trans (hF c (by omega))), ?_⟩
      · rw [hnn]
      · rw [hBn] at hJ3_; exact hJ3_
    · have hx3 : x < 3 := by omega
      have hb13 := cK.2.1.2.1 x hx0 hx3
      have hbk : B (13 + x) = keepF A (13 + x) := cN _ (by omega)
      have hml := mns_le hKk.2.1 (x.toNat + 1) (by omega)
      have hms : mns (keepF A) (x.toNat + 1) = mns (keepF A) x.toNat + keepF A (13 + x) := by
        show mns (keepF A) x.toNat + keepF A (13 + ((x.toNat : Nat) : Int)) = _
        rw [show ((x.toNat : Nat) : Int) = x by omega]
      have hml0 := mns_le hKk.2.1 x.toNat (by omega)
      refine wi_a1 hc rfl rfl ?_
      refine wi_gfv (kz := 6) rfl hc rfl rfl (by decide) (Nat.le_of_ble_eq_true rfl) rfl (v := A 1) ((lb_night hJ2.1).trans hb1) ?_
      refine wi_ic hc rfl ?_
      refine wi_msk 1 2 rfl (by decide) (by decide) hc rfl ?_
      refine wi_is2 (L' := [some (.ref 0), some (.ref 2), some (.int (iI n)), some (.int (iI x)), some (.int (iI ((A 1) % 2)))]) hc rfl (Nat.le_of_ble_eq_true rfl) rfl ?_
      have loop32_ : ∀ k : Int, k ≤ kx B x q → 0 ≤ k → ∀ (C : Int → Int) (m np p : Int) (s3 : Nat → Int → Int), C = (chS B T x q k.toNat).1 → m = (chS B T x q k.toNat).2 → np = n + m → p = q + 2 * k → (∀ c, ¬ (1 ≤ c ∧ c ≤ 288) ∧ c ≠ 578 ∧ c ≠ 579 → s3 c = s c) → JC s3 C T → mm_wp (mm_Ev mm_ct mm_CM (d + 5)) 136 (32, [some (.ref 0), some (.ref 2), some (.int (iI np)), some (.int (iI x)), some (.int (iI p))], [], MX L t s3 l) (fun res => ∃ s1, res = (some (.int (iI (nightB A T).2)), MX L t s1 l) ∧ (∀ c, ¬ (1 ≤ c ∧ c ≤ 288) ∧ c ≠ 578 ∧ c ≠ 579 → s1 c = s c) ∧ JC s1 (nightF A T) T) := by
        refine up_ind ?_
        intro k hk ih2 hk0 C m np p s3 hC hm hnp hp hF3 hJ3
        obtain ⟨sK, sN, sG, s9, s9b, sn0, sn1⟩ := chS_ok cK hx0 hx3 (by omega : 0 ≤ q) cG k.toNat (by unfold kx at hk; omega)
        rw [← hC] at sK sN sG s9 s9b
        rw [← hm] at sn0 sn1
        have hc13 : C (13 + x) = B (13 + x) := sN _ (by omega)
        have hc1 : C 1 = A 1 := (sN 1 (by omega)).trans hb1
        have hkr : ((k.toNat : Nat) : Int) = k := by omega
        have hkk : k ≤ (B (13 + x) - q) / 2 ∨ k = 0 := by unfold kx at hk; omega
        refine wi_i2 hc rfl rfl ?_
        refine wi_ic hc rfl ?_
        refine wi_add hc rfl ?_
        refine wi_a1 hc rfl rfl ?_
        refine wi_gr (w := 7) hc rfl rfl (by decide) (Nat.le_of_ble_eq_true rfl) rfl ?_
        refine wi_i1 hc rfl rfl ?_
        refine wi_ildv (N := 3) hc rfl rfl (by decide) (by decide) (by omega) (by omega) (v := C (13 + x)) (lb_many hJ3.1 (by omega) (by omega)) ?_
        refine wi_cge hc rfl ⟨by omega, by omega⟩ ⟨by omega, by omega⟩ (fun h2_ => ?_) (fun h2_ => ?_)
        · refine wi_inc (L' := [some (.ref 0), some (.ref 2), some (.int (iI np)), some (.int (iI (x + 1))), some (.int (iI p))]) hc rfl rfl rfl ?_
          refine wi_go hc rfl ?_
          have hke : k.toNat = kx B x q := by unfold kx at hk ⊢; omega
          refine ih (by omega) (by omega) C _ _ s3 ?_ ?_ (fun c hc9_ => hF3 c (by omega)) hJ3
          · rw [show (x + 1).toNat = x.toNat + 1 by omega, chA, ← hB, show ((x.toNat : Nat) : Int) = x by omega, ← hke]; exact hC
          · rw [show (x + 1).toNat = x.toNat + 1 by omega, chA, ← hB, ← hn, show ((x.toNat : Nat) : Int) = x by omega, ← hke, ← hm]; omega
        · refine wi_a1 hc rfl rfl ?_
          refine wi_i1 hc rfl rfl ?_
          refine wi_i2 hc rfl rfl ?_
          obtain ⟨s4_, hE4_, hF4_, hJ4_⟩ := sp_137 (d := 0) (L := L) (t := t) (l := l) hJ3 sK (x := x) (p := p) (g := mns (keepF A) x.toNat + 2 * ((k.toNat : Nat) : Int)) (by omega) (by omega) (by omega) (by unfold kx at hk; omega) sG (by omega) (by unfold kx at hk; omega) (by omega)
          refine wp_cv (b := 0) (As := [.int (iI x), .int (iI p)]) (r := []) hc rfl (by rw [cm_137]; rfl) rfl (Nat.le_of_ble_eq_true rfl) (show 0 < 621 by decide) (by rw [cm_137]; rfl) (ev_mono hE4_ (by omega)) ?_
          have hc01 : cgq C T x (p) = 0 ∨ cgq C T x (p) = 1 := chgI_01 _ _ _ _
          show mm_wp _ _ (52, [some (.ref 0), some (.ref 2), some (.int (iI np)), some (.int (iI x)), some (.int (iI p))], [.int (iI (cgq C T x (p)))], MX L t s4_ l) _
          refine wi_zeq hc rfl ⟨by omega, by omega⟩ (fun h3_ => ?_) (fun h3_ => ?_)
          · refine wi_inc (L' := [some (.ref 0), some (.ref 2), some (.int (iI np)), some (.int (iI x)), some (.int (iI (p + 2)))]) hc rfl rfl rfl ?_
            refine wi_go hc rfl ?_
            refine ih2 (by unfold kx; omega) (by omega) (chF C T x p) (m + cgq C T x p) _ _ s4_ ?_ ?_ (by omega) (by omega) (fun c hc9_ => (hF4_ c (by omega)).trans (hF3 c (by omega))) hJ4_
            · rw [show (k + 1).toNat = k.toNat + 1 by omega, chS, ← hC, hp, hkr]
            · rw [show (k + 1).toNat = k.toNat + 1 by omega, chS, ← hC, ← hm, hp, hkr]
          · refine wi_inc (L' := [some (.ref 0), some (.ref 2), some (.int (iI (np + 1))), some (.int (iI x)), some (.int (iI p))]) hc rfl rfl rfl ?_
            refine wi_inc (L' := [some (.ref 0), some (.ref 2), some (.int (iI (np + 1))), some (.int (iI x)), some (.int (iI (p + 2)))]) hc rfl rfl rfl ?_
            refine wi_go hc rfl ?_
            refine ih2 (by unfold kx; omega) (by omega) (chF C T x p) (m + cgq C T x p) _ _ s4_ ?_ ?_ (by omega) (by omega) (fun c hc9_ => (hF4_ c (by omega)).trans (hF3 c (by omega))) hJ4_
            · rw [show (k + 1).toNat = k.toNat + 1 by omega, chS, ← hC, hp, hkr]
            · rw [show (k + 1).toNat = k.toNat + 1 by omega, chS, ← hC, ← hm, hp, hkr]
      exact loop32_ 0 (by omega) (by omega) B 0 _ _ s2 rfl rfl (by omega) (by omega) (fun c hc9_ => hF c (by omega)) hJ2
  exact loop19_ 0 (by omega) (by omega) (keepF A) 0 _ s1_ rfl rfl (fun c hc9_ => hF1_ c (by omega)) hJ1_
theorem sp_225 {d L t : Nat} {s l : Nat → Int → Int} {A T : Int → Int} (hJ : JM s A T) (hVA : VA A T) (hni : A 1 + 1 ≤ 9999) : ∃ s1 l1, mm_Ev mm_ct mm_CM (d + 8) 225 [.ref 598] (MX L t s l) (some (.int (iI (nightB A T).2)), MX L t s1 l1) ∧ (∀ c, c ≠ 598 ∧ c ≠ 599 ∧ c ≠ 604 ∧ c ≠ 606 → s1 c = s c) ∧ (∀ c, c ≠ 605 → l1 c = l c) ∧ (∀ k, k ≠ 25 → s1 598 k = s 598 k) ∧ JM s1 (nightF A T) T := by
  have hc : (mm_CM 225).2.2.2.2.2.2.2 = mm_cf cd_225 := by rw [cm_225]; rfl
  refine ev_xsl ?_
  refine ev_to (mx := 4) (by rw [cm_225]; decide) (by rw [cm_225]; rfl) (by show 1 ≤ _; decide) ?_
  show mm_wp _ _ (0, [some (.ref 598), none, none, none], [], MX L t s l) (fun res => ∃ s1 l1, res = (some (.int (iI (nightB A T).2)), MX L t s1 l1) ∧ (∀ c, c ≠ 598 ∧ c ≠ 599 ∧ c ≠ 604 ∧ c ≠ 606 → s1 c = s c) ∧ (∀ c, c ≠ 605 → l1 c = l c) ∧ (∀ k, k ≠ 25 → s1 598 k = s 598 k) ∧ JM s1 (nightF A T) T)
  have hKA := (keep_ok hVA)
  have hKk := hKA.1
  have hGk := hKA.2
  have h7 := hVA.2.2.1.2.2.1
  have hn1 := hVA.2.2.1.1
  have h9 := hVA.2.2.2.2.2
  have hk1 : keepF A 1 = A 1 := keep_lo h7 (by decide) (by decide)
  have hk9 : keepF A 9 = A 9 := keep_lo h7 (by decide) (by decide)
  obtain ⟨q, hq⟩ : ∃ q, q = A 1 % 2 := ⟨_, rfl⟩
  refine wi_a1 hc rfl rfl ?_
  obtain ⟨s1_, hE1_, hF1_, hA1_⟩ := sp_214 (d := 0) (L := L) (t := t) (l := l) hJ.1 (by omega) (by omega)
  refine wp_cv (b := 598) (As := []) (r := []) hc rfl (by rw [cm_214]; rfl) rfl (Nat.le_of_ble_eq_true rfl) (show 598 < 621 by decide) (by rw [cm_214]; rfl) (ev_mono hE1_ (by omega)) ?_
  have hJ1_ : JM s1_ (keepF A) T := ⟨hA1_, (hF1_ 601 (by decide)).trans hJ.2.1, by rw [hF1_ 604 (by decide)]; exact hJ.2.2⟩
  have hK1_ : KA (keepF A) T := (keep_ok hVA).1
  show mm_wp _ _ (4, [some (.ref 598), none, none, none], [], MX L t s1_ l) _
  refine wi_ic hc rfl ?_
  refine wi_is1 (L' := [some (.ref 598), some (.int (iI 0)), none, none]) hc rfl (Nat.le_of_ble_eq_true rfl) rfl ?_
  refine wi_ic hc rfl ?_
  refine wi_is1 (L' := [some (.ref 598), some (.int (iI 0)), some (.int (iI 0)), none]) hc rfl (Nat.le_of_ble_eq_true rfl) rfl ?_
  have loop8_ : ∀ x : Int, x ≤ 3 → 0 ≤ x → ∀ (B : Int → Int) (n : Int) (q4 : Option Value) (s2 l2 : Nat → Int → Int), B = (chA (keepF A) T q x.toNat).1 → n = (chA (keepF A) T q x.toNat).2 → (∀ c, c ≠ 599 ∧ c ≠ 604 ∧ c ≠ 606 → s2 c = s c) → (∀ c, c ≠ 605 → l2 c = l c) → JM s2 B T → mm_wp (mm_Ev mm_ct mm_CM (d + 7)) 225 (8, [some (.ref 598), some (.int (iI n)), some (.int (iI x)), q4], [], MX L t s2 l2) (fun res => ∃ s1 l1, res = (some (.int (iI (nightB A T).2)), MX L t s1 l1) ∧ (∀ c, c ≠ 598 ∧ c ≠ 599 ∧ c ≠ 604 ∧ c ≠ 606 → s1 c = s c) ∧ (∀ c, c ≠ 605 → l1 c = l c) ∧ (∀ k, k ≠ 25 → s1 598 k = s 598 k) ∧ JM s1 (nightF A T) T) := by
    refine up_ind ?_
    intro x hx ih hx0 B n q4 s2 l2 hB hn hF hG hJ2
    obtain ⟨cK, cN, cG, c9, c9b, cn0, cn1⟩ := chA_ok (q := q) hKk (by omega) hGk x.toNat (by omega)
    rw [← hB] at cK cN cG c9 c9b
    rw [← hn] at cn0 cn1
    have hb1 : B 1 = A 1 := (cN 1 (by omega)).trans hk1
    refine wi_i1 hc rfl rfl ?_
    refine wi_ic hc rfl ?_
    refine wi_cge hc rfl ⟨by omega, by omega⟩ ⟨by decide, by decide⟩ (fun h1_ => ?_) (fun h1_ => ?_)
    · refine wi_a1 hc rfl rfl ?_
      refine wi_gr (w := 599) hc rfl rfl (by decide) (Nat.le_of_ble_eq_true rfl) rfl ?_
      refine wi_ic hc rfl ?_
      refine wi_dup2 hc rfl ?_
      refine wi_ildv (N := 3642) hc rfl rfl (by decide) (by decide) (by omega) (by omega) (v := A 1) ((congrFun hJ2.1 1).trans hb1) ?_
      refine wi_ic hc rfl ?_
      refine wi_add hc rfl ?_
      refine wi_ist (N := 3642) hc rfl rfl (by decide) (by decide) (by omega) (by omega) ?_
      obtain ⟨s2_, es2_⟩ : ∃ q, q = up s2 599 1 ((A 1) + 1) := ⟨_, rfl⟩
      rw [← es2_]
      have e3 : x = 3 := by omega
      have hBn : B = (nightB A T).1 := by rw [hB, hq, e3]; rfl
      have hnn : n = (nightB A T).2 := by rw [hn, hq, e3]; rfl
      have hJs : JM s2_ (set1 B 1 (A 1 + 1)) T := ⟨by rw [es2_]; exact up_set1 hJ2.1, by rw [es2_, up_cc (by decide)]; exact hJ2.2.1, by rw [es2_, up_cc (by decide)]; exact hJ2.2.2⟩
      have hKs : KA (set1 B 1 (A 1 + 1)) T := set1_KA cK (Or.inl ⟨rfl, by omega, by omega⟩)
      refine wi_a1 hc rfl rfl ?_
      refine wi_dupr hc rfl ?_
      refine wi_gfv (kz := 25) rfl hc rfl rfl (by decide) (Nat.le_of_ble_eq_true rfl) rfl (v := s 598 25) (((congrFun (congrFun es2_ _) _).trans (up_c (by decide))).trans (congrFun (hF 598 (by decide)) _)) ?_
      refine wi_a1 hc rfl rfl ?_
      obtain ⟨s3_, l3_, hE3_, hF3_, hG3_, hJ3_⟩ := sp_224 (d := 0) (L := L) (t := t) (l := l2) hJs hKs
      refine wp_cv (b := 598) (As := []) (r := [.int (iI (s 598 25)), .ref 598]) hc rfl (by rw [cm_224]; rfl) rfl (Nat.le_of_ble_eq_true rfl) (show 598 < 621 by decide) (by rw [cm_224]; rfl) (ev_mono hE3_ (by omega)) ?_
      have hfo3_ := fallAll_ok hKs.1 hKs.2.1 (fun x x0 x1 => by have := hKs.2.2.1.2.2.2.2.1 x x0 x1; omega) 3 (by decide)
      have hK3_ : KA (fallAll (set1 B 1 (A 1 + 1)) T 3).1 T := hfo3_.1.KA hKs hfo3_.2.1
      show mm_wp _ _ (77, [some (.ref 598), some (.int (iI n)), some (.int (iI x)), q4], [.int (iI ((fallAll (set1 B 1 (A 1 + 1)) T 3).2)), .int (iI (s 598 25)), .ref 598], MX L t s3_ l3_) _
      refine wi_add hc rfl ?_
      refine wi_pf (kz := 25) rfl hc rfl rfl (by decide) (Nat.le_of_ble_eq_true rfl) rfl (Nat.le_of_ble_eq_true rfl) ⟨rfl, rfl⟩ rfl ?_
      obtain ⟨s4_, es4_⟩ : ∃ q, q = up s3_ 598 25 ((s 598 25) + ((fallAll (set1 B 1 (A 1 + 1)) T 3).2)) := ⟨_, rfl⟩
      rw [← es4_]
      refine wi_i1 hc rfl rfl ?_
      refine wi_ri hc rfl (by rw [cm_225]; rfl) ?_
      refine ⟨s4_, l3_, ?_, fun c hc9_ => ((congrFun es4_ c).trans (up_cc (by omega))).trans ((hF3_ c (by omega)).trans (((congrFun es2_ c).trans (up_cc (by omega))).trans (hF c (by omega)))), fun c hc9_ => (hG3_ c (by omega)).trans (hG c (by omega)), fun k hk9 => ?_, ?_⟩
      · rw [hnn]
      · rw [es4_, up_k hk9]; exact congrFun ((hF3_ 598 (by decide)).trans (((congrFun es2_ 598).trans (up_cc (by decide))).trans (hF 598 (by decide)))) k
      · rw [hBn] at hJ3_; exact ⟨by rw [es4_, up_cc (by decide)]; exact hJ3_.1, by rw [es4_, up_cc (by decide)]; exact hJ3_.2.1, by rw [es4_, up_cc (by decide)]; exact hJ3_.2.2⟩
    · have hx3 : x < 3 := by omega
      have hb13 := cK.2.1.2.1 x hx0 hx3
      have hbk : B (13 + x) = keepF A (13 + x) := cN _ (by omega)
      have hml := mns_le hKk.2.1 (x.toNat + 1) (by omega)
      have hms : mns (keepF A) (x.toNat + 1) = mns (keepF A) x.toNat + keepF A (13 + x) := by
        show mns (keepF A) x.toNat + keepF A (13 + ((x.toNat : Nat) : Int)) = _
        rw [show ((x.toNat : Nat) : Int) = x by omega]
      have hml0 := mns_le hKk.2.1 x.toNat (by omega)
      refine wi_a1 hc rfl rfl ?_
      refine wi_gr (w := 599) hc rfl rfl (by decide) (Nat.le_of_ble_eq_true rfl) rfl ?_
      refine wi_ic hc rfl ?_
      refine wi_ildv (N := 3642) hc rfl rfl (by decide) (by decide) (by omega) (by omega) (v := A 1) ((congrFun hJ2.1 1).trans hb1) ?_
      refine wi_ic hc rfl ?_
      refine wi_remp hc rfl ⟨by omega, by omega⟩ ⟨by decide, by decide⟩ (by omega) (by omega) ?_
      refine wi_is1 (L' := [some (.ref 598), some (.int (iI n)), some (.int (iI x)), some (.int (iI ((A 1) % 2)))]) hc rfl (Nat.le_of_ble_eq_true rfl) rfl ?_
      have loop22_ : ∀ k : Int, k ≤ kx B x q → 0 ≤ k → ∀ (C : Int → Int) (m np p : Int) (s3 l3 : Nat → Int → Int), C = (chS B T x q k.toNat).1 → m = (chS B T x q k.toNat).2 → np = n + m → p = q + 2 * k → (∀ c, c ≠ 599 ∧ c ≠ 604 ∧ c ≠ 606 → s3 c = s c) → (∀ c, c ≠ 605 → l3 c = l c) → JM s3 C T → mm_wp (mm_Ev mm_ct mm_CM (d + 7)) 225 (22, [some (.ref 598), some (.int (iI np)), some (.int (iI x)), some (.int (iI p))], [], MX L t s3 l3) (fun res => ∃ s1 l1, res = (some (.int (iI (nightB A T).2)), MX L t s1 l1) ∧ (∀ c, c ≠ 598 ∧ c ≠ 599 ∧ c ≠ 604 ∧ c ≠ 606 → s1 c = s c) ∧ (∀ c, c ≠ 605 → l1 c = l c) ∧ (∀ k, k ≠ 25 → s1 598 k = s 598 k) ∧ JM s1 (nightF A T) T) := by
        refine up_ind ?_
        intro k hk ih2 hk0 C m np p s3 l3 hC hm hnp hp hF3 hG3 hJ3
        obtain ⟨sK, sN, sG, s9, s9b, sn0, sn1⟩ := chS_ok cK hx0 hx3 (by omega : 0 ≤ q) cG k.toNat (by unfold kx at hk; omega)
        rw [← hC] at sK sN sG s9 s9b
        rw [← hm] at sn0 sn1
        have hc13 : C (13 + x) = B (13 + x) := sN _ (by omega)
        have hc1 : C 1 = A 1 := (sN 1 (by omega)).trans hb1
        have hkr : ((k.toNat : Nat) : Int) = k := by omega
        have hkk : k ≤ (B (13 + x) - q) / 2 ∨ k = 0 := by unfold kx at hk; omega
        refine wi_i1 hc rfl rfl ?_
        refine wi_ic hc rfl ?_
        refine wi_add hc rfl ?_
        refine wi_a1 hc rfl rfl ?_
        refine wi_gr (w := 599) hc rfl rfl (by decide) (Nat.le_of_ble_eq_true rfl) rfl ?_
        refine wi_bi hc rfl rfl ?_
        refine wi_i1 hc rfl rfl ?_
        refine wi_add hc rfl ?_
        refine wi_ildv (N := 3642) hc rfl rfl (by decide) (by decide) (by omega) (by omega) (v := C (13 + x)) (congrFun (hJ3.1) _) ?_
        refine wi_cge hc rfl ⟨by omega, by omega⟩ ⟨by omega, by omega⟩ (fun h2_ => ?_) (fun h2_ => ?_)
        · refine wi_inc (L' := [some (.ref 598), some (.int (iI np)), some (.int (iI (x + 1))), some (.int (iI p))]) hc rfl rfl rfl ?_
          refine wi_go hc rfl ?_
          have hke : k.toNat = kx B x q := by unfold kx at hk ⊢; omega
          refine ih (by omega) (by omega) C _ _ s3 l3 ?_ ?_ (fun c hc9_ => hF3 c (by omega)) (fun c hc9_ => hG3 c (by omega)) hJ3
          · rw [show (x + 1).toNat = x.toNat + 1 by omega, chA, ← hB, show ((x.toNat : Nat) : Int) = x by omega, ← hke]; exact hC
          · rw [show (x + 1).toNat = x.toNat + 1 by omega, chA, ← hB, ← hn, show ((x.toNat : Nat) : Int) = x by omega, ← hke, ← hm]; omega
        · refine wi_i1 hc rfl rfl ?_
          refine wi_a1 hc rfl rfl ?_
          refine wi_i1 hc rfl rfl ?_
          refine wi_i1 hc rfl rfl ?_
          obtain ⟨s5_, l5_, hE5_, hF5_, hG5_, hJ5_⟩ := sp_221 (d := 0) (L := L) (t := t) (l := l3) hJ3 sK (x := x) (p := p) (by omega) (by omega) (by omega) (by unfold kx at hk; omega) (by omega) (by omega)
          refine wp_cv (b := 598) (As := [.int (iI x), .int (iI p)]) (r := [.int (iI np)]) hc rfl (by rw [cm_221]; rfl) rfl (Nat.le_of_ble_eq_true rfl) (show 598 < 621 by decide) (by rw [cm_221]; rfl) (ev_mono hE5_ (by omega)) ?_
          have hc01 : cgq C T x (p) = 0 ∨ cgq C T x (p) = 1 := chgI_01 _ _ _ _
          show mm_wp _ _ (44, [some (.ref 598), some (.int (iI np)), some (.int (iI x)), some (.int (iI p))], [.int (iI (cgq C T x (p))), .int (iI np)], MX L t s5_ l5_) _
          refine wi_add hc rfl ?_
          refine wi_is1 (L' := [some (.ref 598), some (.int (iI (np + (cgq C T x (p))))), some (.int (iI x)), some (.int (iI p))]) hc rfl (Nat.le_of_ble_eq_true rfl) rfl ?_
          refine wi_inc (L' := [some (.ref 598), some (.int (iI (np + (cgq C T x (p))))), some (.int (iI x)), some (.int (iI (p + 2)))]) hc rfl rfl rfl ?_
          refine wi_go hc rfl ?_
          refine ih2 (by unfold kx; omega) (by omega) (chF C T x p) (m + cgq C T x p) _ _ s5_ l5_ ?_ ?_ (by omega) (by omega) (fun c hc9_ => (hF5_ c (by omega)).trans (hF3 c (by omega))) (fun c hc9_ => (hG5_ c (by omega)).trans (hG3 c (by omega))) hJ5_
          · rw [show (k + 1).toNat = k.toNat + 1 by omega, chS, ← hC, hp, hkr]
          · rw [show (k + 1).toNat = k.toNat + 1 by omega, chS, ← hC, ← hm, hp, hkr]
      exact loop22_ 0 (by omega) (by omega) B 0 _ _ s2 l2 rfl rfl (by omega) (by omega) (fun c hc9_ => hF c (by omega)) (fun c hc9_ => hG c (by omega)) hJ2
  exact loop8_ 0 (by omega) (by omega) (keepF A) 0 _ s1_ l rfl rfl (fun c hc9_ => hF1_ c (by omega)) (fun c hc9_ => rfl) hJ1_
theorem sp_93 {d L t : Nat} {s l : Nat → Int → Int} {A T : Int → Int} (hJ : JC s A T) (hVA : VA A T) {n : Int} (hn : rI n) : ∃ s1, mm_Ev mm_ct mm_CM (d + 7) 93 [.ref 0, .int (iI n)] (MX L t s l) (some (.int (iI (nightR A T n).2)), MX L t s1 l) ∧ (∀ c, ¬ (1 ≤ c ∧ c ≤ 288) ∧ c ≠ 578 ∧ c ≠ 579 → s1 c = s c) ∧ JC s1 (nightR A T n).1 T := by
  have hc : (mm_CM 93).2.2.2.2.2.2.2 = mm_cf cd_93 := by rw [cm_93]; rfl
  refine ev_xs ?_
  refine ev_to (mx := 4) (by rw [cm_93]; decide) (by rw [cm_93]; rfl) (by show 2 ≤ _; decide) ?_
  show mm_wp _ _ (0, [some (.ref 0), some (.int (iI n)), none, none], [], MX L t s l) (fun res => ∃ s1, res = (some (.int (iI (nightR A T n).2)), MX L t s1 l) ∧ (∀ c, ¬ (1 ≤ c ∧ c ≤ 288) ∧ c ≠ 578 ∧ c ≠ 579 → s1 c = s c) ∧ JC s1 (nightR A T n).1 T)
  have hn1 := hVA.2.2.1.1
  refine wi_i1 hc rfl rfl ?_
  refine wi_ic hc rfl ?_
  refine wi_clt hc rfl hn ⟨by decide, by decide⟩ (fun h1_ => ?_) (fun h1_ => ?_)
  · refine wi_ic hc rfl ?_
    refine wi_ri hc rfl (by rw [cm_93]; rfl) ?_
    have hnr : nightR A T n = (A, -1) := by unfold nightR; rw [if_neg (by omega)]
    rw [hnr]
    exact ⟨s, rfl, fun c _ => rfl, hJ⟩
  · refine wi_i1 hc rfl rfl ?_
    refine wi_bi hc rfl rfl ?_
    refine wi_cgt hc rfl hn ⟨by decide, by decide⟩ (fun h2_ => ?_) (fun h2_ => ?_)
    · refine wi_ic hc rfl ?_
      refine wi_ri hc rfl (by rw [cm_93]; rfl) ?_
      have hnr : nightR A T n = (A, -1) := by unfold nightR; rw [if_neg (by omega)]
      rw [hnr]
      exact ⟨s, rfl, fun c _ => rfl, hJ⟩
    · refine wi_a1 hc rfl rfl ?_
      refine wi_gr (w := 1) hc rfl rfl (by decide) (Nat.le_of_ble_eq_true rfl) rfl ?_
      refine wi_gr (w := 2) hc rfl rfl (by decide) (Nat.le_of_ble_eq_true rfl) rfl ?_
      refine wi_gfv (kz := 6) rfl hc rfl rfl (by decide) (Nat.le_of_ble_eq_true rfl) rfl (v := A 1) (lb_night hJ.1) ?_
      refine wi_i1 hc rfl rfl ?_
      refine wi_add hc rfl ?_
      refine wi_si hc rfl rfl ?_
      refine wi_cle hc rfl ⟨by omega, by omega⟩ ⟨by decide, by decide⟩ (fun h3_ => ?_) (fun h3_ => ?_)
      · refine wi_ic hc rfl ?_
        refine wi_is1 (L' := [some (.ref 0), some (.int (iI n)), some (.int (iI 0)), none]) hc rfl (Nat.le_of_ble_eq_true rfl) rfl ?_
        refine wi_ic hc rfl ?_
        refine wi_is1 (L' := [some (.ref 0), some (.int (iI n)), some (.int (iI 0)), some (.int (iI 0))]) hc rfl (Nat.le_of_ble_eq_true rfl) rfl ?_
        have loop35_ : ∀ k : Int, k ≤ n → 0 ≤ k → ∀ (B : Int → Int) (m : Int) (s2 : Nat → Int → Int), B = (nightI A T k.toNat).1 → m = (nightI A T k.toNat).2 → (∀ c, ¬ (1 ≤ c ∧ c ≤ 288) ∧ c ≠ 578 ∧ c ≠ 579 → s2 c = s c) → JC s2 B T → mm_wp (mm_Ev mm_ct mm_CM (d + 6)) 93 (35, [some (.ref 0), some (.int (iI n)), some (.int (iI m)), some (.int (iI k))], [], MX L t s2 l) (fun res => ∃ s1, res = (some (.int (iI (nightR A T n).2)), MX L t s1 l) ∧ (∀ c, ¬ (1 ≤ c ∧ c ≤ 288) ∧ c ≠ 578 ∧ c ≠ 579 → s1 c = s c) ∧ JC s1 (nightR A T n).1 T) := by
          refine up_ind ?_
          intro k hk ih hk0 B m s2 hB hm hF hJ2
          obtain ⟨iV, i1, i2, i3⟩ := nightI_ok hVA k.toNat (by omega)
          rw [← hB] at iV i1
          rw [← hm] at i2 i3
          refine wi_i1 hc rfl rfl ?_
          refine wi_i1 hc rfl rfl ?_
          refine wi_cge hc rfl ⟨by omega, by omega⟩ hn (fun h4_ => ?_) (fun h4_ => ?_)
          · refine wi_i1 hc rfl rfl ?_
            refine wi_ri hc rfl (by rw [cm_93]; rfl) ?_
            have e9 : k = n := by omega
            have hnr : nightR A T n = (B, m) := by unfold nightR; rw [if_pos (by omega), hB, hm, e9]
            rw [hnr]
            exact ⟨s2, rfl, hF, hJ2⟩
          · refine wi_i1 hc rfl rfl ?_
            refine wi_a1 hc rfl rfl ?_
            obtain ⟨s1_, hE1_, hF1_, hJ1_⟩ := sp_136 (d := 0) (L := L) (t := t) (l := l) hJ2 iV (by omega)
            refine wp_cv (b := 0) (As := []) (r := [.int (iI m)]) hc rfl (by rw [cm_136]; rfl) rfl (Nat.le_of_ble_eq_true rfl) (show 0 < 621 by decide) (by rw [cm_136]; rfl) (ev_mono hE1_ (by omega)) ?_
            obtain ⟨_, _, _, _, _, nb0, nb1⟩ := nightB_ok iV
            show mm_wp _ _ (45, [some (.ref 0), some (.int (iI n)), some (.int (iI m)), some (.int (iI k))], [.int (iI ((nightB B T).2)), .int (iI m)], MX L t s1_ l) _
            refine wi_add hc rfl ?_
            refine wi_is1 (L' := [some (.ref 0), some (.int (iI n)), some (.int (iI (m + ((nightB B T).2)))), some (.int (iI k))]) hc rfl (Nat.le_of_ble_eq_true rfl) rfl ?_
            refine wi_inc (L' := [some (.ref 0), some (.int (iI n)), some (.int (iI (m + ((nightB B T).2)))), some (.int (iI (k + 1)))]) hc rfl rfl rfl ?_
            refine wi_go hc rfl ?_
            refine ih (by omega) (by omega) (nightF B T) _ s1_ ?_ ?_ (fun c hc9_ => (hF1_ c (by omega)).trans (hF c (by omega))) hJ1_
            · rw [show (k + 1).toNat = k.toNat + 1 by omega, nightI, ← hB]
            · rw [show (k + 1).toNat = k.toNat + 1 by omega, nightI, ← hB, ← hm]
        exact loop35_ 0 (by omega) (by omega) A 0 s rfl rfl (fun c _ => rfl) hJ
      · refine wi_ic hc rfl ?_
        refine wi_ri hc rfl (by rw [cm_93]; rfl) ?_
        have hnr : nightR A T n = (A, -1) := by unfold nightR; rw [if_neg (by omega)]
        rw [hnr]
        exact ⟨s, rfl, fun c _ => rfl, hJ⟩
theorem sp_226 {d L t : Nat} {s l : Nat → Int → Int} {A T : Int → Int} (hJ : JM s A T) (hVA : VA A T) {n : Int} (hn : rI n) : ∃ s1 l1, mm_Ev mm_ct mm_CM (d + 9) 226 [.ref 598, .int (iI n)] (MX L t s l) (some (.int (iI (nightR A T n).2)), MX L t s1 l1) ∧ (∀ c, c ≠ 598 ∧ c ≠ 599 ∧ c ≠ 604 ∧ c ≠ 606 → s1 c = s c) ∧ (∀ c, c ≠ 605 → l1 c = l c) ∧ (∀ k, k ≠ 25 → s1 598 k = s 598 k) ∧ JM s1 (nightR A T n).1 T := by
  have hc : (mm_CM 226).2.2.2.2.2.2.2 = mm_cf cd_226 := by rw [cm_226]; rfl
  refine ev_xsl ?_
  refine ev_to (mx := 4) (by rw [cm_226]; decide) (by rw [cm_226]; rfl) (by show 2 ≤ _; decide) ?_
  show mm_wp _ _ (0, [some (.ref 598), some (.int (iI n)), none, none], [], MX L t s l) (fun res => ∃ s1 l1, res = (some (.int (iI (nightR A T n).2)), MX L t s1 l1) ∧ (∀ c, c ≠ 598 ∧ c ≠ 599 ∧ c ≠ 604 ∧ c ≠ 606 → s1 c = s c) ∧ (∀ c, c ≠ 605 → l1 c = l c) ∧ (∀ k, k ≠ 25 → s1 598 k = s 598 k) ∧ JM s1 (nightR A T n).1 T)
  have hn1 := hVA.2.2.1.1
  refine wi_i1 hc rfl rfl ?_
  refine wi_ic hc rfl ?_
  refine wi_bi hc rfl rfl ?_
  refine wp_cs (As := [.int (iI n), .int (iI 1), .int (iI 99)]) (r := []) hc rfl (by rw [cm_148]; rfl) rfl (Nat.le_of_ble_eq_true rfl) (ev_mono (sp_148 (d := 0) hn ⟨by decide, by decide⟩ ⟨by decide, by decide⟩) (by omega)) ?_
  show mm_wp _ _ (7, [some (.ref 598), some (.int (iI n)), none, none], [.int (iI (bI (1 ≤ n ∧ n ≤ 99)))], MX L t s l) _
  refine wi_beq hc rfl (fun h1_ => ?_) (fun h1_ => ?_)
  · refine wi_ic hc rfl ?_
    refine wi_ri hc rfl (by rw [cm_226]; rfl) ?_
    have hnr : nightR A T n = (A, -1) := by unfold nightR; rw [if_neg (by omega)]
    rw [hnr]
    exact ⟨s, l, rfl, fun c _ => rfl, (fun c _ => rfl), (fun k _ => rfl), hJ⟩
  · refine wi_a1 hc rfl rfl ?_
    refine wi_gr (w := 599) hc rfl rfl (by decide) (Nat.le_of_ble_eq_true rfl) rfl ?_
    refine wi_ic hc rfl ?_
    refine wi_ildv (N := 3642) hc rfl rfl (by decide) (by decide) (by omega) (by omega) (v := A 1) (congrFun (hJ.1) _) ?_
    refine wi_i1 hc rfl rfl ?_
    refine wi_add hc rfl ?_
    refine wi_si hc rfl rfl ?_
    refine wi_cle hc rfl ⟨by omega, by omega⟩ ⟨by decide, by decide⟩ (fun h2_ => ?_) (fun h2_ => ?_)
    · refine wi_ic hc rfl ?_
      refine wi_is1 (L' := [some (.ref 598), some (.int (iI n)), some (.int (iI 0)), none]) hc rfl (Nat.le_of_ble_eq_true rfl) rfl ?_
      refine wi_ic hc rfl ?_
      refine wi_is1 (L' := [some (.ref 598), some (.int (iI n)), some (.int (iI 0)), some (.int (iI 0))]) hc rfl (Nat.le_of_ble_eq_true rfl) rfl ?_
      have loop30_ : ∀ k : Int, k ≤ n → 0 ≤ k → ∀ (B : Int → Int) (m : Int) (s2 l2 : Nat → Int → Int), B = (nightI A T k.toNat).1 → m = (nightI A T k.toNat).2 → (∀ c, c ≠ 598 ∧ c ≠ 599 ∧ c ≠ 604 ∧ c ≠ 606 → s2 c = s c) → (∀ c, c ≠ 605 → l2 c = l c) → (∀ k, k ≠ 25 → s2 598 k = s 598 k) → JM s2 B T → mm_wp (mm_Ev mm_ct mm_CM (d + 8)) 226 (30, [some (.ref 598), some (.int (iI n)), some (.int (iI m)), some (.int (iI k))], [], MX L t s2 l2) (fun res => ∃ s1 l1, res = (some (.int (iI (nightR A T n).2)), MX L t s1 l1) ∧ (∀ c, c ≠ 598 ∧ c ≠ 599 ∧ c ≠ 604 ∧ c ≠ 606 → s1 c = s c) ∧ (∀ c, c ≠ 605 → l1 c = l c) ∧ (∀ k, k ≠ 25 → s1 598 k = s 598 k) ∧ JM s1 (nightR A T n).1 T) := by
        refine up_ind ?_
        intro k hk ih hk0 B m s2 l2 hB hm hF hG hf hJ2
        obtain ⟨iV, i1, i2, i3⟩ := nightI_ok hVA k.toNat (by omega)
        rw [← hB] at iV i1
        rw [← hm] at i2 i3
        refine wi_i1 hc rfl rfl ?_
        refine wi_i1 hc rfl rfl ?_
        refine wi_cge hc rfl ⟨by omega, by omega⟩ hn (fun h3_ => ?_) (fun h3_ => ?_)
        · refine wi_i1 hc rfl rfl ?_
          refine wi_ri hc rfl (by rw [cm_226]; rfl) ?_
          have e9 : k = n := by omega
          have hnr : nightR A T n = (B, m) := by unfold nightR; rw [if_pos (by omega), hB, hm, e9]
          rw [hnr]
          exact ⟨s2, l2, rfl, hF, hG, hf, hJ2⟩
        · refine wi_i1 hc rfl rfl ?_
          refine wi_a1 hc rfl rfl ?_
          obtain ⟨s1_, l1_, hE1_, hF1_, hG1_, hf1_, hJ1_⟩ := sp_225 (d := 0) (L := L) (t := t) (l := l2) hJ2 iV (by omega)
          refine wp_cv (b := 598) (As := []) (r := [.int (iI m)]) hc rfl (by rw [cm_225]; rfl) rfl (Nat.le_of_ble_eq_true rfl) (show 598 < 621 by decide) (by rw [cm_225]; rfl) (ev_mono hE1_ (by omega)) ?_
          obtain ⟨_, _, _, _, _, nb0, nb1⟩ := nightB_ok iV
          show mm_wp _ _ (40, [some (.ref 598), some (.int (iI n)), some (.int (iI m)), some (.int (iI k))], [.int (iI ((nightB B T).2)), .int (iI m)], MX L t s1_ l1_) _
          refine wi_add hc rfl ?_
          refine wi_is1 (L' := [some (.ref 598), some (.int (iI n)), some (.int (iI (m + ((nightB B T).2)))), some (.int (iI k))]) hc rfl (Nat.le_of_ble_eq_true rfl) rfl ?_
          refine wi_inc (L' := [some (.ref 598), some (.int (iI n)), some (.int (iI (m + ((nightB B T).2)))), some (.int (iI (k + 1)))]) hc rfl rfl rfl ?_
          refine wi_go hc rfl ?_
          refine ih (by omega) (by omega) (nightF B T) _ s1_ l1_ ?_ ?_ (fun c hc9_ => (hF1_ c (by omega)).trans (hF c (by omega))) (fun c hc9_ => (hG1_ c (by omega)).trans (hG c (by omega))) (fun k hk9 => (hf1_ k hk9).trans (hf k hk9)) hJ1_
          · rw [show (k + 1).toNat = k.toNat + 1 by omega, nightI, ← hB]
          · rw [show (k + 1).toNat = k.toNat + 1 by omega, nightI, ← hB, ← hm]
      exact loop30_ 0 (by omega) (by omega) A 0 s l rfl rfl (fun c _ => rfl) (fun c _ => rfl) (fun k _ => rfl) hJ
    · refine wi_ic hc rfl ?_
      refine wi_ri hc rfl (by rw [cm_226]; rfl) ?_
      have hnr : nightR A T n = (A, -1) := by unfold nightR; rw [if_neg (by omega)]
      rw [hnr]
      exact ⟨s, l, rfl, fun c _ => rfl, (fun c _ => rfl), (fun k _ => rfl), hJ⟩
