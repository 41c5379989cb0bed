/-! The class's nights to come, on one row. -/
theorem up_ind2 {n : Int} {P : Int → Prop} (h : ∀ i, i ≤ n → (i + 2 ≤ n → P (i + 2)) → P i) : ∀ i, i ≤ n → P i := by
  have key : ∀ (m : Nat) (i : Int), i ≤ n → n - i ≤ m → P i := by
    intro m
    induction m with
    | zero => exact fun i hi hm => h i hi (fun q => absurd q (by omega))
    | succ m ih => exact fun i hi hm => h i hi (fun q => ih (i + 2) q (by omega))
  exact fun i hi => key (n - i).toNat i hi (by omega)
theorem rwE_congr {f g : Int → Int} {n : Int} (h : ∀ p, 0 ≤ p → p < n → f p = g p) : rwE f n = rwE g n := by
  have key : ∀ m : Nat, (m : Int) ≤ n → rwN f m = rwN g m := by
    intro m
    induction m with
    | zero => intro _; rfl
    | succ m ih =>
      intro hm
      rw [rwN, rwN, ih (by omega), h m (by omega) (by omega)]
  unfold rwE
  by_cases c : 0 ≤ n
  · exact key n.toNat (by omega)
  · rw [show n.toNat = 0 by omega]; rfl
theorem nwP_00 (c : Int → Int → Int) (k : Int) (f : Int → Int) : nwP c k k f = f := funext (nwP_0 c k f)
theorem nwP_all {c : Int → Int → Int} {n k q : Int} {f : Int → Int} {P : Int → Prop} (h : ∀ p, 0 ≤ p → p < n → P (f p)) (k0 : 0 ≤ k) (hq : (q - k) % 2 = 0) (h2 : q = k ∨ q ≤ n) : ∀ p, 0 ≤ p → p < n → P (nwP c k q f p) := by
  intro p p0 p1
  unfold nwP
  split
  · rename_i g; exact h _ (by omega) (by omega)
  · split
    · rename_i g; exact h _ (by omega) (by omega)
    · exact h p p0 p1
theorem clN_s {c : Int → Int → Int} {f : Int → Int} {i : Int} (i0 : 0 ≤ i) : clN c f (i + 1).toNat = if c (f i) (f (i + 1)) = 1 then 0 else clN c f i.toNat := by
  rw [show (i + 1).toNat = i.toNat + 1 by omega, clN, show ((i.toNat : Nat) : Int) = i by omega]
theorem clN_z {c : Int → Int → Int} {f : Int → Int} {i n : Int} (i0 : 0 ≤ i) (h : i + 1 < n) (hc : c (f i) (f (i + 1)) = 1) : clN c f (n - 1).toNat = 0 := clN_0 (p := i.toNat) (by omega) (by rw [show ((i.toNat : Nat) : Int) = i by omega]; exact hc)
theorem stF_s {c : Int → Int → Int} {n k i : Int} {f : Int → Int} (i0 : 0 ≤ i) : stF c n k f (i + 1).toNat = nF c n ((k + i) % 2) (stF c n k f i.toNat) := by
  rw [show (i + 1).toNat = i.toNat + 1 by omega, stF, show ((i.toNat : Nat) : Int) = i by omega]
theorem rsF_s {c : Int → Int → Int} {n k i : Int} {f : Int → Int} (i0 : 0 ≤ i) (i1 : i ≤ 500) : rsF c n k f (501 - i).toNat i.toNat = if clN c (stF c n k f i.toNat) (n - 1).toNat = 1 then i else rsF c n k f (501 - (i + 1)).toNat (i + 1).toNat := by
  rw [show (501 - i).toNat = (501 - (i + 1)).toNat + 1 by omega, rsF, show i.toNat + 1 = (i + 1).toNat by omega, show ((i.toNat : Nat) : Int) = i by omega]
theorem sp_127 {d L t : Nat} {s l : Nat → Int → Int} {e p : Int} (h0 : 0 ≤ e) (h1 : e < 9223372036854775808) (p0 : 0 ≤ p) (p1 : p < 16) : mm_Ev mm_ct mm_CM (d + 1) 127 [.long (lI e), .int (iI p)] (MX L t s l) (some (.int (iI (nbI e p))), MX L t s l) := by
  have hc : (mm_CM 127).2.2.2.2.2.2.2 = mm_cf cd_127 := by rw [cm_127]; rfl
  refine ev_of (mx := 3) (by rw [cm_127]; decide) (by rw [cm_127]; rfl) (by show 3 ≤ _; decide) ?_
  show mm_wp _ _ (0, [some (.long (lI e)), none, some (.int (iI p))], [], MX L t s l) (fun r => r = (some (.int (iI (nbI e p))), MX L t s l))
  refine wi_l1 hc rfl rfl ?_
  refine wi_ic hc rfl ?_
  refine wi_i1 hc rfl rfl ?_
  refine wi_mul hc rfl ?_
  refine wl_ushr (2 ^ (4 * p).toNat) rfl hc rfl (by omega) (by omega) (by omega) (by omega) ?_
  refine wl_l2i hc rfl ?_
  refine wi_bi hc rfl rfl ?_
  refine wi_msk 4 16 rfl (by decide) (by decide) hc rfl ?_
  refine wi_ri hc rfl (by rw [cm_127]; rfl) ?_
  rfl
theorem sp_127f {d L t : Nat} {s l : Nat → Int → Int} {f : Int → Int} {n set p : Int} (hi : inS set f n) (n0 : 0 ≤ n) (n1 : n ≤ 10) (p0 : 0 ≤ p) (p1 : p < n) : mm_Ev mm_ct mm_CM (d + 1) 127 [.long (lI (rwE f n)), .int (iI p)] (MX L t s l) (some (.int (iI (f p))), MX L t s l) := by
  have hre := rwE_ok n0 n1 hi.r16
  have h := sp_127 (d := d) (L := L) (t := t) (s := s) (l := l) (e := rwE f n) (p := p) hre.1.1 (by have := hre.1.2; omega) p0 (by omega)
  rw [hre.2 p p0 (by omega), if_pos p1] at h
  exact h
theorem sp_17 {d L t : Nat} {s l : Nat → Int → Int} {x y : Int} (h0 : 0 ≤ x) (h1 : x < 10) (g0 : 0 ≤ y) (g1 : y < 10) (hr : 0 ≤ s 592 x ∧ s 592 x < 1024) : mm_Ev mm_ct mm_CM (d + 2) 17 [.ref 590, .int (iI x), .int (iI y)] (MX L t s l) (some (.int (iI (s 592 x / 2 ^ y.toNat % 2))), MX L t s l) := by
  have hc : (mm_CM 17).2.2.2.2.2.2.2 = mm_cf cd_17 := by rw [cm_17]; rfl
  refine ev_of (mx := 3) (by rw [cm_17]; decide) (by rw [cm_17]; rfl) (by show 3 ≤ _; decide) ?_
  show mm_wp _ _ (0, [some (.ref 590), some (.int (iI x)), some (.int (iI y))], [], MX L t s l) (fun r => r = (some (.int (iI (s 592 x / 2 ^ y.toNat % 2))), MX L t s l))
  refine wi_i1 hc rfl rfl ?_
  refine wi_bi hc rfl rfl ?_
  refine wi_cge hc rfl ⟨by omega, by omega⟩ ⟨by decide, by decide⟩ (fun h1_ => (by exfalso; omega)) (fun h1_ => ?_)
  refine wi_a1 hc rfl rfl ?_
  refine wi_gr (w := 592) hc rfl rfl (by decide) (Nat.le_of_ble_eq_true rfl) rfl ?_
  refine wi_i1 hc rfl rfl ?_
  refine wi_ild (N := 10) hc rfl rfl (by decide) (by decide) (by omega) (by omega) ?_
  refine wi_i1 hc rfl rfl ?_
  refine wp_cs (As := [.int (iI (s 592 x)), .int (iI y)]) (r := []) hc rfl (by rw [cm_128]; rfl) rfl (Nat.le_of_ble_eq_true rfl) (ev_mono (sp_128 (d := 0) ⟨by omega, by omega⟩ (by omega) (by omega) (by omega)) (by omega)) ?_
  show mm_wp _ _ (16, [some (.ref 590), some (.int (iI x)), some (.int (iI y))], [.int (iI ((s 592 x) / 2 ^ y.toNat % 2))], MX L t s l) _
  refine wi_b01 hc rfl rfl rfl rfl (by omega) ?_
  refine wi_rx (by omega) hc rfl (by rw [cm_17]; rfl) ?_
  rfl
theorem sp_17c {d L t : Nat} {s l : Nat → Int → Int} {c : Int → Int → Int} {set x y : Int} (hC : CHc s c set) (h0 : 0 ≤ x) (h1 : x < 10) (g0 : 0 ≤ y) (g1 : y < 10) (hx : set / 2 ^ x.toNat % 2 = 1) (hy : set / 2 ^ y.toNat % 2 = 1) : mm_Ev mm_ct mm_CM (d + 2) 17 [.ref 590, .int (iI x), .int (iI y)] (MX L t s l) (some (.int (iI (c x y))), MX L t s l) := by
  have h := sp_17 (d := d) (L := L) (t := t) (s := s) (l := l) (x := x) (y := y) h0 h1 g0 g1 (hC x h0 h1).1
  rw [(hC x h0 h1).2 y g0 g1, if_pos ⟨hx, hy⟩] at h
  exact h
theorem sp_18 {d L t : Nat} {s l : Nat → Int → Int} {c : Int → Int → Int} {f : Int → Int} {n set : Int} (hC : CHc s c set) (h01 : ∀ x y, c x y = 0 ∨ c x y = 1) (hi : inS set f n) (n0 : 0 ≤ n) (n1 : n ≤ 10) {p : Int} (p0 : 0 ≤ p) (p1 : p + 1 < n) : mm_Ev mm_ct mm_CM (d + 3) 18 [.ref 590, .long (lI (rwE f n)), .int (iI p)] (MX L t s l) (some (.int (iI (c (f p) (f (p + 1))))), MX L t s l) := by
  have hc : (mm_CM 18).2.2.2.2.2.2.2 = mm_cf cd_18 := by rw [cm_18]; rfl
  refine ev_of (mx := 4) (by rw [cm_18]; decide) (by rw [cm_18]; rfl) (by show 4 ≤ _; decide) ?_
  show mm_wp _ _ (0, [some (.ref 590), some (.long (lI (rwE f n))), none, some (.int (iI p))], [], MX L t s l) (fun r => r = (some (.int (iI (c (f p) (f (p + 1))))), MX L t s l))
  have hre := (rwE_ok n0 n1 hi.r16).1
  refine wi_a1 hc rfl rfl ?_
  refine wi_l1 hc rfl rfl ?_
  refine wi_i1 hc rfl rfl ?_
  refine wp_cs (As := [.long (lI (rwE f n)), .int (iI p)]) (r := [.ref 590]) hc rfl (by rw [cm_127]; rfl) rfl (Nat.le_of_ble_eq_true rfl) (ev_mono (sp_127f (d := 0) hi n0 n1 (by omega) (by omega)) (by omega)) ?_
  show mm_wp _ _ (6, [some (.ref 590), some (.long (lI (rwE f n))), none, some (.int (iI p))], [.int (iI (f p)), .ref 590], MX L t s l) _
  refine wi_l1 hc rfl rfl ?_
  refine wi_i1 hc rfl rfl ?_
  refine wi_ic hc rfl ?_
  refine wi_add hc rfl ?_
  refine wp_cs (As := [.long (lI (rwE f n)), .int (iI (p + 1))]) (r := [.int (iI (f p)), .ref 590]) hc rfl (by rw [cm_127]; rfl) rfl (Nat.le_of_ble_eq_true rfl) (ev_mono (sp_127f (d := 0) hi n0 n1 (by omega) (by omega)) (by omega)) ?_
  show mm_wp _ _ (13, [some (.ref 590), some (.long (lI (rwE f n))), none, some (.int (iI p))], [.int (iI (f (p + 1))), .int (iI (f p)), .ref 590], MX L t s l) _
  have a1 := hi p (by omega) (by omega)
  have a2 := hi (p + 1) (by omega) (by omega)
  refine wp_cv (b := 590) (As := [.int (iI (f p)), .int (iI (f (p + 1)))]) (r := []) hc rfl (by rw [cm_17]; rfl) rfl (Nat.le_of_ble_eq_true rfl) (show 590 < 621 by decide) (by rw [cm_17]; rfl) (ev_mono (sp_17c (d := 0) hC a1.1.1 a1.1.2 a2.1.1 a2.1.2 a1.2 a2.2) (by omega)) ?_
  have a3 := h01 (f p) (f (p + 1))
  show mm_wp _ _ (16, [some (.ref 590), some (.long (lI (rwE f n))), none, some (.int (iI p))], [.int (iI (c (f p) (f (p + 1))))], MX L t s l) _
  refine wi_rx (by omega) hc rfl (by rw [cm_18]; rfl) ?_
  rfl
theorem sp_19 {d L t : Nat} {s l : Nat → Int → Int} {e p : Int} (h0 : 0 ≤ e) (h1 : e < 1099511627776) (p0 : 0 ≤ p) (p1 : p < 9) : mm_Ev mm_ct mm_CM (d + 2) 19 [.long (lI e), .int (iI p)] (MX L t s l) (some (.long (lI (swpI e p))), MX L t s l) := by
  have hc : (mm_CM 19).2.2.2.2.2.2.2 = mm_cf cd_19 := by rw [cm_19]; rfl
  refine ev_of (mx := 5) (by rw [cm_19]; decide) (by rw [cm_19]; rfl) (by show 3 ≤ _; decide) ?_
  show mm_wp _ _ (0, [some (.long (lI e)), none, some (.int (iI p)), none, none], [], MX L t s l) (fun r => r = (some (.long (lI (swpI e p))), MX L t s l))
  refine wi_l1 hc rfl rfl ?_
  refine wi_i1 hc rfl rfl ?_
  refine wp_cs (As := [.long (lI e), .int (iI p)]) (r := []) hc rfl (by rw [cm_127]; rfl) rfl (Nat.le_of_ble_eq_true rfl) (ev_mono (sp_127 (d := 0) (by omega) (by omega) (by omega) (by omega)) (by omega)) ?_
  show mm_wp _ _ (5, [some (.long (lI e)), none, some (.int (iI p)), none, none], [.int (iI (nbI e p))], MX L t s l) _
  refine wi_l1 hc rfl rfl ?_
  refine wi_i1 hc rfl rfl ?_
  refine wi_ic hc rfl ?_
  refine wi_add hc rfl ?_
  refine wp_cs (As := [.long (lI e), .int (iI (p + 1))]) (r := [.int (iI (nbI e p))]) hc rfl (by rw [cm_127]; rfl) rfl (Nat.le_of_ble_eq_true rfl) (ev_mono (sp_127 (d := 0) (by omega) (by omega) (by omega) (by omega)) (by omega)) ?_
  show mm_wp _ _ (12, [some (.long (lI e)), none, some (.int (iI p)), none, none], [.int (iI (nbI e (p + 1))), .int (iI (nbI e p))], MX L t s l) _
  have a := nbI_r e p
  have b := nbI_r e (p + 1)
  refine wi_xor hc rfl (by omega) (by omega) ?_
  refine wl_i2l hc rfl (xnb_r e p) ?_
  refine wi_ls1 (L' := [some (.long (lI e)), none, some (.int (iI p)), some (.long (lI (xorI (nbI e p) (nbI e (p + 1))))), none]) hc rfl (Nat.le_of_ble_eq_true rfl) rfl ?_
  have x0 : 0 ≤ xorI (nbI e p) (nbI e (p + 1)) := Int.natCast_nonneg _
  have m1 : 0 ≤ (xorI (nbI e p) (nbI e (p + 1))) * (2 ^ (4 * p).toNat) := Int.mul_nonneg x0 (by rw [p2c]; exact Int.natCast_nonneg _)
  have m2 : 0 ≤ (xorI (nbI e p) (nbI e (p + 1))) * (2 ^ (4 * (p + 1)).toNat) := Int.mul_nonneg x0 (by rw [p2c]; exact Int.natCast_nonneg _)
  refine wi_l1 hc rfl rfl ?_
  refine wi_l1 hc rfl rfl ?_
  refine wi_ic hc rfl ?_
  refine wi_i1 hc rfl rfl ?_
  refine wi_mul hc rfl ?_
  refine wl_shl (2 ^ (4 * p).toNat) rfl hc rfl (by omega) (by omega) ?_
  refine wi_l1 hc rfl rfl ?_
  refine wi_ic hc rfl ?_
  refine wi_i1 hc rfl rfl ?_
  refine wi_ic hc rfl ?_
  refine wi_add hc rfl ?_
  refine wi_mul hc rfl ?_
  refine wl_shl (2 ^ (4 * (p + 1)).toNat) rfl hc rfl (by omega) (by omega) ?_
  refine wl_or hc rfl (by omega) (by omega) ?_
  have m3 : 0 ≤ orI ((xorI (nbI e p) (nbI e (p + 1))) * (2 ^ (4 * p).toNat)) ((xorI (nbI e p) (nbI e (p + 1))) * (2 ^ (4 * (p + 1)).toNat)) := Int.natCast_nonneg _
  refine wl_xor hc rfl (by omega) (by omega) ?_
  refine wi_rl hc rfl (by rw [cm_19]; rfl) ?_
  rfl
theorem sp_20 {d L t : Nat} {s l : Nat → Int → Int} {c : Int → Int → Int} {f : Int → Int} {n set : Int} (hC : CHc s c set) (h01 : ∀ x y, c x y = 0 ∨ c x y = 1) (hi : inS set f n) (n0 : 0 ≤ n) (n1 : n ≤ 10) : mm_Ev mm_ct mm_CM (d + 4) 20 [.ref 590, .long (lI (rwE f n)), .int (iI n)] (MX L t s l) (some (.int (iI (clN c f (n - 1).toNat))), MX L t s l) := by
  have hc : (mm_CM 20).2.2.2.2.2.2.2 = mm_cf cd_20 := by rw [cm_20]; rfl
  refine ev_of (mx := 5) (by rw [cm_20]; decide) (by rw [cm_20]; rfl) (by show 4 ≤ _; decide) ?_
  show mm_wp _ _ (0, [some (.ref 590), some (.long (lI (rwE f n))), none, some (.int (iI n)), none], [], MX L t s l) (fun r => r = (some (.int (iI (clN c f (n - 1).toNat))), MX L t s l))
  have hre := (rwE_ok n0 n1 hi.r16).1
  refine wi_ic hc rfl ?_
  refine wi_is2 (L' := [some (.ref 590), some (.long (lI (rwE f n))), none, some (.int (iI n)), some (.int (iI 0))]) hc rfl (Nat.le_of_ble_eq_true rfl) rfl ?_
  have loop3_ : ∀ i : Int, i ≤ n → 0 ≤ i → (i = 0 ∨ i + 1 ≤ n) → clN c f i.toNat = 1 → mm_wp (mm_Ev mm_ct mm_CM (d + 3)) 20 (3, [some (.ref 590), some (.long (lI (rwE f n))), none, some (.int (iI n)), some (.int (iI i))], [], MX L t s l) (fun r => r = (some (.int (iI (clN c f (n - 1).toNat))), MX L t s l)) := by
    refine up_ind ?_
    intro i hi9 ih i0 i1 hcl
    refine wi_i2 hc rfl rfl ?_
    refine wi_ic hc rfl ?_
    refine wi_add hc rfl ?_
    refine wi_i1 hc rfl rfl ?_
    refine wi_cge hc rfl ⟨by omega, by omega⟩ ⟨by omega, by omega⟩ (fun h1_ => ?_) (fun h1_ => ?_)
    · refine wi_ic hc rfl ?_
      refine wi_r1 hc rfl (by rw [cm_20]; rfl) ?_
      rw [show (n - 1).toNat = i.toNat by omega, hcl]
    · refine wi_a1 hc rfl rfl ?_
      refine wi_l1 hc rfl rfl ?_
      refine wi_i2 hc rfl rfl ?_
      refine wp_cv (b := 590) (As := [.long (lI (rwE f n)), .int (iI i)]) (r := []) hc rfl (by rw [cm_18]; rfl) rfl (Nat.le_of_ble_eq_true rfl) (show 590 < 621 by decide) (by rw [cm_18]; rfl) (ev_mono (sp_18 (d := 0) hC h01 hi n0 n1 (p := i) (by omega) (by omega)) (by omega)) ?_
      have h9_ := h01 (f i) (f (i + 1))
      show mm_wp _ _ (18, [some (.ref 590), some (.long (lI (rwE f n))), none, some (.int (iI n)), some (.int (iI i))], [.int (iI (c (f i) (f (i + 1))))], MX L t s l) _
      refine wi_zeq hc rfl ⟨by omega, by omega⟩ (fun h2_ => ?_) (fun h2_ => ?_)
      · refine wi_inc (L' := [some (.ref 590), some (.long (lI (rwE f n))), none, some (.int (iI n)), some (.int (iI (i + 1)))]) hc rfl rfl rfl ?_
        refine wi_go hc rfl ?_
        exact ih (by omega) (by omega) (by omega) (by rw [clN_s i0, if_neg (by omega)]; exact hcl)
      · refine wi_ic hc rfl ?_
        refine wi_r0 hc rfl (by rw [cm_20]; rfl) ?_
        rw [clN_z i0 (by omega) (by omega)]
  exact loop3_ 0 (by omega) (by omega) (by omega) rfl
theorem sp_21 {d L t : Nat} {s l : Nat → Int → Int} {c : Int → Int → Int} {f : Int → Int} {n set : Int} (hC : CHc s c set) (h01 : ∀ x y, c x y = 0 ∨ c x y = 1) (hi : inS set f n) (n0 : 0 ≤ n) (n1 : n ≤ 10) {k : Int} : mm_Ev mm_ct mm_CM (d + 4) 21 [.ref 590, .long (lI (rwE f n)), .int (iI n), .int (iI k)] (MX L t s l) (some (.long (lI (rwE (nF c n (k % 2) f) n))), MX L t s l) := by
  have hc : (mm_CM 21).2.2.2.2.2.2.2 = mm_cf cd_21 := by rw [cm_21]; rfl
  refine ev_of (mx := 8) (by rw [cm_21]; decide) (by rw [cm_21]; rfl) (by show 5 ≤ _; decide) ?_
  show mm_wp _ _ (0, [some (.ref 590), some (.long (lI (rwE f n))), none, some (.int (iI n)), some (.int (iI k)), none, none, none], [], MX L t s l) (fun r => r = (some (.long (lI (rwE (nF c n (k % 2) f) n))), MX L t s l))
  have hre := (rwE_ok n0 n1 hi.r16).1
  refine wi_l1 hc rfl rfl ?_
  refine wi_ls2 (L' := [some (.ref 590), some (.long (lI (rwE f n))), none, some (.int (iI n)), some (.int (iI k)), some (.long (lI (rwE f n))), none, none]) hc rfl (Nat.le_of_ble_eq_true rfl) rfl ?_
  refine wi_i2 hc rfl rfl ?_
  refine wi_ic hc rfl ?_
  refine wi_msk 1 2 rfl (by decide) (by decide) hc rfl ?_
  refine wi_is2 (L' := [some (.ref 590), some (.long (lI (rwE f n))), none, some (.int (iI n)), some (.int (iI k)), some (.long (lI (rwE f n))), none, some (.int (iI (k % 2)))]) hc rfl (Nat.le_of_ble_eq_true rfl) rfl ?_
  have loop9_ : ∀ i : Int, i ≤ n + 1 → k % 2 ≤ i → (i - k % 2) % 2 = 0 → (i = k % 2 ∨ i ≤ n) → mm_wp (mm_Ev mm_ct mm_CM (d + 3)) 21 (9, [some (.ref 590), some (.long (lI (rwE f n))), none, some (.int (iI n)), some (.int (iI k)), some (.long (lI (rwE (nwP c (k % 2) i f) n))), none, some (.int (iI i))], [], MX L t s l) (fun r => r = (some (.long (lI (rwE (nF c n (k % 2) f) n))), MX L t s l)) := by
    refine up_ind2 ?_
    intro i hi9 ih i0 i1 i2
    have h16 : ∀ p, 0 ≤ p → p < n → 0 ≤ nwP c (k % 2) i f p ∧ nwP c (k % 2) i f p < 16 := nwP_all (P := fun v => 0 ≤ v ∧ v < 16) hi.r16 (by omega) i1 i2
    have hre2 := rwE_ok n0 n1 h16
    have hre3 := hre2.1
    refine wi_i2 hc rfl rfl ?_
    refine wi_ic hc rfl ?_
    refine wi_add hc rfl ?_
    refine wi_i1 hc rfl rfl ?_
    refine wi_cge hc rfl ⟨by omega, by omega⟩ ⟨by omega, by omega⟩ (fun h1_ => ?_) (fun h1_ => ?_)
    · refine wi_l2 hc rfl rfl ?_
      refine wi_rl hc rfl (by rw [cm_21]; rfl) ?_
      rw [rwE_congr (fun p _ p1 => nF_end i1 (by omega) i2 p1)]
    · refine wi_a1 hc rfl rfl ?_
      refine wi_l1 hc rfl rfl ?_
      refine wi_i2 hc rfl rfl ?_
      refine wp_cv (b := 590) (As := [.long (lI (rwE f n)), .int (iI i)]) (r := []) hc rfl (by rw [cm_18]; rfl) rfl (Nat.le_of_ble_eq_true rfl) (show 590 < 621 by decide) (by rw [cm_18]; rfl) (ev_mono (sp_18 (d := 0) hC h01 hi n0 n1 (p := i) (by omega) (by omega)) (by omega)) ?_
      have h9_ := h01 (f i) (f (i + 1))
      show mm_wp _ _ (24, [some (.ref 590), some (.long (lI (rwE f n))), none, some (.int (iI n)), some (.int (iI k)), some (.long (lI (rwE (nwP c (k % 2) i f) n))), none, some (.int (iI i))], [.int (iI (c (f i) (f (i + 1))))], MX L t s l) _
      refine wi_zeq hc rfl ⟨by omega, by omega⟩ (fun h2_ => ?_) (fun h2_ => ?_)
      · refine wi_inc (L' := [some (.ref 590), some (.long (lI (rwE f n))), none, some (.int (iI n)), some (.int (iI k)), some (.long (lI (rwE (nwP c (k % 2) i f) n))), none, some (.int (iI (i + 2)))]) hc rfl rfl rfl ?_
        refine wi_go hc rfl ?_
        have e9 : rwE (nwP c (k % 2) i f) n = rwE (nwP c (k % 2) (i + 2) f) n := rwE_congr (fun p _ _ => by rw [nwP_step i0 i1, if_neg (by omega)])
        rw [e9]
        exact ih (by omega) (by omega) (by omega) (by omega)
      · refine wi_l2 hc rfl rfl ?_
        refine wi_i2 hc rfl rfl ?_
        refine wp_cs (As := [.long (lI (rwE (nwP c (k % 2) i f) n)), .int (iI i)]) (r := []) hc rfl (by rw [cm_19]; rfl) rfl (Nat.le_of_ble_eq_true rfl) (ev_mono (sp_19 (d := 0) (by omega) (by omega) (by omega) (by omega)) (by omega)) ?_
        show mm_wp _ _ (34, [some (.ref 590), some (.long (lI (rwE f n))), none, some (.int (iI n)), some (.int (iI k)), some (.long (lI (rwE (nwP c (k % 2) i f) n))), none, some (.int (iI i))], [.long (lI (swpI (rwE (nwP c (k % 2) i f) n) i))], MX L t s l) _
        refine wi_ls2 (L' := [some (.ref 590), some (.long (lI (rwE f n))), none, some (.int (iI n)), some (.int (iI k)), some (.long (lI (swpI (rwE (nwP c (k % 2) i f) n) i))), none, some (.int (iI i))]) hc rfl (Nat.le_of_ble_eq_true rfl) rfl ?_
        refine wi_inc (L' := [some (.ref 590), some (.long (lI (rwE f n))), none, some (.int (iI n)), some (.int (iI k)), some (.long (lI (swpI (rwE (nwP c (k % 2) i f) n) i))), none, some (.int (iI (i + 2)))]) hc rfl rfl rfl ?_
        refine wi_go hc rfl ?_
        have e9 : swpI (rwE (nwP c (k % 2) i f) n) i = rwE (nwP c (k % 2) (i + 2) f) n := (hre2.sw i0 i1 (by omega) (by omega) n1 (by omega)).eq n0 n1 (nwP_all (P := fun v => 0 ≤ v ∧ v < 16) hi.r16 (by omega) (by omega) (by omega)) (fun p _ _ => rfl)
        rw [e9]
        exact ih (by omega) (by omega) (by omega) (by omega)
  have q9 := loop9_ (k % 2) (by omega) (by omega) (by omega) (by omega)
  rw [nwP_00] at q9
  exact q9
theorem sp_22 {d L t : Nat} {s l : Nat → Int → Int} {c : Int → Int → Int} {f : Int → Int} {n set : Int} (hC : CHc s c set) (h01 : ∀ x y, c x y = 0 ∨ c x y = 1) (hi : inS set f n) (n0 : 0 ≤ n) (n1 : n ≤ 10) {k : Int} (k0 : rI k) (k1 : rI (k + 501)) : ∃ l1, mm_Ev mm_ct mm_CM (d + 5) 22 [.ref 590, .long (lI (rwE f n)), .int (iI n), .int (iI k)] (MX L t s l) (some (.int (iI (rsF c n k f 501 0))), MX L t s l1) ∧ (∀ c9, c9 ≠ 590 → l1 c9 = l c9) ∧ (0 ≤ rsF c n k f 501 0 → l1 590 3 = rwE (stF c n k f (rsF c n k f 501 0).toNat) n) := by
  have hc : (mm_CM 22).2.2.2.2.2.2.2 = mm_cf cd_22 := by rw [cm_22]; rfl
  refine ev_xl ?_
  refine ev_to (mx := 8) (by rw [cm_22]; decide) (by rw [cm_22]; rfl) (by show 5 ≤ _; decide) ?_
  show mm_wp _ _ (0, [some (.ref 590), some (.long (lI (rwE f n))), none, some (.int (iI n)), some (.int (iI k)), none, none, none], [], MX L t s l) (fun res => ∃ l1, res = (some (.int (iI (rsF c n k f 501 0))), MX L t s l1) ∧ (∀ c9, c9 ≠ 590 → l1 c9 = l c9) ∧ (0 ≤ rsF c n k f 501 0 → l1 590 3 = rwE (stF c n k f (rsF c n k f 501 0).toNat) n))
  have hre := (rwE_ok n0 n1 hi.r16).1
  refine wi_l1 hc rfl rfl ?_
  refine wi_ls2 (L' := [some (.ref 590), some (.long (lI (rwE f n))), none, some (.int (iI n)), some (.int (iI k)), some (.long (lI (rwE f n))), none, none]) hc rfl (Nat.le_of_ble_eq_true rfl) rfl ?_
  refine wi_ic hc rfl ?_
  refine wi_is2 (L' := [some (.ref 590), some (.long (lI (rwE f n))), none, some (.int (iI n)), some (.int (iI k)), some (.long (lI (rwE f n))), none, some (.int (iI 0))]) hc rfl (Nat.le_of_ble_eq_true rfl) rfl ?_
  have loop6_ : ∀ i : Int, i ≤ 501 → 0 ≤ i → rsF c n k f 501 0 = rsF c n k f (501 - i).toNat i.toNat → mm_wp (mm_Ev mm_ct mm_CM (d + 4)) 22 (6, [some (.ref 590), some (.long (lI (rwE f n))), none, some (.int (iI n)), some (.int (iI k)), some (.long (lI (rwE (stF c n k f i.toNat) n))), none, some (.int (iI i))], [], MX L t s l) (fun res => ∃ l1, res = (some (.int (iI (rsF c n k f 501 0))), MX L t s l1) ∧ (∀ c9, c9 ≠ 590 → l1 c9 = l c9) ∧ (0 ≤ rsF c n k f 501 0 → l1 590 3 = rwE (stF c n k f (rsF c n k f 501 0).toNat) n)) := by
    refine up_ind ?_
    intro i hi9 ih i0 hrs
    refine wi_i2 hc rfl rfl ?_
    refine wi_si hc rfl rfl ?_
    refine wi_cgt hc rfl ⟨by omega, by omega⟩ ⟨by decide, by decide⟩ (fun h1_ => ?_) (fun h1_ => ?_)
    · refine wi_ic hc rfl ?_
      refine wi_ri hc rfl (by rw [cm_22]; rfl) ?_
      have hR : rsF c n k f 501 0 = -1 := by rw [hrs, show (501 - i).toNat = 0 by omega]; rfl
      rw [hR]
      exact ⟨l, rfl, fun _ _ => rfl, fun q => absurd q (by decide)⟩
    · refine wi_a1 hc rfl rfl ?_
      refine wi_l2 hc rfl rfl ?_
      refine wi_i1 hc rfl rfl ?_
      refine wp_cv (b := 590) (As := [.long (lI (rwE (stF c n k f i.toNat) n)), .int (iI n)]) (r := []) hc rfl (by rw [cm_20]; rfl) rfl (Nat.le_of_ble_eq_true rfl) (show 590 < 621 by decide) (by rw [cm_20]; rfl) (ev_mono (sp_20 (d := 0) hC h01 (hi.stF i.toNat) n0 n1) (by omega)) ?_
      have h9_ := clN_01 c (stF c n k f i.toNat) (n - 1).toNat
      show mm_wp _ _ (21, [some (.ref 590), some (.long (lI (rwE f n))), none, some (.int (iI n)), some (.int (iI k)), some (.long (lI (rwE (stF c n k f i.toNat) n))), none, some (.int (iI i))], [.int (iI (clN c (stF c n k f i.toNat) (n - 1).toNat))], MX L t s l) _
      refine wi_zeq hc rfl ⟨by omega, by omega⟩ (fun h2_ => ?_) (fun h2_ => ?_)
      · refine wi_a1 hc rfl rfl ?_
        refine wi_l2 hc rfl rfl ?_
        refine wi_i1 hc rfl rfl ?_
        refine wi_i2 hc rfl rfl ?_
        refine wi_i2 hc rfl rfl ?_
        refine wi_add hc rfl ?_
        refine wp_cv (b := 590) (As := [.long (lI (rwE (stF c n k f i.toNat) n)), .int (iI n), .int (iI (k + i))]) (r := []) hc rfl (by rw [cm_21]; rfl) rfl (Nat.le_of_ble_eq_true rfl) (show 590 < 621 by decide) (by rw [cm_21]; rfl) (ev_mono (sp_21 (d := 0) hC h01 (hi.stF i.toNat) n0 n1 (k := k + i)) (by omega)) ?_
        show mm_wp _ _ (45, [some (.ref 590), some (.long (lI (rwE f n))), none, some (.int (iI n)), some (.int (iI k)), some (.long (lI (rwE (stF c n k f i.toNat) n))), none, some (.int (iI i))], [.long (lI (rwE (nF c n ((k + i) % 2) (stF c n k f i.toNat)) n))], MX L t s l) _
        refine wi_ls2 (L' := [some (.ref 590), some (.long (lI (rwE f n))), none, some (.int (iI n)), some (.int (iI k)), some (.long (lI (rwE (nF c n ((k + i) % 2) (stF c n k f i.toNat)) n))), none, some (.int (iI i))]) hc rfl (Nat.le_of_ble_eq_true rfl) rfl ?_
        refine wi_inc (L' := [some (.ref 590), some (.long (lI (rwE f n))), none, some (.int (iI n)), some (.int (iI k)), some (.long (lI (rwE (nF c n ((k + i) % 2) (stF c n k f i.toNat)) n))), none, some (.int (iI (i + 1)))]) hc rfl rfl rfl ?_
        refine wi_go hc rfl ?_
        rw [← stF_s i0]
        exact ih (by omega) (by omega) (by rw [hrs, rsF_s i0 (by omega), if_neg (by omega)])
      · refine wi_a1 hc rfl rfl ?_
        refine wi_l2 hc rfl rfl ?_
        refine wi_pl (kz := 3) rfl hc rfl rfl (by decide) (Nat.le_of_ble_eq_true rfl) rfl (Nat.le_of_ble_eq_true rfl) ⟨rfl, rfl⟩ rfl ?_
        obtain ⟨l1_, el1_⟩ : ∃ q, q = up l 590 3 (rwE (stF c n k f i.toNat) n) := ⟨_, rfl⟩
        rw [← el1_]
        refine wi_i2 hc rfl rfl ?_
        refine wi_ri hc rfl (by rw [cm_22]; rfl) ?_
        have hR : rsF c n k f 501 0 = i := by rw [hrs, rsF_s i0 (by omega), if_pos (by omega)]
        rw [hR]
        exact ⟨l1_, rfl, fun c9 hc9_ => (congrFun el1_ c9).trans (up_cc (by omega)), fun _ => (congrFun (congrFun el1_ _) _).trans up_at⟩
  exact loop6_ 0 (by omega) (by omega) rfl
