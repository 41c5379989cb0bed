/-! The class's orders by numbers. -/
def fI (j : Int) : Int := ((fct j.toNat : Nat) : Int)
theorem fct_r (n : Nat) : 1 ≤ fct n ∧ fct n ≤ 720 := by
  unfold fct
  (repeat' split) <;> omega
theorem fI_r (j : Int) : 1 ≤ fI j ∧ fI j ≤ 720 := by
  unfold fI
  have := fct_r j.toNat
  omega
def FcH (s : Nat → Int → Int) : Prop := ∀ j, 0 ≤ j → j < 7 → s 1000000 j = fI j
section WFL
variable {E : mm_EV} {me pc r1 r2 L t : Nat} {cd : Nat → Option mm_In} {Lc : List (Option Value)} {r : List Value} {s l : Nat → Int → Int} {Q : mm_Rs → Prop} {x e v : Int} {M : mm_M}
theorem wi_fld (hc : (mm_CM me).2.2.2.2.2.2.2 = cd) (hi : cd pc = some (.iaload, 1, r1, r2)) (h0 : 0 ≤ e) (h1 : e < 7) (hv : s 1000000 e = v) (k : mm_wp E me (pc + 1, Lc, .int (iI v) :: r, MX L t s l) Q) : mm_wp E me (pc, Lc, .int (iI e) :: .ref 1000000 :: r, MX L t s l) Q := by
  have hn : (iI e).toNatClampNeg = e.toNat := iI_nat h0 (by omega)
  refine wp_st (z' := (pc + 1, Lc, .int (iI v) :: r, MX L t s l)) ⟨_, _, _, _, by rw [hc]; exact hi, ?_⟩ k
  refine ⟨1000000, iI e, r, rfl, Or.inr ⟨Nat.le_refl _, rfl, iI_pos h0 (by omega), ?_⟩, ?_⟩
  · show (iI e).toNatClampNeg < 7
    rw [hn]
    omega
  · show (pc + 1, Lc, Value.int (iI v) :: r, MX L t s l) = (pc + 1, Lc, Value.int (mG s 1000000 (iI e).toNatClampNeg) :: r, MX L t s l)
    rw [hn, mG_n h0, hv]
def lbI (x : Int) : Int := ((lbN x.toNat : Nat) : Int)
set_option maxRecDepth 100000 in
theorem lb_tab : ∀ n : Fin 1024, nI (n : Nat) &&& (- nI (n : Nat)) = nI (lbN (n : Nat)) := by decide +kernel
set_option maxRecDepth 100000 in
theorem lb_r1 : ∀ n, n < 1024 → n ≠ 0 → 1 ≤ lbN n ∧ lbN n ≤ 512 := by decide +kernel
theorem wi_lb (hc : (mm_CM me).2.2.2.2.2.2.2 = cd) (hi : cd pc = some (.iand, 1, r1, r2)) (h0 : 0 ≤ x) (h1 : x < 1024) (k : mm_wp E me (pc + 1, Lc, .int (iI (lbI x)) :: r, M) Q) : mm_wp E me (pc, Lc, .int (iI (-x)) :: .int (iI x) :: r, M) Q := by
  have e : iI x &&& iI (-x) = iI (lbI x) := by
    have := lb_tab ⟨x.toNat, by omega⟩
    rw [← iI_neg]
    have h2 : nI x.toNat = iI x := by rw [iI_nI, Int.toNat_of_nonneg h0]
    show iI x &&& - iI x = nI (lbN x.toNat)
    rw [← h2]
    exact this
  exact wp_st (z' := (pc + 1, Lc, .int (iI x &&& iI (-x)) :: r, M)) (stp_of hc hi rfl) (by rw [e]; exact k)
end WFL
theorem lwD_s (x : Nat) : ∀ k : Nat, lwD x (k + 1) = lwD x k &&& (lwD x k - 1)
  | 0 => rfl
  | k + 1 => by
    show lwD (x &&& (x - 1)) (k + 1) = lwD (x &&& (x - 1)) k &&& (lwD (x &&& (x - 1)) k - 1)
    exact lwD_s (x &&& (x - 1)) k
theorem lwD_le (x : Nat) : ∀ k : Nat, lwD x k ≤ x
  | 0 => Nat.le_refl x
  | k + 1 => by
    rw [lwD_s]
    exact Nat.le_trans (and_le _ _) (lwD_le x k)
def lwI (x i : Int) : Int := ((lwD x.toNat i.toNat : Nat) : Int)
theorem lwI_s {x i : Int} (i0 : 0 ≤ i) (h : 1 ≤ lwI x i) : andI (lwI x i) (lwI x i - 1) = lwI x (i + 1) := by
  unfold lwI at h ⊢
  unfold andI
  rw [show (i + 1).toNat = i.toNat + 1 by omega, lwD_s, Int.toNat_natCast, show (((lwD x.toNat i.toNat : Nat) : Int) - 1).toNat = lwD x.toNat i.toNat - 1 by omega]
theorem lwI_ok {x i : Int} (x0 : 0 ≤ x) (x1 : x < 1024) (i0 : 0 ≤ i) (i1 : i < (blN x.toNat 10).length) : (1 ≤ lwI x i ∧ lwI x i < 1024) ∧ (1 ≤ lbI (lwI x i) ∧ lbI (lwI x i) ≤ 512) ∧ popI (lbI (lwI x i) - 1) = (((blN x.toNat 10).getD i.toNat 0 : Nat) : Int) := by
  have h := List.all_eq_true.mp (lw_all1 x.toNat (by omega)) i.toNat (List.mem_range.mpr (by omega))
  rw [Bool.and_eq_true, Bool.and_eq_true, bne_iff_ne, decide_eq_true_eq, beq_iff_eq] at h
  obtain ⟨⟨h1, h2⟩, h3⟩ := h
  have hl := lwD_le x.toNat i.toNat
  have hb := lb_r1 (lwD x.toNat i.toNat) (by omega) h1
  unfold lbI lwI
  rw [Int.toNat_natCast]
  refine ⟨by omega, by omega, ?_⟩
  rw [popI_N (by omega), show (((lbN (lwD x.toNat i.toNat) : Nat) : Int) - 1).toNat = lbN (lwD x.toNat i.toNat) - 1 by omega, h3]
theorem lfS_s {S : Int} {f : Int → Int} {p : Int} (p0 : 0 ≤ p) : lfS S f (p + 1).toNat = lfS S f p.toNat - andI (lfS S f p.toNat) (1 * 2 ^ (elF S (f p)).toNat) := by
  rw [show (p + 1).toNat = p.toNat + 1 by omega, lfS, show ((p.toNat : Nat) : Int) = p by omega]
def odI (m : Nat) (n p : Int) : Int := (((odS m n.toNat p.toNat).2 : Nat) : Int)
theorem odI_s {m : Nat} {n p : Int} (p0 : 0 ≤ p) (p1 : p < m) : odI m n p / fI ((m : Int) - 1 - p) = (((odS m n.toNat p.toNat).2 / fct (m - 1 - p.toNat) : Nat) : Int) ∧ odI m n p % fI ((m : Int) - 1 - p) = odI m n (p + 1) := by
  unfold odI fI
  rw [show ((m : Int) - 1 - p).toNat = m - 1 - p.toNat by omega, dvc]
  refine ⟨rfl, ?_⟩
  rw [show (p + 1).toNat = p.toNat + 1 by omega, odS]
  exact (Int.natCast_emod _ _).symm
theorem pow_10 {b : Int} (h0 : 0 ≤ b) (h1 : b < 10) : (1 : Int) ≤ 2 ^ b.toNat ∧ (2 : Int) ^ b.toNat ≤ 512 := by
  rcases (by omega : b = 0 ∨ b = 1 ∨ b = 2 ∨ b = 3 ∨ b = 4 ∨ b = 5 ∨ b = 6 ∨ b = 7 ∨ b = 8 ∨ b = 9) with q | q | q | q | q | q | q | q | q | q <;> (rw [q]; decide)
theorem rkW_s {m : Nat} {f : Int → Int} {p : Int} (p0 : 0 ≤ p) (p1 : p < m) : ((rkW m f (p + 1).toNat : Nat) : Int) = ((rkW m f p.toNat : Nat) : Int) + ((clE m (usM f p.toNat) (f p).toNat : Nat) : Int) * fI ((m : Int) - 1 - p) := by
  unfold fI
  rw [show (p + 1).toNat = p.toNat + 1 by omega, rkW, Int.natCast_add, Int.natCast_mul, show ((p.toNat : Nat) : Int) = p by omega, show ((m : Int) - 1 - p).toNat = m - 1 - p.toNat by omega]
theorem sp_34 {d L t : Nat} {s l : Nat → Int → Int} {x k : Int} (x0 : 0 ≤ x) (x1 : x < 1024) (k0 : 0 ≤ k) (k1 : k < (blN x.toNat 10).length) : mm_Ev mm_ct mm_CM (d + 2) 34 [.int (iI x), .int (iI k)] (MX L t s l) (some (.int (iI (((blN x.toNat 10).getD k.toNat 0 : Nat) : Int))), MX L t s l) := by
  have hc : (mm_CM 34).2.2.2.2.2.2.2 = mm_cf cd_34 := by rw [cm_34]; rfl
  refine ev_of (mx := 4) (by rw [cm_34]; decide) (by rw [cm_34]; rfl) (by show 2 ≤ _; decide) ?_
  show mm_wp _ _ (0, [some (.int (iI x)), some (.int (iI k)), none, none], [], MX L t s l) (fun r => r = (some (.int (iI (((blN x.toNat 10).getD k.toNat 0 : Nat) : Int))), MX L t s l))
  have hk := lwI_ok x0 x1 k0 k1
  have hk6 : k < 1000000 := by have := bl_cnt x.toNat (by omega); have := popI_N x0; have := popI_r x; omega
  refine wi_i1 hc rfl rfl ?_
  refine wi_is1 (L' := [some (.int (iI x)), some (.int (iI k)), some (.int (iI x)), none]) hc rfl (Nat.le_of_ble_eq_true rfl) rfl ?_
  refine wi_ic hc rfl ?_
  refine wi_is1 (L' := [some (.int (iI x)), some (.int (iI k)), some (.int (iI x)), some (.int (iI 0))]) hc rfl (Nat.le_of_ble_eq_true rfl) rfl ?_
  have loop4_ : ∀ i : Int, i ≤ k → 0 ≤ i → mm_wp (mm_Ev mm_ct mm_CM (d + 1)) 34 (4, [some (.int (iI x)), some (.int (iI k)), some (.int (iI (lwI x i))), some (.int (iI i))], [], MX L t s l) (fun r => r = (some (.int (iI (((blN x.toNat 10).getD k.toNat 0 : Nat) : Int))), MX L t s l)) := by
    refine up_ind ?_
    intro i hi9 ih i0
    have hki := lwI_ok x0 x1 i0 (by omega)
    refine wi_i1 hc rfl rfl ?_
    refine wi_i1 hc rfl rfl ?_
    refine wi_cge hc rfl ⟨by omega, by omega⟩ (rI_of (by omega) (by omega)) (fun h1_ => ?_) (fun h1_ => ?_)
    · refine wi_i1 hc rfl rfl ?_
      refine wi_i1 hc rfl rfl ?_
      refine wi_neg hc rfl ?_
      refine wi_lb hc rfl (by omega) (by omega) ?_
      refine wi_ic hc rfl ?_
      refine wi_sub hc rfl ?_
      have ek : i = k := by omega
      refine wp_cs (As := [.int (iI ((lbI (lwI x i)) - 1))]) (r := []) hc rfl (by rw [cm_288]; rfl) rfl (Nat.le_of_ble_eq_true rfl) (ev_mono (sp_288 (d := 0) (by omega) (by omega)) (by omega)) ?_
      show mm_wp _ _ (30, [some (.int (iI x)), some (.int (iI k)), some (.int (iI (lwI x i))), some (.int (iI i))], [.int (iI (popI ((lbI (lwI x i)) - 1)))], MX L t s l) _
      refine wi_ri hc rfl (by rw [cm_34]; rfl) ?_
      rw [ek, hk.2.2]
    · refine wi_i1 hc rfl rfl ?_
      refine wi_i1 hc rfl rfl ?_
      refine wi_ic hc rfl ?_
      refine wi_sub hc rfl ?_
      refine wi_and hc rfl (by omega) (by omega) ?_
      refine wi_is1 (L' := [some (.int (iI x)), some (.int (iI k)), some (.int (iI (andI (lwI x i) ((lwI x i) - 1)))), some (.int (iI i))]) hc rfl (Nat.le_of_ble_eq_true rfl) rfl ?_
      refine wi_inc (L' := [some (.int (iI x)), some (.int (iI k)), some (.int (iI (andI (lwI x i) ((lwI x i) - 1)))), some (.int (iI (i + 1)))]) hc rfl rfl rfl ?_
      refine wi_go hc rfl ?_
      rw [lwI_s i0 (by omega)]
      exact ih (by omega) (by omega)
  have q9 := loop4_ 0 (by omega) (by omega)
  have e9 : lwI x 0 = x := by unfold lwI; show ((x.toNat : Nat) : Int) = x; omega
  rw [e9] at q9
  exact q9
theorem sp_35 {d L t : Nat} {s l : Nat → Int → Int} {S : Int} {m : Nat} (S0 : 0 ≤ S) (S1 : S < 1024) (hm : (blN S.toNat 10).length = m) (m7 : m < 7) (hFc : FcH s) (hS : s 594 2 = S) (hM : s 594 3 = (m : Int)) {n : Int} (n0 : 0 ≤ n) (n1 : n < fct m) : mm_Ev mm_ct mm_CM (d + 3) 35 [.ref 594, .int (iI n)] (MX L t s l) (some (.long (lI (rwE (fun p => elF S (dgI m n p)) m))), MX L t s l) := by
  have hc : (mm_CM 35).2.2.2.2.2.2.2 = mm_cf cd_35 := by rw [cm_35]; rfl
  refine ev_of (mx := 9) (by rw [cm_35]; decide) (by rw [cm_35]; rfl) (by show 2 ≤ _; decide) ?_
  show mm_wp _ _ (0, [some (.ref 594), some (.int (iI n)), none, none, none, none, none, none, none], [], MX L t s l) (fun r => r = (some (.long (lI (rwE (fun p => elF S (dgI m n p)) m))), MX L t s l))
  have hdg := dg_ok m7 n0 n1
  have hfr := fct_r m
  refine wl_ic (z := 0) hc ⟨_, rfl, rfl⟩ ?_
  refine wi_ls1 (L' := [some (.ref 594), some (.int (iI n)), some (.long (lI 0)), none, none, none, none, none, none]) hc rfl (Nat.le_of_ble_eq_true rfl) rfl ?_
  refine wi_a1 hc rfl rfl ?_
  refine wi_gfv (kz := 2) rfl hc rfl rfl (by decide) (Nat.le_of_ble_eq_true rfl) rfl (v := S) (hS) ?_
  refine wi_is2 (L' := [some (.ref 594), some (.int (iI n)), some (.long (lI 0)), none, some (.int (iI S)), none, none, none, none]) hc rfl (Nat.le_of_ble_eq_true rfl) rfl ?_
  refine wi_i1 hc rfl rfl ?_
  refine wi_is2 (L' := [some (.ref 594), some (.int (iI n)), some (.long (lI 0)), none, some (.int (iI S)), some (.int (iI n)), none, none, none]) hc rfl (Nat.le_of_ble_eq_true rfl) rfl ?_
  refine wi_ic hc rfl ?_
  refine wi_is2 (L' := [some (.ref 594), some (.int (iI n)), some (.long (lI 0)), none, some (.int (iI S)), some (.int (iI n)), some (.int (iI 0)), none, none]) hc rfl (Nat.le_of_ble_eq_true rfl) rfl ?_
  have loop14_ : ∀ p : Int, p ≤ (m : Int) → 0 ≤ p → ∀ o7 o8 : Option Value, mm_wp (mm_Ev mm_ct mm_CM (d + 2)) 35 (14, [some (.ref 594), some (.int (iI n)), some (.long (lI (rwN (fun p => elF S (dgI m n p)) p.toNat))), none, some (.int (iI (lfS S (dgI m n) p.toNat))), some (.int (iI (odI m n p))), some (.int (iI p)), o7, o8], [], MX L t s l) (fun r => r = (some (.long (lI (rwE (fun p => elF S (dgI m n p)) m))), MX L t s l)) := by
    refine up_ind ?_
    intro p hp9 ih p0 o7 o8
    have hnn := rwN_nn (fun p => elF S (dgI m n p)) p.toNat
    have hlf := lfS_ok S0 S1 hm m7 hdg.1 p.toNat (by omega)
    refine wi_i2 hc rfl rfl ?_
    refine wi_a1 hc rfl rfl ?_
    refine wi_gfv (kz := 3) rfl hc rfl rfl (by decide) (Nat.le_of_ble_eq_true rfl) rfl (v := (m : Int)) (hM) ?_
    refine wi_cge hc rfl ⟨by omega, by omega⟩ ⟨by omega, by omega⟩ (fun h1_ => ?_) (fun h1_ => ?_)
    · refine wi_l1 hc rfl rfl ?_
      refine wi_rl hc rfl (by rw [cm_35]; rfl) ?_
      rw [show p = (m : Int) by omega]
      rfl
    · refine wp_gst hc rfl (q := ("SelfSorting$Orders", "FACTORIALS", "[I", .ref 1000000)) rfl ?_
      show mm_wp _ _ (26, [some (.ref 594), some (.int (iI n)), some (.long (lI (rwN (fun p => elF S (dgI m n p)) p.toNat))), none, some (.int (iI (lfS S (dgI m n) p.toNat))), some (.int (iI (odI m n p))), some (.int (iI p)), o7, o8], [.ref 1000000], MX L t s l) _
      refine wi_a1 hc rfl rfl ?_
      refine wi_gfv (kz := 3) rfl hc rfl rfl (by decide) (Nat.le_of_ble_eq_true rfl) rfl (v := (m : Int)) (hM) ?_
      refine wi_ic hc rfl ?_
      refine wi_sub hc rfl ?_
      refine wi_i2 hc rfl rfl ?_
      refine wi_sub hc rfl ?_
      refine wi_fld hc rfl (by omega) (by omega) (v := fI (((m : Int) - 1) - p)) (hFc _ (by omega) (by omega)) ?_
      have hfr_ := fI_r (((m : Int) - 1) - p)
      refine wi_is2 (L' := [some (.ref 594), some (.int (iI n)), some (.long (lI (rwN (fun p => elF S (dgI m n p)) p.toNat))), none, some (.int (iI (lfS S (dgI m n) p.toNat))), some (.int (iI (odI m n p))), some (.int (iI p)), some (.int (iI (fI (((m : Int) - 1) - p)))), o8]) hc rfl (Nat.le_of_ble_eq_true rfl) rfl ?_
      refine wi_i2 hc rfl rfl ?_
      refine wi_zle hc rfl ⟨by omega, by omega⟩ (fun h2_ => (by exfalso; omega)) (fun h2_ => ?_)
      refine wi_i2 hc rfl rfl ?_
      have hdl := dg_low S0 S1 hm m7 n0 n1 (p := p.toNat) (by omega)
      have hob : 0 ≤ odI m n p ∧ odI m n p < 720 := by unfold odI; omega
      refine wi_i2 hc rfl rfl ?_
      refine wi_i2 hc rfl rfl ?_
      refine wi_divp hc rfl ⟨by omega, by omega⟩ ⟨by omega, by omega⟩ (by omega) (by omega) ?_
      have hdl := dg_low S0 S1 hm m7 n0 n1 (p := p.toNat) (by omega)
      have hod := odI_s (n := n) p0 (by omega : p < (m : Int))
      rw [show ((p.toNat : Nat) : Int) = p by omega] at hdl
      refine wp_cs (As := [.int (iI (lfS S (dgI m n) p.toNat)), .int (iI ((odI m n p) / (fI (((m : Int) - 1) - p))))]) (r := []) hc rfl (by rw [cm_34]; rfl) rfl (Nat.le_of_ble_eq_true rfl) (ev_mono (by have h := sp_34 (d := 0) (L := L) (t := t) (s := s) (l := l) (x := lfS S (dgI m n) p.toNat) (k := (((odS m n.toNat p.toNat).2 / fct (m - 1 - p.toNat) : Nat) : Int)) hlf.1.1 hlf.1.2 (Int.natCast_nonneg _) (by exact_mod_cast hdl.1); rw [Int.toNat_natCast, hdl.2.1, ← hod.1] at h; exact h) (by omega)) ?_
      show mm_wp _ _ (53, [some (.ref 594), some (.int (iI n)), some (.long (lI (rwN (fun p => elF S (dgI m n p)) p.toNat))), none, some (.int (iI (lfS S (dgI m n) p.toNat))), some (.int (iI (odI m n p))), some (.int (iI p)), some (.int (iI (fI (((m : Int) - 1) - p)))), o8], [.int (iI (elF S (dgI m n p)))], MX L t s l) _
      refine wi_go hc rfl ?_
      have gd := hdg.1 p p0 (by omega)
      have gb := elF_r hm gd.1 gd.2
      have gp := pow_10 gb.1 gb.2
      refine wi_is2 (L' := [some (.ref 594), some (.int (iI n)), some (.long (lI (rwN (fun p => elF S (dgI m n p)) p.toNat))), none, some (.int (iI (lfS S (dgI m n) p.toNat))), some (.int (iI (odI m n p))), some (.int (iI p)), some (.int (iI (fI (((m : Int) - 1) - p)))), some (.int (iI (elF S (dgI m n p))))]) hc rfl (Nat.le_of_ble_eq_true rfl) rfl ?_
      refine wi_i2 hc rfl rfl ?_
      refine wi_zle hc rfl ⟨by omega, by omega⟩ (fun h3_ => (by exfalso; omega)) (fun h3_ => ?_)
      refine wi_i2 hc rfl rfl ?_
      refine wi_i2 hc rfl rfl ?_
      refine wi_remp hc rfl ⟨by omega, by omega⟩ ⟨by omega, by omega⟩ (by omega) (by omega) ?_
      refine wi_go hc rfl ?_
      refine wi_is2 (L' := [some (.ref 594), some (.int (iI n)), some (.long (lI (rwN (fun p => elF S (dgI m n p)) p.toNat))), none, some (.int (iI (lfS S (dgI m n) p.toNat))), some (.int (iI ((odI m n p) % (fI (((m : Int) - 1) - p))))), some (.int (iI p)), some (.int (iI (fI (((m : Int) - 1) - p)))), some (.int (iI (elF S (dgI m n p))))]) hc rfl (Nat.le_of_ble_eq_true rfl) rfl ?_
      refine wi_i2 hc rfl rfl ?_
      refine wi_ic hc rfl ?_
      refine wi_i2 hc rfl rfl ?_
      refine wi_shl (2 ^ (elF S (dgI m n p)).toNat) rfl hc rfl (by omega) (by omega) ?_
      refine wi_ic hc rfl ?_
      refine wi_not hc rfl ?_
      refine wi_andn hc rfl (by omega) (by omega) (by omega) (by omega) ?_
      refine wi_is2 (L' := [some (.ref 594), some (.int (iI n)), some (.long (lI (rwN (fun p => elF S (dgI m n p)) p.toNat))), none, some (.int (iI ((lfS S (dgI m n) p.toNat) - andI (lfS S (dgI m n) p.toNat) (1 * (2 ^ (elF S (dgI m n p)).toNat))))), some (.int (iI ((odI m n p) % (fI (((m : Int) - 1) - p))))), some (.int (iI p)), some (.int (iI (fI (((m : Int) - 1) - p)))), some (.int (iI (elF S (dgI m n p))))]) hc rfl (Nat.le_of_ble_eq_true rfl) rfl ?_
      refine wi_l1 hc rfl rfl ?_
      refine wi_i2 hc rfl rfl ?_
      refine wl_i2l hc rfl ⟨by omega, by omega⟩ ?_
      refine wi_ic hc rfl ?_
      refine wi_i2 hc rfl rfl ?_
      refine wi_mul hc rfl ?_
      refine wl_shl (2 ^ (4 * p).toNat) rfl hc rfl (by omega) (by omega) ?_
      have hm9 : 0 ≤ elF S (dgI m n p) * (2 ^ (4 * p).toNat) := Int.mul_nonneg gb.1 (by rw [p2c]; exact Int.natCast_nonneg _)
      refine wl_or hc rfl (by omega) (by omega) ?_
      refine wi_ls1 (L' := [some (.ref 594), some (.int (iI n)), some (.long (lI (orI (rwN (fun p => elF S (dgI m n p)) p.toNat) ((elF S (dgI m n p)) * (2 ^ (4 * p).toNat))))), none, some (.int (iI ((lfS S (dgI m n) p.toNat) - andI (lfS S (dgI m n) p.toNat) (1 * (2 ^ (elF S (dgI m n p)).toNat))))), some (.int (iI ((odI m n p) % (fI (((m : Int) - 1) - p))))), some (.int (iI p)), some (.int (iI (fI (((m : Int) - 1) - p)))), some (.int (iI (elF S (dgI m n p))))]) hc rfl (Nat.le_of_ble_eq_true rfl) rfl ?_
      refine wi_inc (L' := [some (.ref 594), some (.int (iI n)), some (.long (lI (orI (rwN (fun p => elF S (dgI m n p)) p.toNat) ((elF S (dgI m n p)) * (2 ^ (4 * p).toNat))))), none, some (.int (iI ((lfS S (dgI m n) p.toNat) - andI (lfS S (dgI m n) p.toNat) (1 * (2 ^ (elF S (dgI m n p)).toNat))))), some (.int (iI ((odI m n p) % (fI (((m : Int) - 1) - p))))), some (.int (iI (p + 1))), some (.int (iI (fI (((m : Int) - 1) - p)))), some (.int (iI (elF S (dgI m n p))))]) hc rfl rfl rfl ?_
      refine wi_go hc rfl ?_
      have e2 : orI (rwN (fun p => elF S (dgI m n p)) p.toNat) (elF S (dgI m n p) * (2 ^ (4 * p).toNat)) = rwN (fun p => elF S (dgI m n p)) (p + 1).toNat := (rwN_s (f := (fun p => elF S (dgI m n p))) p0).symm
      rw [e2, ← lfS_s p0, hod.2]
      exact ih (by omega) (by omega) _ _
  have q9 := loop14_ 0 (by omega) (by omega) none none
  have e9 : odI m n 0 = n := by unfold odI; show ((n.toNat : Nat) : Int) = n; omega
  rw [e9] at q9
  exact q9
theorem inS_el {S : Int} {m : Nat} (S0 : 0 ≤ S) (hm : (blN S.toNat 10).length = m) {f : Int → Int} (hr : ∀ p, 0 ≤ p → p < (m : Int) → 0 ≤ f p ∧ f p < m) : inS S (fun p => elF S (f p)) m := fun p p0 p1 => ⟨elF_r hm (hr p p0 p1).1 (hr p p0 p1).2, elF_bit S0 hm (hr p p0 p1).1 (hr p p0 p1).2⟩
theorem sp_36 {d L t : Nat} {s l : Nat → Int → Int} {S : Int} {m : Nat} (S0 : 0 ≤ S) (S1 : S < 1024) (hm : (blN S.toNat 10).length = m) (m7 : m < 7) (hFc : FcH s) (hS : s 594 2 = S) (hM : s 594 3 = (m : Int)) {f : Int → Int} (hr : ∀ p, 0 ≤ p → p < (m : Int) → 0 ≤ f p ∧ f p < m) (hi : injF f m) : mm_Ev mm_ct mm_CM (d + 2) 36 [.ref 594, .long (lI (rwE (fun p => elF S (f p)) m))] (MX L t s l) (some (.int (iI (rkI m f))), MX L t s l) := by
  have hc : (mm_CM 36).2.2.2.2.2.2.2 = mm_cf cd_36 := by rw [cm_36]; rfl
  refine ev_of (mx := 7) (by rw [cm_36]; decide) (by rw [cm_36]; rfl) (by show 3 ≤ _; decide) ?_
  show mm_wp _ _ (0, [some (.ref 594), some (.long (lI (rwE (fun p => elF S (f p)) m))), none, none, none, none, none], [], MX L t s l) (fun r => r = (some (.int (iI (rkI m f))), MX L t s l))
  have his := inS_el S0 hm hr
  refine wi_ic hc rfl ?_
  refine wi_is1 (L' := [some (.ref 594), some (.long (lI (rwE (fun p => elF S (f p)) m))), none, some (.int (iI 0)), none, none, none]) hc rfl (Nat.le_of_ble_eq_true rfl) rfl ?_
  refine wi_a1 hc rfl rfl ?_
  refine wi_gfv (kz := 2) rfl hc rfl rfl (by decide) (Nat.le_of_ble_eq_true rfl) rfl (v := S) (hS) ?_
  refine wi_is2 (L' := [some (.ref 594), some (.long (lI (rwE (fun p => elF S (f p)) m))), none, some (.int (iI 0)), some (.int (iI S)), none, none]) hc rfl (Nat.le_of_ble_eq_true rfl) rfl ?_
  refine wi_ic hc rfl ?_
  refine wi_is2 (L' := [some (.ref 594), some (.long (lI (rwE (fun p => elF S (f p)) m))), none, some (.int (iI 0)), some (.int (iI S)), some (.int (iI 0)), none]) hc rfl (Nat.le_of_ble_eq_true rfl) rfl ?_
  have loop11_ : ∀ p : Int, p ≤ (m : Int) → 0 ≤ p → ∀ o6 : Option Value, mm_wp (mm_Ev mm_ct mm_CM (d + 1)) 36 (11, [some (.ref 594), some (.long (lI (rwE (fun p => elF S (f p)) m))), none, some (.int (iI ((rkW m f p.toNat : Nat) : Int))), some (.int (iI (lfS S f p.toNat))), some (.int (iI p)), o6], [], MX L t s l) (fun r => r = (some (.int (iI (rkI m f))), MX L t s l)) := by
    refine up_ind ?_
    intro p hp9 ih p0 o6
    have hlf := lfS_ok S0 S1 hm m7 hr p.toNat (by omega)
    refine wi_i2 hc rfl rfl ?_
    refine wi_a1 hc rfl rfl ?_
    refine wi_gfv (kz := 3) rfl hc rfl rfl (by decide) (Nat.le_of_ble_eq_true rfl) rfl (v := (m : Int)) (hM) ?_
    refine wi_cge hc rfl ⟨by omega, by omega⟩ ⟨by omega, by omega⟩ (fun h1_ => ?_) (fun h1_ => ?_)
    · refine wi_i1 hc rfl rfl ?_
      refine wi_ri hc rfl (by rw [cm_36]; rfl) ?_
      rw [← rkW_end m7 hr hi, show p.toNat = m by omega]
    · have gd := hr p p0 (by omega)
      have gb := elF_r hm gd.1 gd.2
      have gp := pow_10 gb.1 gb.2
      have hcn := lfS_cnt S0 S1 hm m7 hr (p := p.toNat) (by omega)
      rw [show ((p.toNat : Nat) : Int) = p by omega] at hcn
      refine wi_l1 hc rfl rfl ?_
      refine wi_i2 hc rfl rfl ?_
      refine wp_cs (As := [.long (lI (rwE (fun p => elF S (f p)) m)), .int (iI p)]) (r := []) hc rfl (by rw [cm_127]; rfl) rfl (Nat.le_of_ble_eq_true rfl) (ev_mono (sp_127f (d := 0) his (by omega) (by omega) (by omega) (by omega)) (by omega)) ?_
      show mm_wp _ _ (26, [some (.ref 594), some (.long (lI (rwE (fun p => elF S (f p)) m))), none, some (.int (iI ((rkW m f p.toNat : Nat) : Int))), some (.int (iI (lfS S f p.toNat))), some (.int (iI p)), o6], [.int (iI ((fun p => elF S (f p)) p))], MX L t s l) _
      show mm_wp _ _ (26, [some (.ref 594), some (.long (lI (rwE (fun p => elF S (f p)) m))), none, some (.int (iI ((rkW m f p.toNat : Nat) : Int))), some (.int (iI (lfS S f p.toNat))), some (.int (iI p)), o6], [.int (iI (elF S (f p)))], MX L t s l) _
      refine wi_is2 (L' := [some (.ref 594), some (.long (lI (rwE (fun p => elF S (f p)) m))), none, some (.int (iI ((rkW m f p.toNat : Nat) : Int))), some (.int (iI (lfS S f p.toNat))), some (.int (iI p)), some (.int (iI (elF S (f p))))]) hc rfl (Nat.le_of_ble_eq_true rfl) rfl ?_
      refine wi_i1 hc rfl rfl ?_
      refine wi_i2 hc rfl rfl ?_
      refine wi_ic hc rfl ?_
      refine wi_i2 hc rfl rfl ?_
      refine wi_shl (2 ^ (elF S (f p)).toNat) rfl hc rfl (by omega) (by omega) ?_
      refine wi_ic hc rfl ?_
      refine wi_sub hc rfl ?_
      refine wi_and hc rfl (by omega) (by omega) ?_
      have hal : 0 ≤ andI (lfS S f p.toNat) (1 * (2 ^ (elF S (f p)).toNat) - 1) ∧ andI (lfS S f p.toNat) (1 * (2 ^ (elF S (f p)).toNat) - 1) < 1024 := by
        rw [andI_2 hlf.1.1]
        have := and_le (lfS S f p.toNat).toNat (2 ^ (elF S (f p)).toNat - 1)
        omega
      refine wp_cs (As := [.int (iI (andI (lfS S f p.toNat) ((1 * (2 ^ (elF S (f p)).toNat)) - 1)))]) (r := [.int (iI ((rkW m f p.toNat : Nat) : Int))]) hc rfl (by rw [cm_288]; rfl) rfl (Nat.le_of_ble_eq_true rfl) (ev_mono (sp_288 (d := 0) (by omega) (by omega)) (by omega)) ?_
      show mm_wp _ _ (41, [some (.ref 594), some (.long (lI (rwE (fun p => elF S (f p)) m))), none, some (.int (iI ((rkW m f p.toNat : Nat) : Int))), some (.int (iI (lfS S f p.toNat))), some (.int (iI p)), some (.int (iI (elF S (f p))))], [.int (iI (popI (andI (lfS S f p.toNat) ((1 * (2 ^ (elF S (f p)).toNat)) - 1)))), .int (iI ((rkW m f p.toNat : Nat) : Int))], MX L t s l) _
      refine wp_gst hc rfl (q := ("SelfSorting$Orders", "FACTORIALS", "[I", .ref 1000000)) rfl ?_
      show mm_wp _ _ (44, [some (.ref 594), some (.long (lI (rwE (fun p => elF S (f p)) m))), none, some (.int (iI ((rkW m f p.toNat : Nat) : Int))), some (.int (iI (lfS S f p.toNat))), some (.int (iI p)), some (.int (iI (elF S (f p))))], [.ref 1000000, .int (iI (popI (andI (lfS S f p.toNat) ((1 * (2 ^ (elF S (f p)).toNat)) - 1)))), .int (iI ((rkW m f p.toNat : Nat) : Int))], MX L t s l) _
      refine wi_a1 hc rfl rfl ?_
      refine wi_gfv (kz := 3) rfl hc rfl rfl (by decide) (Nat.le_of_ble_eq_true rfl) rfl (v := (m : Int)) (hM) ?_
      refine wi_ic hc rfl ?_
      refine wi_sub hc rfl ?_
      refine wi_i2 hc rfl rfl ?_
      refine wi_sub hc rfl ?_
      refine wi_fld hc rfl (by omega) (by omega) (v := fI (((m : Int) - 1) - p)) (hFc _ (by omega) (by omega)) ?_
      have hfr_ := fI_r (((m : Int) - 1) - p)
      refine wi_mul hc rfl ?_
      refine wi_add hc rfl ?_
      refine wi_is1 (L' := [some (.ref 594), some (.long (lI (rwE (fun p => elF S (f p)) m))), none, some (.int (iI (((rkW m f p.toNat : Nat) : Int) + ((popI (andI (lfS S f p.toNat) ((1 * (2 ^ (elF S (f p)).toNat)) - 1))) * (fI (((m : Int) - 1) - p)))))), some (.int (iI (lfS S f p.toNat))), some (.int (iI p)), some (.int (iI (elF S (f p))))]) hc rfl (Nat.le_of_ble_eq_true rfl) rfl ?_
      refine wi_i2 hc rfl rfl ?_
      refine wi_ic hc rfl ?_
      refine wi_i2 hc rfl rfl ?_
      refine wi_shl (2 ^ (elF S (f p)).toNat) rfl hc rfl (by omega) (by omega) ?_
      refine wi_ic hc rfl ?_
      refine wi_not hc rfl ?_
      refine wi_andn hc rfl (by omega) (by omega) (by omega) (by omega) ?_
      refine wi_is2 (L' := [some (.ref 594), some (.long (lI (rwE (fun p => elF S (f p)) m))), none, some (.int (iI (((rkW m f p.toNat : Nat) : Int) + ((popI (andI (lfS S f p.toNat) ((1 * (2 ^ (elF S (f p)).toNat)) - 1))) * (fI (((m : Int) - 1) - p)))))), some (.int (iI ((lfS S f p.toNat) - andI (lfS S f p.toNat) (1 * (2 ^ (elF S (f p)).toNat))))), some (.int (iI p)), some (.int (iI (elF S (f p))))]) hc rfl (Nat.le_of_ble_eq_true rfl) rfl ?_
      refine wi_inc (L' := [some (.ref 594), some (.long (lI (rwE (fun p => elF S (f p)) m))), none, some (.int (iI (((rkW m f p.toNat : Nat) : Int) + ((popI (andI (lfS S f p.toNat) ((1 * (2 ^ (elF S (f p)).toNat)) - 1))) * (fI (((m : Int) - 1) - p)))))), some (.int (iI ((lfS S f p.toNat) - andI (lfS S f p.toNat) (1 * (2 ^ (elF S (f p)).toNat))))), some (.int (iI (p + 1))), some (.int (iI (elF S (f p))))]) hc rfl rfl rfl ?_
      refine wi_go hc rfl ?_
      rw [hcn, ← rkW_s p0 (by omega), ← lfS_s p0]
      exact ih (by omega) (by omega) _
  exact loop11_ 0 (by omega) (by omega) _
theorem sp_33 {d L t : Nat} {s l : Nat → Int → Int} {S : Int} {m : Nat} (S0 : 0 ≤ S) (S1 : S < 1024) (hm : (blN S.toNat 10).length = m) (m7 : m < 7) (hFc : FcH s) : ∃ s1, mm_Ev mm_ct mm_CM (d + 2) 33 [.ref 594, .int (iI S)] (MX L t s l) (none, MX L t s1 l) ∧ (∀ c, c ≠ 594 → s1 c = s c) ∧ s1 594 2 = S ∧ s1 594 3 = (m : Int) ∧ s1 594 4 = fI m := by
  have hc : (mm_CM 33).2.2.2.2.2.2.2 = mm_cf cd_33 := by rw [cm_33]; rfl
  refine ev_xs ?_
  refine ev_to (mx := 2) (by rw [cm_33]; decide) (by rw [cm_33]; rfl) (by show 2 ≤ _; decide) ?_
  show mm_wp _ _ (0, [some (.ref 594), some (.int (iI S))], [], MX L t s l) (fun res => ∃ s1, res = (none, MX L t s1 l) ∧ (∀ c, c ≠ 594 → s1 c = s c) ∧ s1 594 2 = S ∧ s1 594 3 = (m : Int) ∧ s1 594 4 = fI m)
  have hpl := popI_len S0 S1
  rw [hm] at hpl
  refine wi_a1 hc rfl rfl ?_
  refine wi_i1 hc rfl rfl ?_
  refine wi_pf (kz := 2) rfl hc rfl rfl (by decide) (Nat.le_of_ble_eq_true rfl) rfl (Nat.le_of_ble_eq_true rfl) ⟨rfl, rfl⟩ rfl ?_
  obtain ⟨s1_, es1_⟩ : ∃ q, q = up s 594 2 S := ⟨_, rfl⟩
  rw [← es1_]
  refine wi_a1 hc rfl rfl ?_
  refine wi_i1 hc rfl rfl ?_
  refine wp_cs (As := [.int (iI S)]) (r := [.ref 594]) hc rfl (by rw [cm_288]; rfl) rfl (Nat.le_of_ble_eq_true rfl) (ev_mono (sp_288 (d := 0) (by omega) (by omega)) (by omega)) ?_
  show mm_wp _ _ (10, [some (.ref 594), some (.int (iI S))], [.int (iI (popI S)), .ref 594], MX L t s1_ l) _
  refine wi_bi hc rfl rfl ?_
  refine wi_min (r := [.ref 594]) hc rfl (Nat.le_of_ble_eq_true rfl) ⟨by omega, by omega⟩ ⟨by decide, by decide⟩ ?_
  have h1_ := minI_spec (popI S) 6
  show mm_wp _ _ (15, [some (.ref 594), some (.int (iI S))], [.int (iI (minI (popI S) 6)), .ref 594], MX L t s1_ l) _
  have emn : minI (popI S) 6 = (m : Int) := by omega
  rw [emn]
  refine wi_pf (kz := 3) rfl hc rfl rfl (by decide) (Nat.le_of_ble_eq_true rfl) rfl (Nat.le_of_ble_eq_true rfl) ⟨rfl, rfl⟩ rfl ?_
  obtain ⟨s2_, es2_⟩ : ∃ q, q = up s1_ 594 3 (m : Int) := ⟨_, rfl⟩
  rw [← es2_]
  refine wi_a1 hc rfl rfl ?_
  refine wp_gst hc rfl (q := ("SelfSorting$Orders", "FACTORIALS", "[I", .ref 1000000)) rfl ?_
  show mm_wp _ _ (22, [some (.ref 594), some (.int (iI S))], [.ref 1000000, .ref 594], MX L t s2_ l) _
  refine wi_a1 hc rfl rfl ?_
  refine wi_gfv (kz := 3) rfl hc rfl rfl (by decide) (Nat.le_of_ble_eq_true rfl) rfl (v := (m : Int)) ((congrFun (congrFun es2_ _) _).trans (up_e (by omega))) ?_
  refine wi_fld hc rfl (by omega) (by omega) (v := fI (m : Int)) ((fun j a b => (((congrFun (congrFun es2_ _) _).trans (up_c (by decide))).trans ((congrFun (congrFun es1_ _) _).trans (up_c (by decide)))).trans (hFc j a b)) _ (by omega) (by omega)) ?_
  have hfr_ := fI_r (m : Int)
  refine wi_pf (kz := 4) rfl hc rfl rfl (by decide) (Nat.le_of_ble_eq_true rfl) rfl (Nat.le_of_ble_eq_true rfl) ⟨rfl, rfl⟩ rfl ?_
  obtain ⟨s3_, es3_⟩ : ∃ q, q = up s2_ 594 4 (fI (m : Int)) := ⟨_, rfl⟩
  rw [← es3_]
  refine wi_rv hc rfl (by rw [cm_33]; rfl) ?_
  exact ⟨s3_, rfl, fun c hc9_ => ((congrFun es3_ c).trans (up_cc (by omega))).trans (((congrFun es2_ c).trans (up_cc (by omega))).trans ((congrFun es1_ c).trans (up_cc (by omega)))), ((congrFun (congrFun es3_ _) _).trans (up_k (by omega))).trans (((congrFun (congrFun es2_ _) _).trans (up_k (by omega))).trans ((congrFun (congrFun es1_ _) _).trans (up_e (by omega)))), ((congrFun (congrFun es3_ _) _).trans (up_k (by omega))).trans ((congrFun (congrFun es2_ _) _).trans (up_e (by omega))), (congrFun (congrFun es3_ _) _).trans (up_e (by omega))⟩
