/-! NIGHTS on both sides. -/
/-- how many bits below 10 -/
def cntb (x : Int) : Nat → Int
  | 0 => 0
  | n + 1 => cntb x n + x / 2 ^ n % 2
def popI (x : Int) : Int := cntb x 10
def us (x : Int32) (k : Int32) : Int32 := (x.toUInt32 >>> (k.toUInt32 &&& Int32.toUInt32 31)).toInt32
def bcF (x : Int32) : Int32 :=
  let a := x - (us x 1 &&& 1431655765)
  let b := (a &&& 858993459) + (us a 2 &&& 858993459)
  let c := (b + us b 4) &&& 252645135
  let d := c + us c 8
  let e := d + us d 16
  e &&& 63
set_option maxRecDepth 100000 in
theorem bcF_all : ∀ n : Fin 1024, bcF (nI n) = iI (popI (n : Nat)) := by decide +kernel
theorem cntb_r (x : Int) : ∀ n, 0 ≤ cntb x n ∧ cntb x n ≤ n
  | 0 => by unfold cntb; omega
  | n + 1 => by
    have := cntb_r x n
    have h : 0 ≤ x / 2 ^ n % 2 ∧ x / 2 ^ n % 2 < 2 := ⟨Int.emod_nonneg _ (by decide), Int.emod_lt_of_pos _ (by decide)⟩
    unfold cntb
    omega
theorem popI_r (x : Int) : 0 ≤ popI x ∧ popI x ≤ 10 := cntb_r x 10
theorem up_set1 {s : Nat → Int → Int} {A : Int → Int} {a : Nat} {j v : Int} (h : s a = A) : up s a j v a = set1 A j v := by
  funext k
  unfold set1
  by_cases q : k = j
  · rw [if_pos q, up_e q]
  · rw [if_neg q, up_k q, h]
theorem and2 {v w : Int} (hv : v = 0 ∨ v = 1) (hw : w = 0 ∨ w = 1) : andI (v + 2 * w) 2 = 2 * w := by
  rcases hv with rfl | rfl <;> rcases hw with rfl | rfl <;> rfl
theorem pop12 {v w : Int} (hv : v = 0 ∨ v = 1) (hw : w = 0 ∨ w = 1) : popI (v + 2 * w) = v + w := by
  rcases hv with rfl | rfl <;> rcases hw with rfl | rfl <;> rfl
theorem sp_288 {d L t : Nat} {s l : Nat → Int → Int} {x : Int} (h0 : 0 ≤ x) (h1 : x < 1024) : mm_Ev mm_ct mm_CM (d + 1) 288 [.int (iI x)] (MX L t s l) (some (.int (iI (popI x))), MX L t s l) := by
  have hc : (mm_CM 288).2.2.2.2.2.2.2 = mm_cf cd_288 := by rw [cm_288]; rfl
  have he : bcF (iI x) = iI (popI x) := by
    have := bcF_all ⟨x.toNat, by omega⟩
    rw [show ((⟨x.toNat, by omega⟩ : Fin 1024) : Nat) = x.toNat from rfl, show nI x.toNat = iI x from by rw [iI_nI, Int.toNat_of_nonneg h0], show ((x.toNat : Nat) : Int) = x from Int.toNat_of_nonneg h0] at this
    exact this
  rw [← he]
  refine ev_of (mx := 1) (by rw [cm_288]; decide) (by rw [cm_288]; rfl) (by show 1 ≤ _; decide) ?_
  show mm_wp _ _ (0, [some (.int (iI x))], [], MX L t s l) _
  generalize iI x = v
  obtain ⟨e, hE⟩ : ∃ e, e = (let a := v - (us v 1 &&& 1431655765); let b := (a &&& 858993459) + (us a 2 &&& 858993459); let c := (b + us b 4) &&& 252645135; let q := c + us c 8; q + us q 16) := ⟨_, rfl⟩
  refine wp_go hc 41 (z' := (52, [some (.int e)], [.int (bcF v)], MX L t s l)) (by subst hE; rfl) ?_
  exact wp_rt (res := (some (.int (bcF v)), MX L t s l)) ⟨.ireturn, 1, 0, 0, by rw [hc]; rfl, rfl, _, .int, rfl, rfl, by rw [cm_288]; rfl, rfl⟩ rfl
theorem sp_137 {d L t : Nat} {s l : Nat → Int → Int} {A T : Int → Int} (hJ : JC s A T) (hK : KA A T) {x p g : Int} (hx0 : 0 ≤ x) (hx1 : x < 3) (hp0 : 0 ≤ p) (hp1 : p + 1 < A (13 + x)) (hg : gapS A g) (hg0 : 0 ≤ g) (hg1 : g + 2 ≤ 10) (h90 : 0 ≤ A 9) : ∃ s1, mm_Ev mm_ct mm_CM (d + 5) 137 [.ref 0, .int (iI x), .int (iI p)] (MX L t s l) (some (.int (iI (cgq A T x p))), MX L t s1 l) ∧ (∀ c, c ≠ 2 ∧ c ≠ 9 ∧ ¬ (4 ≤ c ∧ c ≤ 6) ∧ c ≠ 578 ∧ c ≠ 579 → s1 c = s c) ∧ JC s1 (chF A T x p) T := by
  have hc : (mm_CM 137).2.2.2.2.2.2.2 = mm_cf cd_137 := by rw [cm_137]; rfl
  refine ev_xs ?_
  refine ev_to (mx := 7) (by rw [cm_137]; decide) (by rw [cm_137]; rfl) (by show 3 ≤ _; decide) ?_
  show mm_wp _ _ (0, [some (.ref 0), some (.int (iI x)), some (.int (iI p)), none, none, none, none], [], MX L t s l) (fun res => ∃ s1, res = (some (.int (iI (cgq A T x p))), MX L t s1 l) ∧ (∀ c, c ≠ 2 ∧ c ≠ 9 ∧ ¬ (4 ≤ c ∧ c ≤ 6) ∧ c ≠ 578 ∧ c ≠ 579 → s1 c = s c) ∧ JC s1 (chF A T x p) T)
  have hV := hK.1
  have hB := hK.2.1
  have gm := hB.2.1 x hx0 hx1
  have g0 := hB.1
  have gl := hB.2.2.1 x p hx0 hx1 (by omega) (by omega)
  have gr := hB.2.2.1 x (p + 1) hx0 hx1 (by omega) (by omega)
  have hn9 := needP_r hV
  have gtl := hV.2.2.2.2.2.1 _ gl.1 gl.2.1
  have gtr := hV.2.2.2.2.2.1 _ gr.1 gr.2.1
  obtain ⟨v1, hv1⟩ : ∃ q, q = p1q A T x p := ⟨_, rfl⟩
  obtain ⟨v2, hv2⟩ : ∃ q, q = p2q A T x p := ⟨_, rfl⟩
  have h01 : v1 = 0 ∨ v1 = 1 := by rw [hv1]; exact pushP_01 hV gl.1 gl.2.1 gr.1 gr.2.1 (Or.inr rfl)
  have h02 : v2 = 0 ∨ v2 = 1 := by rw [hv2]; exact pushP_01 hV gr.1 gr.2.1 gl.1 gl.2.1 (Or.inl rfl)
  have hcg : cgq A T x p = bI (needP A T ≤ v1 + v2) := by rw [hv1, hv2]; rfl
  refine wi_a1 hc rfl rfl ?_
  refine wi_gr (w := 1) hc rfl rfl (by decide) (Nat.le_of_ble_eq_true rfl) rfl ?_
  refine wi_gr (w := 2) hc rfl rfl (by decide) (Nat.le_of_ble_eq_true rfl) rfl ?_
  refine wi_as1 (L' := [some (.ref 0), some (.int (iI x)), some (.int (iI p)), some (.ref 2), none, none, none]) hc rfl (Nat.le_of_ble_eq_true rfl) rfl ?_
  refine wi_a1 hc rfl rfl ?_
  refine wi_gr (w := 3) hc rfl rfl (by decide) (Nat.le_of_ble_eq_true rfl) rfl ?_
  refine wi_i1 hc rfl rfl ?_
  refine wi_ald (w := 4 + x.toNat) (N := 3) hc rfl (Nat.le_of_ble_eq_true rfl) (Nat.le_of_ble_eq_true rfl) (by decide) rfl (by decide) (by omega) (by omega) (sh_row3 (by omega) (by omega)) ?_
  refine wi_i1 hc rfl rfl ?_
  refine wi_ildv (N := 10) hc rfl (sh_rows (by omega) (by omega)) (by omega) (by decide) (by omega) (by omega) (v := A (16 + 10 * x + p)) (lb_row hJ.1 (by omega) (by omega) (by omega) (by omega) (by omega)) ?_
  refine wi_is2 (L' := [some (.ref 0), some (.int (iI x)), some (.int (iI p)), some (.ref 2), some (.int (iI (A (16 + 10 * x + p)))), none, none]) hc rfl (Nat.le_of_ble_eq_true rfl) rfl ?_
  refine wi_a1 hc rfl rfl ?_
  refine wi_gr (w := 3) hc rfl rfl (by decide) (Nat.le_of_ble_eq_true rfl) rfl ?_
  refine wi_i1 hc rfl rfl ?_
  refine wi_ald (w := 4 + x.toNat) (N := 3) hc rfl (Nat.le_of_ble_eq_true rfl) (Nat.le_of_ble_eq_true rfl) (by decide) rfl (by decide) (by omega) (by omega) (sh_row3 (by omega) (by omega)) ?_
  refine wi_i1 hc rfl rfl ?_
  refine wi_ic hc rfl ?_
  refine wi_add hc rfl ?_
  refine wi_ildv (N := 10) hc rfl (sh_rows (by omega) (by omega)) (by omega) (by decide) (by omega) (by omega) (v := A (16 + 10 * x + (p + 1))) (lb_row hJ.1 (by omega) (by omega) (by omega) (by omega) (by omega)) ?_
  refine wi_is2 (L' := [some (.ref 0), some (.int (iI x)), some (.int (iI p)), some (.ref 2), some (.int (iI (A (16 + 10 * x + p)))), some (.int (iI (A (16 + 10 * x + (p + 1))))), none]) hc rfl (Nat.le_of_ble_eq_true rfl) rfl ?_
  refine wi_a1 hc rfl rfl ?_
  refine wi_gr (w := 577) hc rfl rfl (by decide) (Nat.le_of_ble_eq_true rfl) rfl ?_
  refine wi_a1 hc rfl rfl ?_
  refine wi_gr (w := 1) hc rfl rfl (by decide) (Nat.le_of_ble_eq_true rfl) rfl ?_
  refine wi_i2 hc rfl rfl ?_
  refine wi_i2 hc rfl rfl ?_
  obtain ⟨s1_, hE1_, hF1_, hJ1_⟩ := sp_2 (d := 0) (L := L) (t := t) (l := l) hJ hV (x := A (16 + 10 * x + p)) (y := A (16 + 10 * x + (p + 1))) (by omega) (by omega) (by omega) (by omega)
  refine wp_cv (b := 577) (As := [.ref 1, .int (iI (A (16 + 10 * x + p))), .int (iI (A (16 + 10 * x + (p + 1))))]) (r := []) hc rfl (by rw [cm_2]; rfl) rfl (Nat.le_of_ble_eq_true rfl) (show 577 < 621 by decide) (by rw [cm_2]; rfl) (ev_mono hE1_ (by omega)) ?_
  have hpq : pushP A T (A (46 + 6 * (A (16 + 10 * x + p)) + 4)) (A (16 + 10 * x + p)) (A (16 + 10 * x + (p + 1))) 1 + 2 * pushP A T (A (46 + 6 * (A (16 + 10 * x + (p + 1))) + 4)) (A (16 + 10 * x + (p + 1))) (A (16 + 10 * x + p)) 0 = v1 + 2 * v2 := by rw [hv1, hv2]; rfl
  rw [hpq]
  have hpop := pop12 h01 h02
  have hand := and2 h01 h02
  show mm_wp _ _ (45, [some (.ref 0), some (.int (iI x)), some (.int (iI p)), some (.ref 2), some (.int (iI (A (16 + 10 * x + p)))), some (.int (iI (A (16 + 10 * x + (p + 1))))), none], [.int (iI (v1 + 2 * v2))], MX L t s1_ l) _
  refine wi_is2 (L' := [some (.ref 0), some (.int (iI x)), some (.int (iI p)), some (.ref 2), some (.int (iI (A (16 + 10 * x + p)))), some (.int (iI (A (16 + 10 * x + (p + 1))))), some (.int (iI (v1 + 2 * v2)))]) hc rfl (Nat.le_of_ble_eq_true rfl) rfl ?_
  refine wi_i2 hc rfl rfl ?_
  refine wp_cs (As := [.int (iI (v1 + 2 * v2))]) (r := []) hc rfl (by rw [cm_288]; rfl) rfl (Nat.le_of_ble_eq_true rfl) (ev_mono (sp_288 (d := 0) (by omega) (by omega)) (by omega)) ?_
  show mm_wp _ _ (52, [some (.ref 0), some (.int (iI x)), some (.int (iI p)), some (.ref 2), some (.int (iI (A (16 + 10 * x + p)))), some (.int (iI (A (16 + 10 * x + (p + 1))))), some (.int (iI (v1 + 2 * v2)))], [.int (iI (popI (v1 + 2 * v2)))], MX L t s1_ l) _
  refine wi_a1 hc rfl rfl ?_
  refine wi_gr (w := 1) hc rfl rfl (by decide) (Nat.le_of_ble_eq_true rfl) rfl ?_
  refine wp_cv (b := 1) (As := []) (r := [.int (iI (popI (v1 + 2 * v2)))]) hc rfl (by rw [cm_14]; rfl) rfl (Nat.le_of_ble_eq_true rfl) (show 1 < 621 by decide) (by rw [cm_14]; rfl) (ev_mono (sp_14 (d := 0) hJ1_ hK.1) (by omega)) ?_
  show mm_wp _ _ (59, [some (.ref 0), some (.int (iI x)), some (.int (iI p)), some (.ref 2), some (.int (iI (A (16 + 10 * x + p)))), some (.int (iI (A (16 + 10 * x + (p + 1))))), some (.int (iI (v1 + 2 * v2)))], [.int (iI (needP A T)), .int (iI (popI (v1 + 2 * v2)))], MX L t s1_ l) _
  refine wi_cge hc rfl ⟨by omega, by omega⟩ ⟨by omega, by omega⟩ (fun h1_ => ?_) (fun h1_ => ?_)
  · refine wi_i2 hc rfl rfl ?_
    refine wi_ic hc rfl ?_
    refine wi_msk 1 2 rfl (by decide) (by decide) hc rfl ?_
    refine wi_zeq hc rfl ⟨by omega, by omega⟩ (fun h2_ => ?_) (fun h2_ => ?_)
    · refine wi_i2 hc rfl rfl ?_
      refine wi_ic hc rfl ?_
      refine wi_and hc rfl (by omega) (by omega) ?_
      refine wi_zeq hc rfl ⟨by omega, by omega⟩ (fun h3_ => ?_) (fun h3_ => ?_)
      · have hnv : nv A (A) := nv.rf A
        have hm13 := hnv (13 + x) (by omega)
        refine wi_a1 hc rfl rfl ?_
        refine wi_i1 hc rfl rfl ?_
        refine wi_i1 hc rfl rfl ?_
        obtain ⟨s2_, hE2_, hF2_, hL2_⟩ := sp_71 (d := 0) (L := L) (t := t) (l := l) hJ1_.1 hK (x := x) (p := p) (by omega) (by omega) (by omega) (by omega)
        refine wp_cv (b := 2) (As := [.int (iI x), .int (iI p)]) (r := []) hc rfl (by rw [cm_71]; rfl) rfl (Nat.le_of_ble_eq_true rfl) (show 2 < 621 by decide) (by rw [cm_71]; rfl) (ev_mono hE2_ (by omega)) ?_
        have hJ2_ : JC s2_ (exF A x p) T := ⟨hL2_, by rw [hF2_ 578 (by omega)]; exact hJ1_.2⟩
        have hK2_ : KA (exF A x p) T := (mv_ex (by omega) (by omega) (by omega) (by omega)).KA hK (ex_ok hK.2.1 (by omega) (by omega) (by omega) (by omega))
        show mm_wp _ _ (102, [some (.ref 0), some (.int (iI x)), some (.int (iI p)), some (.ref 2), some (.int (iI (A (16 + 10 * x + p)))), some (.int (iI (A (16 + 10 * x + (p + 1))))), some (.int (iI (v1 + 2 * v2)))], [], MX L t s2_ l) _
        refine wi_ic hc rfl ?_
        refine wi_r1 hc rfl (by rw [cm_137]; rfl) ?_
        have hc0 : cgq A T x p = 1 := by rw [hcg]; exact bI_t (by omega)
        have hch : chF A T x p = exF A x p := by
          unfold chF wq
          rw [if_pos hc0, ← hv1, ← hv2]
          (repeat' split) <;> first | rfl | omega
        rw [hc0, hch]
        exact ⟨s2_, rfl, fun c hc9_ => (hF2_ c (by omega)).trans (hF1_ c (by omega)), hJ2_⟩
      · refine wi_a1 hc rfl rfl ?_
        refine wi_i2 hc rfl rfl ?_
        refine wi_i2 hc rfl rfl ?_
        refine wi_i1 hc rfl rfl ?_
        obtain ⟨s3_, hE3_, hF3_, hL3_⟩ := sp_74 (d := 0) (L := L) (t := t) (l := l) hJ1_.1 hK (b := A (16 + 10 * x + (p + 1))) (y := A (16 + 10 * x + p)) (x := x) (g := g) (by omega) (by omega) (by omega) (by omega) (by omega) (by omega) hg (by omega) (by omega) (by omega)
        refine wp_cv (b := 2) (As := [.int (iI (A (16 + 10 * x + (p + 1)))), .int (iI (A (16 + 10 * x + p))), .int (iI x)]) (r := []) hc rfl (by rw [cm_74]; rfl) rfl (Nat.le_of_ble_eq_true rfl) (show 2 < 621 by decide) (by rw [cm_74]; rfl) (ev_mono hE3_ (by omega)) ?_
        have hJ3_ : JC s3_ (wrF A (A (16 + 10 * x + (p + 1))) (A (16 + 10 * x + p)) x) T := ⟨hL3_, by rw [hF3_ 578 (by omega)]; exact hJ1_.2⟩
        have hK3_ : KA (wrF A (A (16 + 10 * x + (p + 1))) (A (16 + 10 * x + p)) x) T := wr_KA hK
        show mm_wp _ _ (96, [some (.ref 0), some (.int (iI x)), some (.int (iI p)), some (.ref 2), some (.int (iI (A (16 + 10 * x + p)))), some (.int (iI (A (16 + 10 * x + (p + 1))))), some (.int (iI (v1 + 2 * v2)))], [], MX L t s3_ l) _
        have hnv : nv A (wrF A (A (16 + 10 * x + (p + 1))) (A (16 + 10 * x + p)) x) := nv_wr
        have hm13 := hnv (13 + x) (by omega)
        refine wi_a1 hc rfl rfl ?_
        refine wi_i1 hc rfl rfl ?_
        refine wi_i1 hc rfl rfl ?_
        obtain ⟨s4_, hE4_, hF4_, hL4_⟩ := sp_71 (d := 0) (L := L) (t := t) (l := l) hJ3_.1 hK3_ (x := x) (p := p) (by omega) (by omega) (by omega) (by omega)
        refine wp_cv (b := 2) (As := [.int (iI x), .int (iI p)]) (r := []) hc rfl (by rw [cm_71]; rfl) rfl (Nat.le_of_ble_eq_true rfl) (show 2 < 621 by decide) (by rw [cm_71]; rfl) (ev_mono hE4_ (by omega)) ?_
        have hJ4_ : JC s4_ (exF (wrF A (A (16 + 10 * x + (p + 1))) (A (16 + 10 * x + p)) x) x p) T := ⟨hL4_, by rw [hF4_ 578 (by omega)]; exact hJ3_.2⟩
        have hK4_ : KA (exF (wrF A (A (16 + 10 * x + (p + 1))) (A (16 + 10 * x + p)) x) x p) T := (mv_ex (by omega) (by omega) (by omega) (by omega)).KA hK3_ (ex_ok hK3_.2.1 (by omega) (by omega) (by omega) (by omega))
        show mm_wp _ _ (102, [some (.ref 0), some (.int (iI x)), some (.int (iI p)), some (.ref 2), some (.int (iI (A (16 + 10 * x + p)))), some (.int (iI (A (16 + 10 * x + (p + 1))))), some (.int (iI (v1 + 2 * v2)))], [], MX L t s4_ l) _
        refine wi_ic hc rfl ?_
        refine wi_r1 hc rfl (by rw [cm_137]; rfl) ?_
        have hc0 : cgq A T x p = 1 := by rw [hcg]; exact bI_t (by omega)
        have hch : chF A T x p = exF (wrF A (A (16 + 10 * x + (p + 1))) (A (16 + 10 * x + p)) x) x p := by
          unfold chF wq
          rw [if_pos hc0, ← hv1, ← hv2]
          (repeat' split) <;> first | rfl | omega
        rw [hc0, hch]
        exact ⟨s4_, rfl, fun c hc9_ => (hF4_ c (by omega)).trans ((hF3_ c (by omega)).trans (hF1_ c (by omega))), hJ4_⟩
    · refine wi_a1 hc rfl rfl ?_
      refine wi_i2 hc rfl rfl ?_
      refine wi_i2 hc rfl rfl ?_
      refine wi_i1 hc rfl rfl ?_
      obtain ⟨s5_, hE5_, hF5_, hL5_⟩ := sp_74 (d := 0) (L := L) (t := t) (l := l) hJ1_.1 hK (b := A (16 + 10 * x + p)) (y := A (16 + 10 * x + (p + 1))) (x := x) (g := g) (by omega) (by omega) (by omega) (by omega) (by omega) (by omega) hg (by omega) (by omega) (by omega)
      refine wp_cv (b := 2) (As := [.int (iI (A (16 + 10 * x + p))), .int (iI (A (16 + 10 * x + (p + 1)))), .int (iI x)]) (r := []) hc rfl (by rw [cm_74]; rfl) rfl (Nat.le_of_ble_eq_true rfl) (show 2 < 621 by decide) (by rw [cm_74]; rfl) (ev_mono hE5_ (by omega)) ?_
      have hJ5_ : JC s5_ (wrF A (A (16 + 10 * x + p)) (A (16 + 10 * x + (p + 1))) x) T := ⟨hL5_, by rw [hF5_ 578 (by omega)]; exact hJ1_.2⟩
      have hK5_ : KA (wrF A (A (16 + 10 * x + p)) (A (16 + 10 * x + (p + 1))) x) T := wr_KA hK
      show mm_wp _ _ (80, [some (.ref 0), some (.int (iI x)), some (.int (iI p)), some (.ref 2), some (.int (iI (A (16 + 10 * x + p)))), some (.int (iI (A (16 + 10 * x + (p + 1))))), some (.int (iI (v1 + 2 * v2)))], [], MX L t s5_ l) _
      refine wi_i2 hc rfl rfl ?_
      refine wi_ic hc rfl ?_
      refine wi_and hc rfl (by omega) (by omega) ?_
      refine wi_zeq hc rfl ⟨by omega, by omega⟩ (fun h4_ => ?_) (fun h4_ => ?_)
      · have hnv : nv A (wrF A (A (16 + 10 * x + p)) (A (16 + 10 * x + (p + 1))) x) := nv_wr
        have hm13 := hnv (13 + x) (by omega)
        refine wi_a1 hc rfl rfl ?_
        refine wi_i1 hc rfl rfl ?_
        refine wi_i1 hc rfl rfl ?_
        obtain ⟨s6_, hE6_, hF6_, hL6_⟩ := sp_71 (d := 0) (L := L) (t := t) (l := l) hJ5_.1 hK5_ (x := x) (p := p) (by omega) (by omega) (by omega) (by omega)
        refine wp_cv (b := 2) (As := [.int (iI x), .int (iI p)]) (r := []) hc rfl (by rw [cm_71]; rfl) rfl (Nat.le_of_ble_eq_true rfl) (show 2 < 621 by decide) (by rw [cm_71]; rfl) (ev_mono hE6_ (by omega)) ?_
        have hJ6_ : JC s6_ (exF (wrF A (A (16 + 10 * x + p)) (A (16 + 10 * x + (p + 1))) x) x p) T := ⟨hL6_, by rw [hF6_ 578 (by omega)]; exact hJ5_.2⟩
        have hK6_ : KA (exF (wrF A (A (16 + 10 * x + p)) (A (16 + 10 * x + (p + 1))) x) x p) T := (mv_ex (by omega) (by omega) (by omega) (by omega)).KA hK5_ (ex_ok hK5_.2.1 (by omega) (by omega) (by omega) (by omega))
        show mm_wp _ _ (102, [some (.ref 0), some (.int (iI x)), some (.int (iI p)), some (.ref 2), some (.int (iI (A (16 + 10 * x + p)))), some (.int (iI (A (16 + 10 * x + (p + 1))))), some (.int (iI (v1 + 2 * v2)))], [], MX L t s6_ l) _
        refine wi_ic hc rfl ?_
        refine wi_r1 hc rfl (by rw [cm_137]; rfl) ?_
        have hc0 : cgq A T x p = 1 := by rw [hcg]; exact bI_t (by omega)
        have hch : chF A T x p = exF (wrF A (A (16 + 10 * x + p)) (A (16 + 10 * x + (p + 1))) x) x p := by
          unfold chF wq
          rw [if_pos hc0, ← hv1, ← hv2]
          (repeat' split) <;> first | rfl | omega
        rw [hc0, hch]
        exact ⟨s6_, rfl, fun c hc9_ => (hF6_ c (by omega)).trans ((hF5_ c (by omega)).trans (hF1_ c (by omega))), hJ6_⟩
      · refine wi_a1 hc rfl rfl ?_
        refine wi_i2 hc rfl rfl ?_
        refine wi_i2 hc rfl rfl ?_
        refine wi_i1 hc rfl rfl ?_
        have h9w : (wrF A (A (16 + 10 * x + p)) (A (16 + 10 * x + (p + 1))) x) 9 = A 9 + 1 := wr_9
        obtain ⟨s7_, hE7_, hF7_, hL7_⟩ := sp_74 (d := 0) (L := L) (t := t) (l := l) hJ5_.1 hK5_ (b := A (16 + 10 * x + (p + 1))) (y := A (16 + 10 * x + p)) (x := x) (g := (g + 1)) (by omega) (by omega) (by omega) (by omega) (by omega) (by omega) (wr_gap hK hg) (by omega) (by omega) (by omega)
        refine wp_cv (b := 2) (As := [.int (iI (A (16 + 10 * x + (p + 1)))), .int (iI (A (16 + 10 * x + p))), .int (iI x)]) (r := []) hc rfl (by rw [cm_74]; rfl) rfl (Nat.le_of_ble_eq_true rfl) (show 2 < 621 by decide) (by rw [cm_74]; rfl) (ev_mono hE7_ (by omega)) ?_
        have hJ7_ : JC s7_ (wrF (wrF A (A (16 + 10 * x + p)) (A (16 + 10 * x + (p + 1))) x) (A (16 + 10 * x + (p + 1))) (A (16 + 10 * x + p)) x) T := ⟨hL7_, by rw [hF7_ 578 (by omega)]; exact hJ5_.2⟩
        have hK7_ : KA (wrF (wrF A (A (16 + 10 * x + p)) (A (16 + 10 * x + (p + 1))) x) (A (16 + 10 * x + (p + 1))) (A (16 + 10 * x + p)) x) T := wr_KA hK5_
        show mm_wp _ _ (96, [some (.ref 0), some (.int (iI x)), some (.int (iI p)), some (.ref 2), some (.int (iI (A (16 + 10 * x + p)))), some (.int (iI (A (16 + 10 * x + (p + 1))))), some (.int (iI (v1 + 2 * v2)))], [], MX L t s7_ l) _
        have hnv : nv A (wrF (wrF A (A (16 + 10 * x + p)) (A (16 + 10 * x + (p + 1))) x) (A (16 + 10 * x + (p + 1))) (A (16 + 10 * x + p)) x) := nv_wr.tr nv_wr
        have hm13 := hnv (13 + x) (by omega)
        refine wi_a1 hc rfl rfl ?_
        refine wi_i1 hc rfl rfl ?_
        refine wi_i1 hc rfl rfl ?_
        obtain ⟨s8_, hE8_, hF8_, hL8_⟩ := sp_71 (d := 0) (L := L) (t := t) (l := l) hJ7_.1 hK7_ (x := x) (p := p) (by omega) (by omega) (by omega) (by omega)
        refine wp_cv (b := 2) (As := [.int (iI x), .int (iI p)]) (r := []) hc rfl (by rw [cm_71]; rfl) rfl (Nat.le_of_ble_eq_true rfl) (show 2 < 621 by decide) (by rw [cm_71]; rfl) (ev_mono hE8_ (by omega)) ?_
        have hJ8_ : JC s8_ (exF (wrF (wrF A (A (16 + 10 * x + p)) (A (16 + 10 * x + (p + 1))) x) (A (16 + 10 * x + (p + 1))) (A (16 + 10 * x + p)) x) x p) T := ⟨hL8_, by rw [hF8_ 578 (by omega)]; exact hJ7_.2⟩
        have hK8_ : KA (exF (wrF (wrF A (A (16 + 10 * x + p)) (A (16 + 10 * x + (p + 1))) x) (A (16 + 10 * x + (p + 1))) (A (16 + 10 * x + p)) x) x p) T := (mv_ex (by omega) (by omega) (by omega) (by omega)).KA hK7_ (ex_ok hK7_.2.1 (by omega) (by omega) (by omega) (by omega))
        show mm_wp _ _ (102, [some (.ref 0), some (.int (iI x)), some (.int (iI p)), some (.ref 2), some (.int (iI (A (16 + 10 * x + p)))), some (.int (iI (A (16 + 10 * x + (p + 1))))), some (.int (iI (v1 + 2 * v2)))], [], MX L t s8_ l) _
        refine wi_ic hc rfl ?_
        refine wi_r1 hc rfl (by rw [cm_137]; rfl) ?_
        have hc0 : cgq A T x p = 1 := by rw [hcg]; exact bI_t (by omega)
        have hch : chF A T x p = exF (wrF (wrF A (A (16 + 10 * x + p)) (A (16 + 10 * x + (p + 1))) x) (A (16 + 10 * x + (p + 1))) (A (16 + 10 * x + p)) x) x p := by
          unfold chF wq
          rw [if_pos hc0, ← hv1, ← hv2]
          (repeat' split) <;> first | rfl | omega
        rw [hc0, hch]
        exact ⟨s8_, rfl, fun c hc9_ => (hF8_ c (by omega)).trans ((hF7_ c (by omega)).trans ((hF5_ c (by omega)).trans (hF1_ c (by omega)))), hJ8_⟩
  · refine wi_ic hc rfl ?_
    refine wi_r0 hc rfl (by rw [cm_137]; rfl) ?_
    have hc0 : cgq A T x p = 0 := by rw [hcg]; exact bI_f (by omega)
    have hch : chF A T x p = A := by unfold chF; rw [if_neg (by omega)]
    rw [hc0, hch]
    exact ⟨s1_, rfl, fun c hc9_ => hF1_ c (by omega), hJ1_⟩
theorem sp_221 {d L t : Nat} {s l : Nat → Int → Int} {A T : Int → Int} (hJ : JM s A T) (hK : KA A T) {x p : Int} (hx0 : 0 ≤ x) (hx1 : x < 3) (hp0 : 0 ≤ p) (hp1 : p + 1 < A (13 + x)) (h90 : 0 ≤ A 9) (h91 : A 9 < 500000) : ∃ s1 l1, mm_Ev mm_ct mm_CM (d + 7) 221 [.ref 598, .int (iI x), .int (iI p)] (MX L t s l) (some (.int (iI (cgq A T x p))), MX L t s1 l1) ∧ (∀ c, c ≠ 599 ∧ c ≠ 604 ∧ c ≠ 606 → s1 c = s c) ∧ (∀ c, c ≠ 605 → l1 c = l c) ∧ JM s1 (chF A T x p) T := by
  have hc : (mm_CM 221).2.2.2.2.2.2.2 = mm_cf cd_221 := by rw [cm_221]; rfl
  refine ev_xsl ?_
  refine ev_to (mx := 5) (by rw [cm_221]; decide) (by rw [cm_221]; rfl) (by show 3 ≤ _; decide) ?_
  show mm_wp _ _ (0, [some (.ref 598), some (.int (iI x)), some (.int (iI p)), none, none], [], MX L t s l) (fun res => ∃ s1 l1, res = (some (.int (iI (cgq A T x p))), MX L t s1 l1) ∧ (∀ c, c ≠ 599 ∧ c ≠ 604 ∧ c ≠ 606 → s1 c = s c) ∧ (∀ c, c ≠ 605 → l1 c = l c) ∧ JM s1 (chF A T x p) T)
  have hV := hK.1
  have hB := hK.2.1
  have gm := hB.2.1 x hx0 hx1
  have g0 := hB.1
  have gl := hB.2.2.1 x p hx0 hx1 (by omega) (by omega)
  have gr := hB.2.2.1 x (p + 1) hx0 hx1 (by omega) (by omega)
  have hn9 := needP_r hV
  have gtl := hV.2.2.2.2.2.1 _ gl.1 gl.2.1
  have gtr := hV.2.2.2.2.2.1 _ gr.1 gr.2.1
  obtain ⟨v1, hv1⟩ : ∃ q, q = p1q A T x p := ⟨_, rfl⟩
  obtain ⟨v2, hv2⟩ : ∃ q, q = p2q A T x p := ⟨_, rfl⟩
  have h01 : v1 = 0 ∨ v1 = 1 := by rw [hv1]; exact pushP_01 hV gl.1 gl.2.1 gr.1 gr.2.1 (Or.inr rfl)
  have h02 : v2 = 0 ∨ v2 = 1 := by rw [hv2]; exact pushP_01 hV gr.1 gr.2.1 gl.1 gl.2.1 (Or.inl rfl)
  have hcg : cgq A T x p = bI (needP A T ≤ v1 + v2) := by rw [hv1, hv2]; rfl
  refine wi_a1 hc rfl rfl ?_
  refine wi_i1 hc rfl rfl ?_
  refine wi_i1 hc rfl rfl ?_
  refine wp_cv (b := 598) (As := [.int (iI x), .int (iI p)]) (r := []) hc rfl (by rw [cm_155]; rfl) rfl (Nat.le_of_ble_eq_true rfl) (show 598 < 621 by decide) (by rw [cm_155]; rfl) (ev_mono (sg_155 (d := 0) (hJ.1) (by omega) (by omega) (by omega) (by omega)) (by omega)) ?_
  show mm_wp _ _ (6, [some (.ref 598), some (.int (iI x)), some (.int (iI p)), none, none], [.int (iI (A (16 + 10 * x + p)))], MX L t s l) _
  refine wi_is1 (L' := [some (.ref 598), some (.int (iI x)), some (.int (iI p)), some (.int (iI (A (16 + 10 * x + p)))), none]) hc rfl (Nat.le_of_ble_eq_true rfl) rfl ?_
  refine wi_a1 hc rfl rfl ?_
  refine wi_i1 hc rfl rfl ?_
  refine wi_i1 hc rfl rfl ?_
  refine wi_ic hc rfl ?_
  refine wi_add hc rfl ?_
  refine wp_cv (b := 598) (As := [.int (iI x), .int (iI (p + 1))]) (r := []) hc rfl (by rw [cm_155]; rfl) rfl (Nat.le_of_ble_eq_true rfl) (show 598 < 621 by decide) (by rw [cm_155]; rfl) (ev_mono (sg_155 (d := 0) (hJ.1) (by omega) (by omega) (by omega) (by omega)) (by omega)) ?_
  show mm_wp _ _ (15, [some (.ref 598), some (.int (iI x)), some (.int (iI p)), some (.int (iI (A (16 + 10 * x + p)))), none], [.int (iI (A (16 + 10 * x + (p + 1))))], MX L t s l) _
  refine wi_is2 (L' := [some (.ref 598), some (.int (iI x)), some (.int (iI p)), some (.int (iI (A (16 + 10 * x + p)))), some (.int (iI (A (16 + 10 * x + (p + 1)))))]) hc rfl (Nat.le_of_ble_eq_true rfl) rfl ?_
  refine wi_a1 hc rfl rfl ?_
  refine wi_i1 hc rfl rfl ?_
  refine wi_i2 hc rfl rfl ?_
  obtain ⟨s1_, l1_, hE1_, hF1_, hG1_, hJ1_⟩ := sp_211 (d := 0) (L := L) (t := t) (l := l) hJ hV (x := A (16 + 10 * x + p)) (y := A (16 + 10 * x + (p + 1))) (by omega) (by omega) (by omega) (by omega)
  refine wp_cv (b := 598) (As := [.int (iI (A (16 + 10 * x + p))), .int (iI (A (16 + 10 * x + (p + 1))))]) (r := []) hc rfl (by rw [cm_211]; rfl) rfl (Nat.le_of_ble_eq_true rfl) (show 598 < 621 by decide) (by rw [cm_211]; rfl) (ev_mono hE1_ (by omega)) ?_
  have hcq : chgI A T (A (16 + 10 * x + p)) (A (16 + 10 * x + (p + 1))) = cgq A T x p := rfl
  rw [hcq]
  have hc01 := chgI_01 A T (A (16 + 10 * x + p)) (A (16 + 10 * x + (p + 1)))
  rw [hcq] at hc01
  show mm_wp _ _ (24, [some (.ref 598), some (.int (iI x)), some (.int (iI p)), some (.int (iI (A (16 + 10 * x + p)))), some (.int (iI (A (16 + 10 * x + (p + 1)))))], [.int (iI (cgq A T x p))], MX L t s1_ l1_) _
  refine wi_zne hc rfl ⟨by omega, by omega⟩ (fun h1_ => ?_) (fun h1_ => ?_)
  · refine wi_a1 hc rfl rfl ?_
    refine wi_i1 hc rfl rfl ?_
    refine wi_i2 hc rfl rfl ?_
    refine wi_ic hc rfl ?_
    obtain ⟨s2_, l2_, hE2_, hF2_, hG2_, hJ2_⟩ := sp_210 (d := 0) (L := L) (t := t) (l := l1_) hJ1_ hK.1 (b := A (16 + 10 * x + p)) (o := A (16 + 10 * x + (p + 1))) (right := 1) (by omega) (by omega) (by omega) (by omega) (by omega)
    refine wp_cv (b := 598) (As := [.int (iI (A (16 + 10 * x + p))), .int (iI (A (16 + 10 * x + (p + 1)))), .int (iI 1)]) (r := []) hc rfl (by rw [cm_210]; rfl) rfl (Nat.le_of_ble_eq_true rfl) (show 598 < 621 by decide) (by rw [cm_210]; rfl) (ev_mono hE2_ (by omega)) ?_
    have hpv : pushP A T (A (46 + 6 * (A (16 + 10 * x + p)) + 4)) (A (16 + 10 * x + p)) (A (16 + 10 * x + (p + 1))) 1 = v1 := by rw [hv1]; rfl
    rw [hpv]
    show mm_wp _ _ (37, [some (.ref 598), some (.int (iI x)), some (.int (iI p)), some (.int (iI (A (16 + 10 * x + p)))), some (.int (iI (A (16 + 10 * x + (p + 1)))))], [.int (iI v1)], MX L t s2_ l2_) _
    refine wi_zeq hc rfl ⟨by omega, by omega⟩ (fun h2_ => ?_) (fun h2_ => ?_)
    · refine wi_a1 hc rfl rfl ?_
      refine wi_i2 hc rfl rfl ?_
      refine wi_i1 hc rfl rfl ?_
      refine wi_ic hc rfl ?_
      obtain ⟨s3_, l3_, hE3_, hF3_, hG3_, hJ3_⟩ := sp_210 (d := 0) (L := L) (t := t) (l := l2_) hJ2_ hK.1 (b := A (16 + 10 * x + (p + 1))) (o := A (16 + 10 * x + p)) (right := 0) (by omega) (by omega) (by omega) (by omega) (by omega)
      refine wp_cv (b := 598) (As := [.int (iI (A (16 + 10 * x + (p + 1)))), .int (iI (A (16 + 10 * x + p))), .int (iI 0)]) (r := []) hc rfl (by rw [cm_210]; rfl) rfl (Nat.le_of_ble_eq_true rfl) (show 598 < 621 by decide) (by rw [cm_210]; rfl) (ev_mono hE3_ (by omega)) ?_
      have hpv : pushP A T (A (46 + 6 * (A (16 + 10 * x + (p + 1))) + 4)) (A (16 + 10 * x + (p + 1))) (A (16 + 10 * x + p)) 0 = v2 := by rw [hv2]; rfl
      rw [hpv]
      show mm_wp _ _ (56, [some (.ref 598), some (.int (iI x)), some (.int (iI p)), some (.int (iI (A (16 + 10 * x + p)))), some (.int (iI (A (16 + 10 * x + (p + 1)))))], [.int (iI v2)], MX L t s3_ l3_) _
      refine wi_zeq hc rfl ⟨by omega, by omega⟩ (fun h3_ => ?_) (fun h3_ => ?_)
      · have hnv : nv A (A) := nv.rf A
        have hm13 := hnv (13 + x) (by omega)
        refine wi_a1 hc rfl rfl ?_
        refine wi_i1 hc rfl rfl ?_
        refine wi_i1 hc rfl rfl ?_
        obtain ⟨s4_, hE4_, hF4_, hA4_⟩ := sp_219 (d := 0) (L := L) (t := t) (l := l3_) hJ3_.1 (x := x) (p := p) (by omega) (by omega) (by omega) (by omega)
        refine wp_cv (b := 598) (As := [.int (iI x), .int (iI p)]) (r := []) hc rfl (by rw [cm_219]; rfl) rfl (Nat.le_of_ble_eq_true rfl) (show 598 < 621 by decide) (by rw [cm_219]; rfl) (ev_mono hE4_ (by omega)) ?_
        have hJ4_ : JM s4_ (exF A x p) T := ⟨hA4_, (hF4_ 601 (by decide)).trans hJ3_.2.1, by rw [hF4_ 604 (by decide)]; exact hJ3_.2.2⟩
        have hK4_ : KA (exF A x p) T := (mv_ex (by omega) (by omega) (by omega) (by omega)).KA hK (ex_ok hK.2.1 (by omega) (by omega) (by omega) (by omega))
        show mm_wp _ _ (73, [some (.ref 598), some (.int (iI x)), some (.int (iI p)), some (.int (iI (A (16 + 10 * x + p)))), some (.int (iI (A (16 + 10 * x + (p + 1)))))], [], MX L t s4_ l3_) _
        refine wi_ic hc rfl ?_
        refine wi_ri hc rfl (by rw [cm_221]; rfl) ?_
        have hc0 : cgq A T x p = 1 := by omega
        have hch : chF A T x p = exF A x p := by
          unfold chF wq
          rw [if_pos hc0, ← hv1, ← hv2]
          (repeat' split) <;> first | rfl | omega
        rw [hc0, hch]
        exact ⟨s4_, l3_, rfl, fun c hc9_ => (hF4_ c (by omega)).trans ((hF3_ c (by omega)).trans ((hF2_ c (by omega)).trans (hF1_ c (by omega)))), fun c hc9_ => (hG3_ c (by omega)).trans ((hG2_ c (by omega)).trans (hG1_ c (by omega))), hJ4_⟩
      · refine wi_a1 hc rfl rfl ?_
        refine wi_i2 hc rfl rfl ?_
        refine wi_i1 hc rfl rfl ?_
        refine wi_i1 hc rfl rfl ?_
        obtain ⟨s5_, hE5_, hF5_, hA5_⟩ := sp_220 (d := 0) (L := L) (t := t) (l := l3_) hJ3_.1 (b := A (16 + 10 * x + (p + 1))) (y := A (16 + 10 * x + p)) (x := x) (by omega) (by omega)
        refine wp_cv (b := 598) (As := [.int (iI (A (16 + 10 * x + (p + 1)))), .int (iI (A (16 + 10 * x + p))), .int (iI x)]) (r := []) hc rfl (by rw [cm_220]; rfl) rfl (Nat.le_of_ble_eq_true rfl) (show 598 < 621 by decide) (by rw [cm_220]; rfl) (ev_mono hE5_ (by omega)) ?_
        have hJ5_ : JM s5_ (wrF A (A (16 + 10 * x + (p + 1))) (A (16 + 10 * x + p)) x) T := ⟨hA5_, (hF5_ 601 (by decide)).trans hJ3_.2.1, by rw [hF5_ 604 (by decide)]; exact hJ3_.2.2⟩
        have hK5_ : KA (wrF A (A (16 + 10 * x + (p + 1))) (A (16 + 10 * x + p)) x) T := wr_KA hK
        show mm_wp _ _ (67, [some (.ref 598), some (.int (iI x)), some (.int (iI p)), some (.int (iI (A (16 + 10 * x + p)))), some (.int (iI (A (16 + 10 * x + (p + 1)))))], [], MX L t s5_ l3_) _
        have hnv : nv A (wrF A (A (16 + 10 * x + (p + 1))) (A (16 + 10 * x + p)) x) := nv_wr
        have hm13 := hnv (13 + x) (by omega)
        refine wi_a1 hc rfl rfl ?_
        refine wi_i1 hc rfl rfl ?_
        refine wi_i1 hc rfl rfl ?_
        obtain ⟨s6_, hE6_, hF6_, hA6_⟩ := sp_219 (d := 0) (L := L) (t := t) (l := l3_) hJ5_.1 (x := x) (p := p) (by omega) (by omega) (by omega) (by omega)
        refine wp_cv (b := 598) (As := [.int (iI x), .int (iI p)]) (r := []) hc rfl (by rw [cm_219]; rfl) rfl (Nat.le_of_ble_eq_true rfl) (show 598 < 621 by decide) (by rw [cm_219]; rfl) (ev_mono hE6_ (by omega)) ?_
        have hJ6_ : JM s6_ (exF (wrF A (A (16 + 10 * x + (p + 1))) (A (16 + 10 * x + p)) x) x p) T := ⟨hA6_, (hF6_ 601 (by decide)).trans hJ5_.2.1, by rw [hF6_ 604 (by decide)]; exact hJ5_.2.2⟩
        have hK6_ : KA (exF (wrF A (A (16 + 10 * x + (p + 1))) (A (16 + 10 * x + p)) x) x p) T := (mv_ex (by omega) (by omega) (by omega) (by omega)).KA hK5_ (ex_ok hK5_.2.1 (by omega) (by omega) (by omega) (by omega))
        show mm_wp _ _ (73, [some (.ref 598), some (.int (iI x)), some (.int (iI p)), some (.int (iI (A (16 + 10 * x + p)))), some (.int (iI (A (16 + 10 * x + (p + 1)))))], [], MX L t s6_ l3_) _
        refine wi_ic hc rfl ?_
        refine wi_ri hc rfl (by rw [cm_221]; rfl) ?_
        have hc0 : cgq A T x p = 1 := by omega
        have hch : chF A T x p = exF (wrF A (A (16 + 10 * x + (p + 1))) (A (16 + 10 * x + p)) x) x p := by
          unfold chF wq
          rw [if_pos hc0, ← hv1, ← hv2]
          (repeat' split) <;> first | rfl | omega
        rw [hc0, hch]
        exact ⟨s6_, l3_, rfl, fun c hc9_ => (hF6_ c (by omega)).trans ((hF5_ c (by omega)).trans ((hF3_ c (by omega)).trans ((hF2_ c (by omega)).trans (hF1_ c (by omega))))), fun c hc9_ => (hG3_ c (by omega)).trans ((hG2_ c (by omega)).trans (hG1_ c (by omega))), hJ6_⟩
    · refine wi_a1 hc rfl rfl ?_
      refine wi_i1 hc rfl rfl ?_
      refine wi_i2 hc rfl rfl ?_
      refine wi_i1 hc rfl rfl ?_
      obtain ⟨s7_, hE7_, hF7_, hA7_⟩ := sp_220 (d := 0) (L := L) (t := t) (l := l2_) hJ2_.1 (b := A (16 + 10 * x + p)) (y := A (16 + 10 * x + (p + 1))) (x := x) (by omega) (by omega)
      refine wp_cv (b := 598) (As := [.int (iI (A (16 + 10 * x + p))), .int (iI (A (16 + 10 * x + (p + 1)))), .int (iI x)]) (r := []) hc rfl (by rw [cm_220]; rfl) rfl (Nat.le_of_ble_eq_true rfl) (show 598 < 621 by decide) (by rw [cm_220]; rfl) (ev_mono hE7_ (by omega)) ?_
      have hJ7_ : JM s7_ (wrF A (A (16 + 10 * x + p)) (A (16 + 10 * x + (p + 1))) x) T := ⟨hA7_, (hF7_ 601 (by decide)).trans hJ2_.2.1, by rw [hF7_ 604 (by decide)]; exact hJ2_.2.2⟩
      have hK7_ : KA (wrF A (A (16 + 10 * x + p)) (A (16 + 10 * x + (p + 1))) x) T := wr_KA hK
      show mm_wp _ _ (48, [some (.ref 598), some (.int (iI x)), some (.int (iI p)), some (.int (iI (A (16 + 10 * x + p)))), some (.int (iI (A (16 + 10 * x + (p + 1)))))], [], MX L t s7_ l2_) _
      refine wi_a1 hc rfl rfl ?_
      refine wi_i2 hc rfl rfl ?_
      refine wi_i1 hc rfl rfl ?_
      refine wi_ic hc rfl ?_
      have hje : je A (wrF A (A (16 + 10 * x + p)) (A (16 + 10 * x + (p + 1))) x) := nv_wr.je
      have h0w : (wrF A (A (16 + 10 * x + p)) (A (16 + 10 * x + (p + 1))) x) 0 = A 0 := hje.1
      obtain ⟨s8_, l8_, hE8_, hF8_, hG8_, hJ8_⟩ := sp_210 (d := 0) (L := L) (t := t) (l := l2_) hJ7_ hK7_.1 (b := A (16 + 10 * x + (p + 1))) (o := A (16 + 10 * x + p)) (right := 0) (by omega) (by omega) (by omega) (by omega) (by omega)
      refine wp_cv (b := 598) (As := [.int (iI (A (16 + 10 * x + (p + 1)))), .int (iI (A (16 + 10 * x + p))), .int (iI 0)]) (r := []) hc rfl (by rw [cm_210]; rfl) rfl (Nat.le_of_ble_eq_true rfl) (show 598 < 621 by decide) (by rw [cm_210]; rfl) (ev_mono hE8_ (by omega)) ?_
      have hpv : pushP (wrF A (A (16 + 10 * x + p)) (A (16 + 10 * x + (p + 1))) x) T ((wrF A (A (16 + 10 * x + p)) (A (16 + 10 * x + (p + 1))) x) (46 + 6 * (A (16 + 10 * x + (p + 1))) + 4)) (A (16 + 10 * x + (p + 1))) (A (16 + 10 * x + p)) 0 = v2 := by
        rw [hje.2.2.2.2 _ 4 gr.1 (by omega) (by decide) (by decide), push_je hje hV gr.1 (by omega) gl.1 (by omega), hv2]
        rfl
      rw [hpv]
      show mm_wp _ _ (56, [some (.ref 598), some (.int (iI x)), some (.int (iI p)), some (.int (iI (A (16 + 10 * x + p)))), some (.int (iI (A (16 + 10 * x + (p + 1)))))], [.int (iI v2)], MX L t s8_ l8_) _
      refine wi_zeq hc rfl ⟨by omega, by omega⟩ (fun h4_ => ?_) (fun h4_ => ?_)
      · have hnv : nv A (wrF A (A (16 + 10 * x + p)) (A (16 + 10 * x + (p + 1))) x) := nv_wr
        have hm13 := hnv (13 + x) (by omega)
        refine wi_a1 hc rfl rfl ?_
        refine wi_i1 hc rfl rfl ?_
        refine wi_i1 hc rfl rfl ?_
        obtain ⟨s9_, hE9_, hF9_, hA9_⟩ := sp_219 (d := 0) (L := L) (t := t) (l := l8_) hJ8_.1 (x := x) (p := p) (by omega) (by omega) (by omega) (by omega)
        refine wp_cv (b := 598) (As := [.int (iI x), .int (iI p)]) (r := []) hc rfl (by rw [cm_219]; rfl) rfl (Nat.le_of_ble_eq_true rfl) (show 598 < 621 by decide) (by rw [cm_219]; rfl) (ev_mono hE9_ (by omega)) ?_
        have hJ9_ : JM s9_ (exF (wrF A (A (16 + 10 * x + p)) (A (16 + 10 * x + (p + 1))) x) x p) T := ⟨hA9_, (hF9_ 601 (by decide)).trans hJ8_.2.1, by rw [hF9_ 604 (by decide)]; exact hJ8_.2.2⟩
        have hK9_ : KA (exF (wrF A (A (16 + 10 * x + p)) (A (16 + 10 * x + (p + 1))) x) x p) T := (mv_ex (by omega) (by omega) (by omega) (by omega)).KA hK7_ (ex_ok hK7_.2.1 (by omega) (by omega) (by omega) (by omega))
        show mm_wp _ _ (73, [some (.ref 598), some (.int (iI x)), some (.int (iI p)), some (.int (iI (A (16 + 10 * x + p)))), some (.int (iI (A (16 + 10 * x + (p + 1)))))], [], MX L t s9_ l8_) _
        refine wi_ic hc rfl ?_
        refine wi_ri hc rfl (by rw [cm_221]; rfl) ?_
        have hc0 : cgq A T x p = 1 := by omega
        have hch : chF A T x p = exF (wrF A (A (16 + 10 * x + p)) (A (16 + 10 * x + (p + 1))) x) x p := by
          unfold chF wq
          rw [if_pos hc0, ← hv1, ← hv2]
          (repeat' split) <;> first | rfl | omega
        rw [hc0, hch]
        exact ⟨s9_, l8_, rfl, fun c hc9_ => (hF9_ c (by omega)).trans ((hF8_ c (by omega)).trans ((hF7_ c (by omega)).trans ((hF2_ c (by omega)).trans (hF1_ c (by omega))))), fun c hc9_ => (hG8_ c (by omega)).trans ((hG2_ c (by omega)).trans (hG1_ c (by omega))), hJ9_⟩
      · refine wi_a1 hc rfl rfl ?_
        refine wi_i2 hc rfl rfl ?_
        refine wi_i1 hc rfl rfl ?_
        refine wi_i1 hc rfl rfl ?_
        have h9w : (wrF A (A (16 + 10 * x + p)) (A (16 + 10 * x + (p + 1))) x) 9 = A 9 + 1 := wr_9
        obtain ⟨s10_, hE10_, hF10_, hA10_⟩ := sp_220 (d := 0) (L := L) (t := t) (l := l8_) hJ8_.1 (b := A (16 + 10 * x + (p + 1))) (y := A (16 + 10 * x + p)) (x := x) (by omega) (by omega)
        refine wp_cv (b := 598) (As := [.int (iI (A (16 + 10 * x + (p + 1)))), .int (iI (A (16 + 10 * x + p))), .int (iI x)]) (r := []) hc rfl (by rw [cm_220]; rfl) rfl (Nat.le_of_ble_eq_true rfl) (show 598 < 621 by decide) (by rw [cm_220]; rfl) (ev_mono hE10_ (by omega)) ?_
        have hJ10_ : JM s10_ (wrF (wrF A (A (16 + 10 * x + p)) (A (16 + 10 * x + (p + 1))) x) (A (16 + 10 * x + (p + 1))) (A (16 + 10 * x + p)) x) T := ⟨hA10_, (hF10_ 601 (by decide)).trans hJ8_.2.1, by rw [hF10_ 604 (by decide)]; exact hJ8_.2.2⟩
        have hK10_ : KA (wrF (wrF A (A (16 + 10 * x + p)) (A (16 + 10 * x + (p + 1))) x) (A (16 + 10 * x + (p + 1))) (A (16 + 10 * x + p)) x) T := wr_KA hK7_
        show mm_wp _ _ (67, [some (.ref 598), some (.int (iI x)), some (.int (iI p)), some (.int (iI (A (16 + 10 * x + p)))), some (.int (iI (A (16 + 10 * x + (p + 1)))))], [], MX L t s10_ l8_) _
        have hnv : nv A (wrF (wrF A (A (16 + 10 * x + p)) (A (16 + 10 * x + (p + 1))) x) (A (16 + 10 * x + (p + 1))) (A (16 + 10 * x + p)) x) := nv_wr.tr nv_wr
        have hm13 := hnv (13 + x) (by omega)
        refine wi_a1 hc rfl rfl ?_
        refine wi_i1 hc rfl rfl ?_
        refine wi_i1 hc rfl rfl ?_
        obtain ⟨s11_, hE11_, hF11_, hA11_⟩ := sp_219 (d := 0) (L := L) (t := t) (l := l8_) hJ10_.1 (x := x) (p := p) (by omega) (by omega) (by omega) (by omega)
        refine wp_cv (b := 598) (As := [.int (iI x), .int (iI p)]) (r := []) hc rfl (by rw [cm_219]; rfl) rfl (Nat.le_of_ble_eq_true rfl) (show 598 < 621 by decide) (by rw [cm_219]; rfl) (ev_mono hE11_ (by omega)) ?_
        have hJ11_ : JM s11_ (exF (wrF (wrF A (A (16 + 10 * x + p)) (A (16 + 10 * x + (p + 1))) x) (A (16 + 10 * x + (p + 1))) (A (16 + 10 * x + p)) x) x p) T := ⟨hA11_, (hF11_ 601 (by decide)).trans hJ10_.2.1, by rw [hF11_ 604 (by decide)]; exact hJ10_.2.2⟩
        have hK11_ : KA (exF (wrF (wrF A (A (16 + 10 * x + p)) (A (16 + 10 * x + (p + 1))) x) (A (16 + 10 * x + (p + 1))) (A (16 + 10 * x + p)) x) x p) T := (mv_ex (by omega) (by omega) (by omega) (by omega)).KA hK10_ (ex_ok hK10_.2.1 (by omega) (by omega) (by omega) (by omega))
        show mm_wp _ _ (73, [some (.ref 598), some (.int (iI x)), some (.int (iI p)), some (.int (iI (A (16 + 10 * x + p)))), some (.int (iI (A (16 + 10 * x + (p + 1)))))], [], MX L t s11_ l8_) _
        refine wi_ic hc rfl ?_
        refine wi_ri hc rfl (by rw [cm_221]; rfl) ?_
        have hc0 : cgq A T x p = 1 := by omega
        have hch : chF A T x p = exF (wrF (wrF A (A (16 + 10 * x + p)) (A (16 + 10 * x + (p + 1))) x) (A (16 + 10 * x + (p + 1))) (A (16 + 10 * x + p)) x) x p := by
          unfold chF wq
          rw [if_pos hc0, ← hv1, ← hv2]
          (repeat' split) <;> first | rfl | omega
        rw [hc0, hch]
        exact ⟨s11_, l8_, rfl, fun c hc9_ => (hF11_ c (by omega)).trans ((hF10_ c (by omega)).trans ((hF8_ c (by omega)).trans ((hF7_ c (by omega)).trans ((hF2_ c (by omega)).trans (hF1_ c (by omega)))))), fun c hc9_ => (hG8_ c (by omega)).trans ((hG2_ c (by omega)).trans (hG1_ c (by omega))), hJ11_⟩
  · refine wi_ic hc rfl ?_
    refine wi_ri hc rfl (by rw [cm_221]; rfl) ?_
    have hc0 : cgq A T x p = 0 := by omega
    have hch : chF A T x p = A := by unfold chF; rw [if_neg (by omega)]
    rw [hc0, hch]
    exact ⟨s1_, l1_, rfl, fun c hc9_ => hF1_ c (by omega), fun c hc9_ => hG1_ c (by omega), hJ1_⟩
