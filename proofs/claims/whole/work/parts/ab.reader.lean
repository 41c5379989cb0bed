/-! The class's reader: numbers, tokens kept. -/
def nbrF (f : Int → Int) : Nat → Int → Int → Int
  | 0, _, acc => acc
  | m + 1, i, acc => if fgB (f i) = true then nbrF f m (i + 1) (minI (acc * 10 + f i - 48) 10000) else acc
def nbrP (f : Int → Int) (x y : Int) : Int := nbrF f (y + 1 - x).toNat x 0
theorem nbrF_s {f : Int → Int} {y i acc : Int} (h : i ≤ y) : nbrF f (y + 1 - i).toNat i acc = if fgB (f i) = true then nbrF f (y + 1 - (i + 1)).toNat (i + 1) (minI (acc * 10 + f i - 48) 10000) else acc := by
  rw [show (y + 1 - i).toNat = (y + 1 - (i + 1)).toNat + 1 by omega, nbrF]
theorem nbrF_e {f : Int → Int} {y i acc : Int} (h : y < i) : nbrF f (y + 1 - i).toNat i acc = acc := by
  rw [show (y + 1 - i).toNat = 0 by omega]
  rfl
theorem sp_52 {d L t : Nat} {s l : Nat → Int → Int} {f : Int → Int} (hT : s 597 = f) (hf : ∀ k, 0 ≤ f k ∧ f k ≤ 255) {x y : Int} (x0 : 0 ≤ x) (x1 : x ≤ y) (y1 : y < 300) : mm_Ev mm_ct mm_CM (d + 2) 52 [.ref 597, .int (iI x), .int (iI y)] (MX L t s l) (some (.int (iI (nbrP f x y))), MX L t s l) := by
  have hc : (mm_CM 52).2.2.2.2.2.2.2 = mm_cf cd_52 := by rw [cm_52]; rfl
  refine ev_of (mx := 5) (by rw [cm_52]; decide) (by rw [cm_52]; rfl) (by show 3 ≤ _; decide) ?_
  show mm_wp _ _ (0, [some (.ref 597), some (.int (iI x)), some (.int (iI y)), none, none], [], MX L t s l) (fun r => r = (some (.int (iI (nbrP f x y))), MX L t s l))
  refine wi_ic hc rfl ?_
  refine wi_is1 (L' := [some (.ref 597), some (.int (iI x)), some (.int (iI y)), some (.int (iI 0)), none]) hc rfl (Nat.le_of_ble_eq_true rfl) rfl ?_
  refine wi_i1 hc rfl rfl ?_
  refine wi_is2 (L' := [some (.ref 597), some (.int (iI x)), some (.int (iI y)), some (.int (iI 0)), some (.int (iI x))]) hc rfl (Nat.le_of_ble_eq_true rfl) rfl ?_
  have loop5_ : ∀ i : Int, i ≤ y + 1 → x ≤ i → ∀ acc : Int, 0 ≤ acc → acc ≤ 10000 → nbrP f x y = nbrF f (y + 1 - i).toNat i acc → mm_wp (mm_Ev mm_ct mm_CM (d + 1)) 52 (5, [some (.ref 597), some (.int (iI x)), some (.int (iI y)), some (.int (iI acc)), some (.int (iI i))], [], MX L t s l) (fun r => r = (some (.int (iI (nbrP f x y))), MX L t s l)) := by
    refine up_ind ?_
    intro i hi9 ih hxi acc ac0 ac1 hn9
    have hfi := hf i
    refine wi_i2 hc rfl rfl ?_
    refine wi_i1 hc rfl rfl ?_
    refine wi_cgt hc rfl ⟨by omega, by omega⟩ ⟨by omega, by omega⟩ (fun h1_ => ?_) (fun h1_ => ?_)
    · refine wi_i1 hc rfl rfl ?_
      refine wi_ri hc rfl (by rw [cm_52]; rfl) ?_
      have hR : nbrP f x y = acc := by
        rw [hn9]
        first
        | exact nbrF_e (by omega)
        | (rw [nbrF_s (by omega)]; exact if_neg (fun w => by have := fgB_t.mp w; omega))
      rw [hR]
    · refine wi_a1 hc rfl rfl ?_
      refine wi_i2 hc rfl rfl ?_
      refine wi_ildv (N := 300) hc rfl rfl (by decide) (by decide) (by omega) (by omega) (v := f i) (congrFun (hT) _) ?_
      refine wp_cs (As := [.int (iI (f i))]) (r := []) hc rfl (by rw [cm_48]; rfl) rfl (Nat.le_of_ble_eq_true rfl) (ev_mono (sp_48 (d := 0) ⟨by omega, by omega⟩) (by omega)) ?_
      show mm_wp _ _ (18, [some (.ref 597), some (.int (iI x)), some (.int (iI y)), some (.int (iI acc)), some (.int (iI i))], [.int (iI (bI (48 ≤ (f i) ∧ (f i) ≤ 57)))], MX L t s l) _
      refine wi_beq hc rfl (fun h2_ => ?_) (fun h2_ => ?_)
      · refine wi_i1 hc rfl rfl ?_
        refine wi_ri hc rfl (by rw [cm_52]; rfl) ?_
        have hR : nbrP f x y = acc := by
          rw [hn9]
          first
          | exact nbrF_e (by omega)
          | (rw [nbrF_s (by omega)]; exact if_neg (fun w => by have := fgB_t.mp w; omega))
        rw [hR]
      · refine wi_i1 hc rfl rfl ?_
        refine wi_bi hc rfl rfl ?_
        refine wi_mul hc rfl ?_
        refine wi_a1 hc rfl rfl ?_
        refine wi_i2 hc rfl rfl ?_
        refine wi_ildv (N := 300) hc rfl rfl (by decide) (by decide) (by omega) (by omega) (v := f i) (congrFun (hT) _) ?_
        refine wi_add hc rfl ?_
        refine wi_bi hc rfl rfl ?_
        refine wi_sub hc rfl ?_
        refine wi_si hc rfl rfl ?_
        refine wi_min (r := []) hc rfl (Nat.le_of_ble_eq_true rfl) ⟨by omega, by omega⟩ ⟨by decide, by decide⟩ ?_
        have h3_ := minI_spec (((acc * 10) + (f i)) - 48) 10000
        show mm_wp _ _ (39, [some (.ref 597), some (.int (iI x)), some (.int (iI y)), some (.int (iI acc)), some (.int (iI i))], [.int (iI (minI (((acc * 10) + (f i)) - 48) 10000))], MX L t s l) _
        refine wi_is1 (L' := [some (.ref 597), some (.int (iI x)), some (.int (iI y)), some (.int (iI (minI (((acc * 10) + (f i)) - 48) 10000))), some (.int (iI i))]) hc rfl (Nat.le_of_ble_eq_true rfl) rfl ?_
        refine wi_inc (L' := [some (.ref 597), some (.int (iI x)), some (.int (iI y)), some (.int (iI (minI (((acc * 10) + (f i)) - 48) 10000))), some (.int (iI (i + 1)))]) hc rfl rfl rfl ?_
        refine wi_go hc rfl ?_
        have hmi := minI_spec (acc * 10 + f i - 48) 10000
        have e9 : minI (((acc * 10) + (f i)) - 48) 10000 = minI (acc * 10 + f i - 48) 10000 := by first | rfl | (congr 1)
        rw [e9]
        exact ih (by omega) (by omega) _ (by omega) (by omega) (by rw [hn9, nbrF_s (by omega)]; exact if_pos (fgB_t.mpr (by omega)))
  exact loop5_ x (by omega) (by omega) 0 (by omega) (by omega) rfl
theorem sp_46 {d L t : Nat} {s l : Nat → Int → Int} {kd pl nm : Int → Int} {tn : Int} (hR : RD s kd pl nm tn) (ht : tn ≤ 300) {kx px nx : Int} (hk : -1 ≤ kx ∧ kx ≤ 100) (hp : 0 ≤ px ∧ px ≤ 300) (hn : 0 ≤ nx ∧ nx ≤ 10000) : ∃ s1, mm_Ev mm_ct mm_CM (d + 1) 46 [.ref 580, .int (iI kx), .int (iI px), .int (iI nx)] (MX L t s l) (none, MX L t s1 l) ∧ (∀ c, c ≠ 580 ∧ c ≠ 581 ∧ c ≠ 582 ∧ c ≠ 583 → s1 c = s c) ∧ (∀ k, s1 580 k = if k = 3 then tn + 1 else s 580 k) ∧ RD s1 (set1 kd tn kx) (set1 pl tn px) (set1 nm tn nx) (tn + 1) := by
  have hc : (mm_CM 46).2.2.2.2.2.2.2 = mm_cf cd_46 := by rw [cm_46]; rfl
  refine ev_xs ?_
  refine ev_to (mx := 4) (by rw [cm_46]; decide) (by rw [cm_46]; rfl) (by show 4 ≤ _; decide) ?_
  show mm_wp _ _ (0, [some (.ref 580), some (.int (iI kx)), some (.int (iI px)), some (.int (iI nx))], [], MX L t s l) (fun res => ∃ s1, res = (none, MX L t s1 l) ∧ (∀ c, c ≠ 580 ∧ c ≠ 581 ∧ c ≠ 582 ∧ c ≠ 583 → s1 c = s c) ∧ (∀ k, s1 580 k = if k = 3 then tn + 1 else s 580 k) ∧ RD s1 (set1 kd tn kx) (set1 pl tn px) (set1 nm tn nx) (tn + 1))
  have hR2 := hR.2.1
  refine wi_a1 hc rfl rfl ?_
  refine wi_gfv (kz := 3) rfl hc rfl rfl (by decide) (Nat.le_of_ble_eq_true rfl) rfl (v := tn) (hR.1) ?_
  refine wi_si hc rfl rfl ?_
  refine wi_cgt hc rfl ⟨by omega, by omega⟩ ⟨by decide, by decide⟩ (fun h1_ => (by exfalso; omega)) (fun h1_ => ?_)
  refine wi_a1 hc rfl rfl ?_
  refine wi_gr (w := 581) hc rfl rfl (by decide) (Nat.le_of_ble_eq_true rfl) rfl ?_
  refine wi_a1 hc rfl rfl ?_
  refine wi_gfv (kz := 3) rfl hc rfl rfl (by decide) (Nat.le_of_ble_eq_true rfl) rfl (v := tn) (hR.1) ?_
  refine wi_i1 hc rfl rfl ?_
  refine wi_ist (N := 301) hc rfl rfl (by decide) (by decide) (by omega) (by omega) ?_
  obtain ⟨s1_, es1_⟩ : ∃ q, q = up s 581 tn kx := ⟨_, rfl⟩
  rw [← es1_]
  refine wi_a1 hc rfl rfl ?_
  refine wi_gr (w := 582) hc rfl rfl (by decide) (Nat.le_of_ble_eq_true rfl) rfl ?_
  refine wi_a1 hc rfl rfl ?_
  refine wi_gfv (kz := 3) rfl hc rfl rfl (by decide) (Nat.le_of_ble_eq_true rfl) rfl (v := tn) (((congrFun (congrFun es1_ _) _).trans (up_c (by decide))).trans (hR.1)) ?_
  refine wi_i1 hc rfl rfl ?_
  refine wi_ist (N := 301) hc rfl rfl (by decide) (by decide) (by omega) (by omega) ?_
  obtain ⟨s2_, es2_⟩ : ∃ q, q = up s1_ 582 tn px := ⟨_, rfl⟩
  rw [← es2_]
  refine wi_a1 hc rfl rfl ?_
  refine wi_gr (w := 583) hc rfl rfl (by decide) (Nat.le_of_ble_eq_true rfl) rfl ?_
  refine wi_a1 hc rfl rfl ?_
  refine wi_gfv (kz := 3) rfl hc rfl rfl (by decide) (Nat.le_of_ble_eq_true rfl) rfl (v := tn) (((congrFun (congrFun es2_ _) _).trans (up_c (by decide))).trans (((congrFun (congrFun es1_ _) _).trans (up_c (by decide))).trans (hR.1))) ?_
  refine wi_i1 hc rfl rfl ?_
  refine wi_ist (N := 301) hc rfl rfl (by decide) (by decide) (by omega) (by omega) ?_
  obtain ⟨s3_, es3_⟩ : ∃ q, q = up s2_ 583 tn nx := ⟨_, rfl⟩
  rw [← es3_]
  refine wi_a1 hc rfl rfl ?_
  refine wi_dupr hc rfl ?_
  refine wi_gfv (kz := 3) rfl hc rfl rfl (by decide) (Nat.le_of_ble_eq_true rfl) rfl (v := tn) (((congrFun (congrFun es3_ _) _).trans (up_c (by decide))).trans (((congrFun (congrFun es2_ _) _).trans (up_c (by decide))).trans (((congrFun (congrFun es1_ _) _).trans (up_c (by decide))).trans (hR.1)))) ?_
  refine wi_ic hc rfl ?_
  refine wi_add hc rfl ?_
  refine wi_pf (kz := 3) rfl hc rfl rfl (by decide) (Nat.le_of_ble_eq_true rfl) rfl (Nat.le_of_ble_eq_true rfl) ⟨rfl, rfl⟩ rfl ?_
  obtain ⟨s4_, es4_⟩ : ∃ q, q = up s3_ 580 3 (tn + 1) := ⟨_, rfl⟩
  rw [← es4_]
  refine wi_rv hc rfl (by rw [cm_46]; rfl) ?_
  have q0 : ∀ k, s4_ 580 k = if k = 3 then tn + 1 else s 580 k := fun k => by
    by_cases q : k = 3
    · rw [if_pos q, es4_, up_e q]
    · rw [if_neg q, es4_, up_k q, es3_, up_cc (by decide), es2_, up_cc (by decide), es1_, up_cc (by decide)]
  have q1 : ∀ j, s4_ 581 j = set1 (s 581) tn kx j := fun j => by
    rw [es4_, up_cc (by decide), es3_, up_cc (by decide), es2_, up_cc (by decide), es1_]
    by_cases q : j = tn
    · rw [up_e q]; exact (if_pos q).symm
    · rw [up_k q]; exact (if_neg q).symm
  have q2 : ∀ j, s4_ 582 j = set1 (s 582) tn px j := fun j => by
    rw [es4_, up_cc (by decide), es3_, up_cc (by decide), es2_]
    by_cases q : j = tn
    · rw [up_e q]; exact (if_pos q).symm
    · rw [up_k q, es1_, up_cc (by decide)]; exact (if_neg q).symm
  have q3 : ∀ j, s4_ 583 j = set1 (s 583) tn nx j := fun j => by
    rw [es4_, up_cc (by decide), es3_]
    by_cases q : j = tn
    · rw [up_e q]; exact (if_pos q).symm
    · rw [up_k q, es2_, up_cc (by decide), es1_, up_cc (by decide)]; exact (if_neg q).symm
  refine ⟨s4_, rfl, fun c q => by rw [es4_, up_cc q.1, es3_, up_cc q.2.2.2, es2_, up_cc q.2.2.1, es1_, up_cc q.2.1], q0, ?_⟩
  refine ⟨(q0 3).trans (if_pos rfl), by omega, fun j j0 j1 => ?_⟩
  rw [q1, q2, q3]
  by_cases q : j = tn
  · subst q
    have sv : ∀ (g : Int → Int) (v : Int), set1 g j v j = v := fun g v => if_pos rfl
    rw [sv, sv, sv, sv, sv, sv]
    exact ⟨rfl, rfl, rfl, hk, hp, hn⟩
  · rw [set1_ne q, set1_ne q, set1_ne q, set1_ne q, set1_ne q, set1_ne q]
    exact hR.2.2 j j0 (by omega)
