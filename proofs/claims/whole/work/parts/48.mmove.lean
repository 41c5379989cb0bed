/-! The model moves books. -/
theorem dn_ind' {n : Int} {P : Int → Prop} (h : ∀ i, n ≤ i → (n ≤ i + (-1) → P (i + (-1))) → P i) : ∀ i, n ≤ i → P i := dn_ind (fun i hi ih => h i hi (fun q => by have := ih (by omega); rwa [show i - 1 = i + (-1) by omega] at this))
/-- a push is written down -/
def wrF (A : Int → Int) (b o x : Int) : Int → Int := fun k => if k = 1594 + 4 * (A 9 % 512) then b else if k = 1594 + 4 * (A 9 % 512) + 1 then o else if k = 1594 + 4 * (A 9 % 512) + 2 then x else if k = 1594 + 4 * (A 9 % 512) + 3 then A 1 else if k = 9 then A 9 + 1 else A k
/-- how many steps stand, with room for one more -/
def kpN (A : Int → Int) : Int := if A 7 = 30 then 29 else A 7
def kpP (A : Int → Int) : Int → Int := fun k => if A 7 = 30 ∧ 154 ≤ k ∧ k < 1546 then A (k + 48) else if k = 7 then kpN A else A k
/-- a step is kept -/
def keepF (A : Int → Int) : Int → Int := fun k => if k = 7 then kpN A + 1 else if 154 + 48 * kpN A ≤ k ∧ k < 154 + 48 * kpN A + 48 then cur A (k - (154 + 48 * kpN A)) else kpP A k
/-- the latest step is taken back -/
def undoF (A : Int → Int) : Int → Int := fun k => if k = 7 then A 7 - 1 else if k = 1 then A (154 + 48 * (A 7 - 1) + 1) else if k = 2 then A (154 + 48 * (A 7 - 1) + 2) else if k = 4 then A (154 + 48 * (A 7 - 1) + 3) else if k = 9 then A (154 + 48 * (A 7 - 1) + 4) else if 13 ≤ k ∧ k < 46 then A (154 + 48 * (A 7 - 1) + 5 + (k - 13)) else if (k - 51) % 6 = 0 ∧ 51 ≤ k ∧ k < 51 + 6 * A 0 then (if (k - 51) / 6 < A (154 + 48 * (A 7 - 1)) then A (154 + 48 * (A 7 - 1) + 38 + (k - 51) / 6) else 3) else A k
theorem sg_157 {d L t : Nat} {s l : Nat → Int → Int} {A : Int → Int} (hA : s 599 = A) (hB : okB A) {b x p : Int} (h0 : 0 ≤ b) (h1 : b < 10) (hx : A (46 + 6 * b + 5) = x) (hx0 : 0 ≤ x) (hx1 : x < 3) (hp0 : 0 ≤ p) (hp1 : p < A (13 + x)) (hr : ∀ q, 0 ≤ q → q < 10 → rI (A (16 + 10 * x + q))) (hp : A (16 + 10 * x + p) = b) : mm_Ev mm_ct mm_CM (d + 2) 157 [.ref 598, .int (iI b)] (MX L t s l) (some (.int (iI p)), MX L t s l) := by
  subst hA
  subst hx
  have g1 := hB.2.1 _ hx0 hx1
  refine sp_157 h0 h1 hx0 (by omega) hp0 (by omega) hr hp (fun q q0 q1 h => ?_)
  exact hB.2.2.2.1 _ q p hx0 hx1 q0 q1 hp1 (by rw [h, hp])
theorem sp_216 {d L t : Nat} {s l : Nat → Int → Int} {x p b : Int} (h0 : 0 ≤ x) (h1 : x ≤ 2) (h2 : 0 ≤ p) (h3 : p < 10) : mm_Ev mm_ct mm_CM (d + 1) 216 [.ref 598, .int (iI x), .int (iI p), .int (iI b)] (MX L t s l) (none, MX L t (up s 599 (16 + 10 * x + p) b) l) := by
  have hc : (mm_CM 216).2.2.2.2.2.2.2 = mm_cf cd_216 := by rw [cm_216]; rfl
  refine ev_of (mx := 4) (by rw [cm_216]; decide) (by rw [cm_216]; rfl) (by show 4 ≤ _; decide) ?_
  show mm_wp _ _ (0, [some (.ref 598), some (.int (iI x)), some (.int (iI p)), some (.int (iI b))], [], MX L t s l) (fun r => r = (none, MX L t (up s 599 (16 + 10 * x + p) b) l))
  refine wi_a1 hc rfl rfl ?_
  refine wi_gr (w := 599) hc rfl rfl (by decide) (Nat.le_of_ble_eq_true rfl) rfl ?_
  refine wi_bi hc rfl rfl ?_
  refine wi_bi hc rfl rfl ?_
  refine wi_i1 hc rfl rfl ?_
  refine wi_mul hc rfl ?_
  refine wi_add hc rfl ?_
  refine wi_i1 hc rfl rfl ?_
  refine wi_add hc rfl ?_
  refine wi_i1 hc rfl rfl ?_
  refine wi_ist (N := 3642) hc rfl rfl (by decide) (by decide) (by omega) (by omega) ?_
  obtain ⟨s1_, es1_⟩ : ∃ q, q = up s 599 ((16 + (10 * x)) + p) b := ⟨_, rfl⟩
  rw [← es1_]
  refine wi_rv hc rfl (by rw [cm_216]; rfl) ?_
  rw [es1_]
theorem sp_154 {d L t : Nat} {s l : Nat → Int → Int} {b w v : Int} (h0 : 0 ≤ b) (h1 : b < 10) (h2 : 0 ≤ w) (h3 : w < 6) : mm_Ev mm_ct mm_CM (d + 1) 154 [.ref 598, .int (iI b), .int (iI w), .int (iI v)] (MX L t s l) (none, MX L t (up s 599 (46 + 6 * b + w) v) l) := by
  have hc : (mm_CM 154).2.2.2.2.2.2.2 = mm_cf cd_154 := by rw [cm_154]; rfl
  refine ev_of (mx := 4) (by rw [cm_154]; decide) (by rw [cm_154]; rfl) (by show 4 ≤ _; decide) ?_
  show mm_wp _ _ (0, [some (.ref 598), some (.int (iI b)), some (.int (iI w)), some (.int (iI v))], [], MX L t s l) (fun r => r = (none, MX L t (up s 599 (46 + 6 * b + w) v) l))
  refine wi_a1 hc rfl rfl ?_
  refine wi_gr (w := 599) hc rfl rfl (by decide) (Nat.le_of_ble_eq_true rfl) rfl ?_
  refine wi_bi hc rfl rfl ?_
  refine wi_bi hc rfl rfl ?_
  refine wi_i1 hc rfl rfl ?_
  refine wi_mul hc rfl ?_
  refine wi_add hc rfl ?_
  refine wi_i1 hc rfl rfl ?_
  refine wi_add hc rfl ?_
  refine wi_i1 hc rfl rfl ?_
  refine wi_ist (N := 3642) hc rfl rfl (by decide) (by decide) (by omega) (by omega) ?_
  obtain ⟨s1_, es1_⟩ : ∃ q, q = up s 599 ((46 + (6 * b)) + w) v := ⟨_, rfl⟩
  rw [← es1_]
  refine wi_rv hc rfl (by rw [cm_154]; rfl) ?_
  rw [es1_]
theorem sp_217 {d L t : Nat} {s l : Nat → Int → Int} {A : Int → Int} (hA : s 599 = A) {x p to : Int} (hx0 : 0 ≤ x) (hx1 : x < 3) (hp0 : 0 ≤ p) (hp1 : p < A (13 + x)) (hm : A (13 + x) ≤ 10) (hb0 : 0 ≤ A (16 + 10 * x + p)) (hb1 : A (16 + 10 * x + p) < 10) : ∃ s1, mm_Ev mm_ct mm_CM (d + 2) 217 [.ref 598, .int (iI x), .int (iI p), .int (iI to)] (MX L t s l) (none, MX L t s1 l) ∧ (∀ c, c ≠ 599 → s1 c = s c) ∧ s1 599 = pullF A x p to := by
  have hc : (mm_CM 217).2.2.2.2.2.2.2 = mm_cf cd_217 := by rw [cm_217]; rfl
  refine ev_xs ?_
  refine ev_to (mx := 5) (by rw [cm_217]; decide) (by rw [cm_217]; rfl) (by show 4 ≤ _; decide) ?_
  show mm_wp _ _ (0, [some (.ref 598), some (.int (iI x)), some (.int (iI p)), some (.int (iI to)), none], [], MX L t s l) (fun res => ∃ s1, res = (none, MX L t s1 l) ∧ (∀ c, c ≠ 599 → s1 c = s c) ∧ s1 599 = pullF A x p to)
  refine wi_a1 hc rfl rfl ?_
  refine wi_a1 hc rfl rfl ?_
  refine wi_i1 hc rfl rfl ?_
  refine wi_i1 hc rfl rfl ?_
  refine wp_cv (b := 598) (As := [.int (iI x), .int (iI p)]) (r := [.ref 598]) hc rfl (by rw [cm_155]; rfl) rfl (Nat.le_of_ble_eq_true rfl) (show 598 < 621 by decide) (by rw [cm_155]; rfl) (ev_mono (sg_155 (d := 0) (hA) (by omega) (by omega) (by omega) (by omega)) (by omega)) ?_
  show mm_wp _ _ (7, [some (.ref 598), some (.int (iI x)), some (.int (iI p)), some (.int (iI to)), none], [.int (iI (A (16 + 10 * x + p))), .ref 598], MX L t s l) _
  refine wi_ic hc rfl ?_
  refine wi_i1 hc rfl rfl ?_
  refine wp_cv (b := 598) (As := [.int (iI (A (16 + 10 * x + p))), .int (iI 5), .int (iI to)]) (r := []) hc rfl (by rw [cm_154]; rfl) rfl (Nat.le_of_ble_eq_true rfl) (show 598 < 621 by decide) (by rw [cm_154]; rfl) (ev_mono (sp_154 (d := 0) (L := L) (t := t) (s := s) (l := l) (by omega) (by omega) (by omega) (by omega)) (by omega)) ?_
  obtain ⟨s1_, es1_⟩ : ∃ q, q = up s 599 (46 + 6 * (A (16 + 10 * x + p)) + 5) to := ⟨_, rfl⟩
  rw [← es1_]
  show mm_wp _ _ (12, [some (.ref 598), some (.int (iI x)), some (.int (iI p)), some (.int (iI to)), none], [], MX L t s1_ l) _
  refine wi_a1 hc rfl rfl ?_
  refine wi_gr (w := 599) hc rfl rfl (by decide) (Nat.le_of_ble_eq_true rfl) rfl ?_
  refine wi_bi hc rfl rfl ?_
  refine wi_i1 hc rfl rfl ?_
  refine wi_add hc rfl ?_
  refine wi_dup2 hc rfl ?_
  refine wi_ildv (N := 3642) hc rfl rfl (by decide) (by decide) (by omega) (by omega) (v := A (13 + x)) (((congrFun (congrFun es1_ _) _).trans (up_k (by omega))).trans (congrFun (hA) _)) ?_
  refine wi_ic hc rfl ?_
  refine wi_sub hc rfl ?_
  refine wi_ist (N := 3642) hc rfl rfl (by decide) (by decide) (by omega) (by omega) ?_
  obtain ⟨s2_, es2_⟩ : ∃ q, q = up s1_ 599 (13 + x) ((A (13 + x)) - 1) := ⟨_, rfl⟩
  rw [← es2_]
  refine wi_i1 hc rfl rfl ?_
  refine wi_is2 (L' := [some (.ref 598), some (.int (iI x)), some (.int (iI p)), some (.int (iI to)), some (.int (iI p))]) hc rfl (Nat.le_of_ble_eq_true rfl) rfl ?_
  have loop28_ : ∀ i : Int, i ≤ A (13 + x) - 1 → p ≤ i → ∀ s2 : Nat → Int → Int, (∀ c, c ≠ 599 → s2 c = s c) → (∀ k, s2 599 k = if k = 46 + 6 * A (16 + 10 * x + p) + 5 then to else if k = 13 + x then A k - 1 else if 16 + 10 * x + p ≤ k ∧ k < 16 + 10 * x + i then A (k + 1) else A k) → mm_wp (mm_Ev mm_ct mm_CM (d + 1)) 217 (28, [some (.ref 598), some (.int (iI x)), some (.int (iI p)), some (.int (iI to)), some (.int (iI i))], [], MX L t s2 l) (fun res => ∃ s1, res = (none, MX L t s1 l) ∧ (∀ c, c ≠ 599 → s1 c = s c) ∧ s1 599 = pullF A x p to) := by
    refine up_ind ?_
    intro i hi ih hpi s2 hF hI
    have hm2 : s2 599 (13 + x) = A (13 + x) - 1 := by rw [hI, if_neg (by omega), if_pos rfl]
    refine wi_i2 hc rfl rfl ?_
    refine wi_a1 hc rfl rfl ?_
    refine wi_gr (w := 599) hc rfl rfl (by decide) (Nat.le_of_ble_eq_true rfl) rfl ?_
    refine wi_bi hc rfl rfl ?_
    refine wi_i1 hc rfl rfl ?_
    refine wi_add hc rfl ?_
    refine wi_ildv (N := 3642) hc rfl rfl (by decide) (by decide) (by omega) (by omega) (v := A (13 + x) - 1) (hm2) ?_
    refine wi_cge hc rfl ⟨by omega, by omega⟩ ⟨by omega, by omega⟩ (fun h1_ => ?_) (fun h1_ => ?_)
    · refine wi_rv hc rfl (by rw [cm_217]; rfl) ?_
      have ei : i = A (13 + x) - 1 := by omega
      refine ⟨s2, rfl, hF, funext (fun k => ?_)⟩
      rw [hI k]
      unfold pullF
      (repeat' split) <;> first | rfl | omega
    · refine wi_a1 hc rfl rfl ?_
      refine wi_i1 hc rfl rfl ?_
      refine wi_i2 hc rfl rfl ?_
      refine wi_a1 hc rfl rfl ?_
      refine wi_i1 hc rfl rfl ?_
      refine wi_i2 hc rfl rfl ?_
      refine wi_ic hc rfl ?_
      refine wi_add hc rfl ?_
      refine wp_cv (b := 598) (As := [.int (iI x), .int (iI (i + 1))]) (r := [.int (iI i), .int (iI x), .ref 598]) hc rfl (by rw [cm_155]; rfl) rfl (Nat.le_of_ble_eq_true rfl) (show 598 < 621 by decide) (by rw [cm_155]; rfl) (ev_mono (sg_155 (d := 0) (rfl) (by omega) (by omega) (by omega) (by omega)) (by omega)) ?_
      show mm_wp _ _ (55, [some (.ref 598), some (.int (iI x)), some (.int (iI p)), some (.int (iI to)), some (.int (iI i))], [.int (iI ((s2 599) (16 + 10 * x + (i + 1)))), .int (iI i), .int (iI x), .ref 598], MX L t s2 l) _
      refine wp_cv (b := 598) (As := [.int (iI x), .int (iI i), .int (iI ((s2 599) (16 + 10 * x + (i + 1))))]) (r := []) hc rfl (by rw [cm_216]; rfl) rfl (Nat.le_of_ble_eq_true rfl) (show 598 < 621 by decide) (by rw [cm_216]; rfl) (ev_mono (sp_216 (d := 0) (L := L) (t := t) (s := s2) (l := l) (by omega) (by omega) (by omega) (by omega)) (by omega)) ?_
      obtain ⟨s3_, es3_⟩ : ∃ q, q = up s2 599 (16 + 10 * x + i) ((s2 599) (16 + 10 * x + (i + 1))) := ⟨_, rfl⟩
      rw [← es3_]
      show mm_wp _ _ (58, [some (.ref 598), some (.int (iI x)), some (.int (iI p)), some (.int (iI to)), some (.int (iI i))], [], MX L t s3_ l) _
      refine wi_inc (L' := [some (.ref 598), some (.int (iI x)), some (.int (iI p)), some (.int (iI to)), some (.int (iI (i + 1)))]) hc rfl rfl rfl ?_
      refine wi_go hc rfl ?_
      refine ih (by omega) (by omega) s3_ (fun c hc9_ => ((congrFun es3_ c).trans (up_cc (by omega))).trans (hF c (by omega))) (fun k => ?_)
      rw [es3_]
      by_cases q : k = 16 + 10 * x + i
      · rw [up_e q, hI, if_neg (by omega), if_neg (by omega), if_neg (by omega), if_neg (by omega), if_neg (by omega), if_pos (by omega)]
        congr 1
        omega
      · rw [up_k q, hI k]
        (repeat' split) <;> first | rfl | omega
  refine loop28_ p (by omega) (by omega) s2_ (fun c hc9_ => ((congrFun es2_ c).trans (up_cc (by omega))).trans ((congrFun es1_ c).trans (up_cc (by omega)))) (fun k => ?_)
  rw [es2_]
  by_cases q : k = 13 + x
  · rw [up_e q, if_neg (by omega), if_pos q, q]
  · rw [up_k q, es1_]
    by_cases q2 : k = 46 + 6 * A (16 + 10 * x + p) + 5
    · rw [up_e q2, if_pos q2]
    · rw [up_k q2, if_neg q2, if_neg q, if_neg (by omega), hA]
theorem sp_218 {d L t : Nat} {s l : Nat → Int → Int} {A : Int → Int} (hA : s 599 = A) {b x p : Int} (hb0 : 0 ≤ b) (hb1 : b < 10) (hx0 : 0 ≤ x) (hx1 : x < 3) (hp0 : 0 ≤ p) (hp1 : p ≤ A (13 + x)) (hm : A (13 + x) ≤ 9) : ∃ s1, mm_Ev mm_ct mm_CM (d + 2) 218 [.ref 598, .int (iI b), .int (iI x), .int (iI p)] (MX L t s l) (none, MX L t s1 l) ∧ (∀ c, c ≠ 599 → s1 c = s c) ∧ s1 599 = setF A b x p := by
  have hc : (mm_CM 218).2.2.2.2.2.2.2 = mm_cf cd_218 := by rw [cm_218]; rfl
  refine ev_xs ?_
  refine ev_to (mx := 5) (by rw [cm_218]; decide) (by rw [cm_218]; rfl) (by show 4 ≤ _; decide) ?_
  show mm_wp _ _ (0, [some (.ref 598), some (.int (iI b)), some (.int (iI x)), some (.int (iI p)), none], [], MX L t s l) (fun res => ∃ s1, res = (none, MX L t s1 l) ∧ (∀ c, c ≠ 599 → s1 c = s c) ∧ s1 599 = setF A b x p)
  refine wi_a1 hc rfl rfl ?_
  refine wi_gr (w := 599) hc rfl rfl (by decide) (Nat.le_of_ble_eq_true rfl) rfl ?_
  refine wi_bi hc rfl rfl ?_
  refine wi_i1 hc rfl rfl ?_
  refine wi_add hc rfl ?_
  refine wi_ildv (N := 3642) hc rfl rfl (by decide) (by decide) (by omega) (by omega) (v := A (13 + x)) (congrFun (hA) _) ?_
  refine wi_is2 (L' := [some (.ref 598), some (.int (iI b)), some (.int (iI x)), some (.int (iI p)), some (.int (iI (A (13 + x))))]) hc rfl (Nat.le_of_ble_eq_true rfl) rfl ?_
  have loop11_ : ∀ i : Int, p ≤ i → i ≤ A (13 + x) → ∀ s2 : Nat → Int → Int, (∀ c, c ≠ 599 → s2 c = s c) → (∀ k, s2 599 k = if 16 + 10 * x + i < k ∧ k ≤ 16 + 10 * x + A (13 + x) then A (k - 1) else A k) → mm_wp (mm_Ev mm_ct mm_CM (d + 1)) 218 (11, [some (.ref 598), some (.int (iI b)), some (.int (iI x)), some (.int (iI p)), some (.int (iI i))], [], MX L t s2 l) (fun res => ∃ s1, res = (none, MX L t s1 l) ∧ (∀ c, c ≠ 599 → s1 c = s c) ∧ s1 599 = setF A b x p) := by
    refine dn_ind' ?_
    intro i hi ih hpi s2 hF hI
    have hm2 : s2 599 (13 + x) = A (13 + x) := by rw [hI, if_neg (by omega)]
    refine wi_i2 hc rfl rfl ?_
    refine wi_i1 hc rfl rfl ?_
    refine wi_cle hc rfl ⟨by omega, by omega⟩ ⟨by omega, by omega⟩ (fun h1_ => ?_) (fun h1_ => ?_)
    · refine wi_a1 hc rfl rfl ?_
      refine wi_i1 hc rfl rfl ?_
      refine wi_i1 hc rfl rfl ?_
      refine wi_i1 hc rfl rfl ?_
      refine wp_cv (b := 598) (As := [.int (iI x), .int (iI p), .int (iI b)]) (r := []) hc rfl (by rw [cm_216]; rfl) rfl (Nat.le_of_ble_eq_true rfl) (show 598 < 621 by decide) (by rw [cm_216]; rfl) (ev_mono (sp_216 (d := 0) (L := L) (t := t) (s := s2) (l := l) (by omega) (by omega) (by omega) (by omega)) (by omega)) ?_
      obtain ⟨s1_, es1_⟩ : ∃ q, q = up s2 599 (16 + 10 * x + p) b := ⟨_, rfl⟩
      rw [← es1_]
      show mm_wp _ _ (46, [some (.ref 598), some (.int (iI b)), some (.int (iI x)), some (.int (iI p)), some (.int (iI i))], [], MX L t s1_ l) _
      refine wi_a1 hc rfl rfl ?_
      refine wi_gr (w := 599) hc rfl rfl (by decide) (Nat.le_of_ble_eq_true rfl) rfl ?_
      refine wi_bi hc rfl rfl ?_
      refine wi_i1 hc rfl rfl ?_
      refine wi_add hc rfl ?_
      refine wi_dup2 hc rfl ?_
      refine wi_ildv (N := 3642) hc rfl rfl (by decide) (by decide) (by omega) (by omega) (v := A (13 + x)) (((congrFun (congrFun es1_ _) _).trans (up_k (by omega))).trans (hm2)) ?_
      refine wi_ic hc rfl ?_
      refine wi_add hc rfl ?_
      refine wi_ist (N := 3642) hc rfl rfl (by decide) (by decide) (by omega) (by omega) ?_
      obtain ⟨s2_, es2_⟩ : ∃ q, q = up s1_ 599 (13 + x) ((A (13 + x)) + 1) := ⟨_, rfl⟩
      rw [← es2_]
      refine wi_a1 hc rfl rfl ?_
      refine wi_i1 hc rfl rfl ?_
      refine wi_ic hc rfl ?_
      refine wi_i1 hc rfl rfl ?_
      refine wp_cv (b := 598) (As := [.int (iI b), .int (iI 5), .int (iI x)]) (r := []) hc rfl (by rw [cm_154]; rfl) rfl (Nat.le_of_ble_eq_true rfl) (show 598 < 621 by decide) (by rw [cm_154]; rfl) (ev_mono (sp_154 (d := 0) (L := L) (t := t) (s := s2_) (l := l) (by omega) (by omega) (by omega) (by omega)) (by omega)) ?_
      obtain ⟨s3_, es3_⟩ : ∃ q, q = up s2_ 599 (46 + 6 * b + 5) x := ⟨_, rfl⟩
      rw [← es3_]
      show mm_wp _ _ (66, [some (.ref 598), some (.int (iI b)), some (.int (iI x)), some (.int (iI p)), some (.int (iI i))], [], MX L t s3_ l) _
      refine wi_rv hc rfl (by rw [cm_218]; rfl) ?_
      have ei : i = p := by omega
      refine ⟨s3_, rfl, fun c hc9_ => ((congrFun es3_ c).trans (up_cc (by omega))).trans (((congrFun es2_ c).trans (up_cc (by omega))).trans (((congrFun es1_ c).trans (up_cc (by omega))).trans (hF c (by omega)))), funext (fun k => ?_)⟩
      unfold setF
      rw [es3_]
      by_cases q : k = 46 + 6 * b + 5
      · rw [up_e q, if_pos q]
      · rw [up_k q, if_neg q, es2_]
        by_cases q2 : k = 13 + x
        · rw [up_e q2, if_pos q2, q2]
        · rw [up_k q2, if_neg q2, es1_]
          by_cases q3 : k = 16 + 10 * x + p
          · rw [up_e q3, if_neg (by omega), if_pos q3]
          · rw [up_k q3, hI k]
            (repeat' split) <;> first | rfl | omega
    · refine wi_a1 hc rfl rfl ?_
      refine wi_i1 hc rfl rfl ?_
      refine wi_i2 hc rfl rfl ?_
      refine wi_a1 hc rfl rfl ?_
      refine wi_i1 hc rfl rfl ?_
      refine wi_i2 hc rfl rfl ?_
      refine wi_ic hc rfl ?_
      refine wi_sub hc rfl ?_
      refine wp_cv (b := 598) (As := [.int (iI x), .int (iI (i - 1))]) (r := [.int (iI i), .int (iI x), .ref 598]) hc rfl (by rw [cm_155]; rfl) rfl (Nat.le_of_ble_eq_true rfl) (show 598 < 621 by decide) (by rw [cm_155]; rfl) (ev_mono (sg_155 (d := 0) (rfl) (by omega) (by omega) (by omega) (by omega)) (by omega)) ?_
      show mm_wp _ _ (30, [some (.ref 598), some (.int (iI b)), some (.int (iI x)), some (.int (iI p)), some (.int (iI i))], [.int (iI ((s2 599) (16 + 10 * x + (i - 1)))), .int (iI i), .int (iI x), .ref 598], MX L t s2 l) _
      refine wp_cv (b := 598) (As := [.int (iI x), .int (iI i), .int (iI ((s2 599) (16 + 10 * x + (i - 1))))]) (r := []) hc rfl (by rw [cm_216]; rfl) rfl (Nat.le_of_ble_eq_true rfl) (show 598 < 621 by decide) (by rw [cm_216]; rfl) (ev_mono (sp_216 (d := 0) (L := L) (t := t) (s := s2) (l := l) (by omega) (by omega) (by omega) (by omega)) (by omega)) ?_
      obtain ⟨s4_, es4_⟩ : ∃ q, q = up s2 599 (16 + 10 * x + i) ((s2 599) (16 + 10 * x + (i - 1))) := ⟨_, rfl⟩
      rw [← es4_]
      show mm_wp _ _ (33, [some (.ref 598), some (.int (iI b)), some (.int (iI x)), some (.int (iI p)), some (.int (iI i))], [], MX L t s4_ l) _
      refine wi_inc (L' := [some (.ref 598), some (.int (iI b)), some (.int (iI x)), some (.int (iI p)), some (.int (iI (i + (-1))))]) hc rfl rfl rfl ?_
      refine wi_go hc rfl ?_
      refine ih (by omega) (by omega) s4_ (fun c hc9_ => ((congrFun es4_ c).trans (up_cc (by omega))).trans (hF c (by omega))) (fun k => ?_)
      rw [es4_]
      by_cases q : k = 16 + 10 * x + i
      · rw [up_e q, hI, if_neg (by omega), if_pos (by omega)]
        congr 1
        omega
      · rw [up_k q, hI k]
        (repeat' split) <;> first | rfl | omega
  refine loop11_ (A (13 + x)) (by omega) (by omega) s (fun c _ => rfl) (fun k => ?_)
  rw [if_neg (by omega), hA]
theorem sp_219 {d L t : Nat} {s l : Nat → Int → Int} {A : Int → Int} (hA : s 599 = A) {x p : Int} (hx0 : 0 ≤ x) (hx1 : x < 3) (hp0 : 0 ≤ p) (hp1 : p < 9) : ∃ s1, mm_Ev mm_ct mm_CM (d + 2) 219 [.ref 598, .int (iI x), .int (iI p)] (MX L t s l) (none, MX L t s1 l) ∧ (∀ c, c ≠ 599 → s1 c = s c) ∧ s1 599 = exF A x p := by
  have hc : (mm_CM 219).2.2.2.2.2.2.2 = mm_cf cd_219 := by rw [cm_219]; rfl
  refine ev_xs ?_
  refine ev_to (mx := 4) (by rw [cm_219]; decide) (by rw [cm_219]; rfl) (by show 3 ≤ _; decide) ?_
  show mm_wp _ _ (0, [some (.ref 598), some (.int (iI x)), some (.int (iI p)), none], [], MX L t s l) (fun res => ∃ s1, res = (none, MX L t s1 l) ∧ (∀ c, c ≠ 599 → s1 c = s c) ∧ s1 599 = exF A x p)
  refine wi_a1 hc rfl rfl ?_
  refine wi_i1 hc rfl rfl ?_
  refine wi_i1 hc rfl rfl ?_
  refine wp_cv (b := 598) (As := [.int (iI x), .int (iI p)]) (r := []) hc rfl (by rw [cm_155]; rfl) rfl (Nat.le_of_ble_eq_true rfl) (show 598 < 621 by decide) (by rw [cm_155]; rfl) (ev_mono (sg_155 (d := 0) (hA) (by omega) (by omega) (by omega) (by omega)) (by omega)) ?_
  show mm_wp _ _ (6, [some (.ref 598), some (.int (iI x)), some (.int (iI p)), none], [.int (iI (A (16 + 10 * x + p)))], MX L t s l) _
  refine wi_is1 (L' := [some (.ref 598), some (.int (iI x)), some (.int (iI p)), some (.int (iI (A (16 + 10 * x + p))))]) hc rfl (Nat.le_of_ble_eq_true rfl) rfl ?_
  refine wi_a1 hc rfl rfl ?_
  refine wi_i1 hc rfl rfl ?_
  refine wi_i1 hc rfl rfl ?_
  refine wi_a1 hc rfl rfl ?_
  refine wi_i1 hc rfl rfl ?_
  refine wi_i1 hc rfl rfl ?_
  refine wi_ic hc rfl ?_
  refine wi_add hc rfl ?_
  refine wp_cv (b := 598) (As := [.int (iI x), .int (iI (p + 1))]) (r := [.int (iI p), .int (iI x), .ref 598]) hc rfl (by rw [cm_155]; rfl) rfl (Nat.le_of_ble_eq_true rfl) (show 598 < 621 by decide) (by rw [cm_155]; rfl) (ev_mono (sg_155 (d := 0) (hA) (by omega) (by omega) (by omega) (by omega)) (by omega)) ?_
  show mm_wp _ _ (18, [some (.ref 598), some (.int (iI x)), some (.int (iI p)), some (.int (iI (A (16 + 10 * x + p))))], [.int (iI (A (16 + 10 * x + (p + 1)))), .int (iI p), .int (iI x), .ref 598], MX L t s l) _
  refine wp_cv (b := 598) (As := [.int (iI x), .int (iI p), .int (iI (A (16 + 10 * x + (p + 1))))]) (r := []) hc rfl (by rw [cm_216]; rfl) rfl (Nat.le_of_ble_eq_true rfl) (show 598 < 621 by decide) (by rw [cm_216]; rfl) (ev_mono (sp_216 (d := 0) (L := L) (t := t) (s := s) (l := l) (by omega) (by omega) (by omega) (by omega)) (by omega)) ?_
  obtain ⟨s1_, es1_⟩ : ∃ q, q = up s 599 (16 + 10 * x + p) (A (16 + 10 * x + (p + 1))) := ⟨_, rfl⟩
  rw [← es1_]
  show mm_wp _ _ (21, [some (.ref 598), some (.int (iI x)), some (.int (iI p)), some (.int (iI (A (16 + 10 * x + p))))], [], MX L t s1_ l) _
  refine wi_a1 hc rfl rfl ?_
  refine wi_i1 hc rfl rfl ?_
  refine wi_i1 hc rfl rfl ?_
  refine wi_ic hc rfl ?_
  refine wi_add hc rfl ?_
  refine wi_i1 hc rfl rfl ?_
  refine wp_cv (b := 598) (As := [.int (iI x), .int (iI (p + 1)), .int (iI (A (16 + 10 * x + p)))]) (r := []) hc rfl (by rw [cm_216]; rfl) rfl (Nat.le_of_ble_eq_true rfl) (show 598 < 621 by decide) (by rw [cm_216]; rfl) (ev_mono (sp_216 (d := 0) (L := L) (t := t) (s := s1_) (l := l) (by omega) (by omega) (by omega) (by omega)) (by omega)) ?_
  obtain ⟨s2_, es2_⟩ : ∃ q, q = up s1_ 599 (16 + 10 * x + (p + 1)) (A (16 + 10 * x + p)) := ⟨_, rfl⟩
  rw [← es2_]
  show mm_wp _ _ (30, [some (.ref 598), some (.int (iI x)), some (.int (iI p)), some (.int (iI (A (16 + 10 * x + p))))], [], MX L t s2_ l) _
  refine wi_rv hc rfl (by rw [cm_219]; rfl) ?_
  refine ⟨s2_, rfl, fun c hc9_ => ((congrFun es2_ c).trans (up_cc (by omega))).trans ((congrFun es1_ c).trans (up_cc (by omega))), funext (fun k => ?_)⟩
  unfold exF
  rw [es2_]
  by_cases q : k = 16 + 10 * x + (p + 1)
  · rw [up_e q, if_neg (by omega), if_pos (by omega)]
    congr 1
    omega
  · rw [up_k q, es1_]
    by_cases q2 : k = 16 + 10 * x + p
    · rw [up_e q2, if_pos q2]
      congr 1
      omega
    · rw [up_k q2, if_neg q2, if_neg (by omega), hA]
theorem sp_220 {d L t : Nat} {s l : Nat → Int → Int} {A : Int → Int} (hA : s 599 = A) {b y x : Int} (h9 : 0 ≤ A 9) (h91 : A 9 < 1000000) : ∃ s1, mm_Ev mm_ct mm_CM (d + 1) 220 [.ref 598, .int (iI b), .int (iI y), .int (iI x)] (MX L t s l) (none, MX L t s1 l) ∧ (∀ c, c ≠ 599 → s1 c = s c) ∧ s1 599 = wrF A b y x := by
  have hc : (mm_CM 220).2.2.2.2.2.2.2 = mm_cf cd_220 := by rw [cm_220]; rfl
  refine ev_xs ?_
  refine ev_to (mx := 5) (by rw [cm_220]; decide) (by rw [cm_220]; rfl) (by show 4 ≤ _; decide) ?_
  show mm_wp _ _ (0, [some (.ref 598), some (.int (iI b)), some (.int (iI y)), some (.int (iI x)), none], [], MX L t s l) (fun res => ∃ s1, res = (none, MX L t s1 l) ∧ (∀ c, c ≠ 599 → s1 c = s c) ∧ s1 599 = wrF A b y x)
  refine wi_si hc rfl rfl ?_
  refine wi_ic hc rfl ?_
  refine wi_a1 hc rfl rfl ?_
  refine wi_gr (w := 599) hc rfl rfl (by decide) (Nat.le_of_ble_eq_true rfl) rfl ?_
  refine wi_bi hc rfl rfl ?_
  refine wi_ildv (N := 3642) hc rfl rfl (by decide) (by decide) (by omega) (by omega) (v := A 9) (congrFun (hA) _) ?_
  refine wi_si hc rfl rfl ?_
  refine wi_remp hc rfl ⟨by omega, by omega⟩ ⟨by decide, by decide⟩ (by omega) (by omega) ?_
  refine wi_mul hc rfl ?_
  refine wi_add hc rfl ?_
  refine wi_is2 (L' := [some (.ref 598), some (.int (iI b)), some (.int (iI y)), some (.int (iI x)), some (.int (iI (1594 + (4 * ((A 9) % 512)))))]) hc rfl (Nat.le_of_ble_eq_true rfl) rfl ?_
  refine wi_a1 hc rfl rfl ?_
  refine wi_gr (w := 599) hc rfl rfl (by decide) (Nat.le_of_ble_eq_true rfl) rfl ?_
  refine wi_i2 hc rfl rfl ?_
  refine wi_i1 hc rfl rfl ?_
  refine wi_ist (N := 3642) hc rfl rfl (by decide) (by decide) (by omega) (by omega) ?_
  obtain ⟨s1_, es1_⟩ : ∃ q, q = up s 599 (1594 + (4 * ((A 9) % 512))) b := ⟨_, rfl⟩
  rw [← es1_]
  refine wi_a1 hc rfl rfl ?_
  refine wi_gr (w := 599) hc rfl rfl (by decide) (Nat.le_of_ble_eq_true rfl) rfl ?_
  refine wi_i2 hc rfl rfl ?_
  refine wi_ic hc rfl ?_
  refine wi_add hc rfl ?_
  refine wi_i1 hc rfl rfl ?_
  refine wi_ist (N := 3642) hc rfl rfl (by decide) (by decide) (by omega) (by omega) ?_
  obtain ⟨s2_, es2_⟩ : ∃ q, q = up s1_ 599 ((1594 + (4 * ((A 9) % 512))) + 1) y := ⟨_, rfl⟩
  rw [← es2_]
  refine wi_a1 hc rfl rfl ?_
  refine wi_gr (w := 599) hc rfl rfl (by decide) (Nat.le_of_ble_eq_true rfl) rfl ?_
  refine wi_i2 hc rfl rfl ?_
  refine wi_ic hc rfl ?_
  refine wi_add hc rfl ?_
  refine wi_i1 hc rfl rfl ?_
  refine wi_ist (N := 3642) hc rfl rfl (by decide) (by decide) (by omega) (by omega) ?_
  obtain ⟨s3_, es3_⟩ : ∃ q, q = up s2_ 599 ((1594 + (4 * ((A 9) % 512))) + 2) x := ⟨_, rfl⟩
  rw [← es3_]
  refine wi_a1 hc rfl rfl ?_
  refine wi_gr (w := 599) hc rfl rfl (by decide) (Nat.le_of_ble_eq_true rfl) rfl ?_
  refine wi_i2 hc rfl rfl ?_
  refine wi_ic hc rfl ?_
  refine wi_add hc rfl ?_
  refine wi_a1 hc rfl rfl ?_
  refine wi_gr (w := 599) hc rfl rfl (by decide) (Nat.le_of_ble_eq_true rfl) rfl ?_
  refine wi_ic hc rfl ?_
  refine wi_ildv (N := 3642) hc rfl rfl (by decide) (by decide) (by omega) (by omega) (v := A 1) (((congrFun (congrFun es3_ _) _).trans (up_k (by omega))).trans (((congrFun (congrFun es2_ _) _).trans (up_k (by omega))).trans (((congrFun (congrFun es1_ _) _).trans (up_k (by omega))).trans (congrFun (hA) _)))) ?_
  refine wi_ist (N := 3642) hc rfl rfl (by decide) (by decide) (by omega) (by omega) ?_
  obtain ⟨s4_, es4_⟩ : ∃ q, q = up s3_ 599 ((1594 + (4 * ((A 9) % 512))) + 3) (A 1) := ⟨_, rfl⟩
  rw [← es4_]
  refine wi_a1 hc rfl rfl ?_
  refine wi_gr (w := 599) hc rfl rfl (by decide) (Nat.le_of_ble_eq_true rfl) rfl ?_
  refine wi_bi hc rfl rfl ?_
  refine wi_dup2 hc rfl ?_
  refine wi_ildv (N := 3642) hc rfl rfl (by decide) (by decide) (by omega) (by omega) (v := A 9) (((congrFun (congrFun es4_ _) _).trans (up_k (by omega))).trans (((congrFun (congrFun es3_ _) _).trans (up_k (by omega))).trans (((congrFun (congrFun es2_ _) _).trans (up_k (by omega))).trans (((congrFun (congrFun es1_ _) _).trans (up_k (by omega))).trans (congrFun (hA) _))))) ?_
  refine wi_ic hc rfl ?_
  refine wi_add hc rfl ?_
  refine wi_ist (N := 3642) hc rfl rfl (by decide) (by decide) (by omega) (by omega) ?_
  obtain ⟨s5_, es5_⟩ : ∃ q, q = up s4_ 599 9 ((A 9) + 1) := ⟨_, rfl⟩
  rw [← es5_]
  refine wi_rv hc rfl (by rw [cm_220]; rfl) ?_
  refine ⟨s5_, rfl, fun c hc9_ => ((congrFun es5_ c).trans (up_cc (by omega))).trans (((congrFun es4_ c).trans (up_cc (by omega))).trans (((congrFun es3_ c).trans (up_cc (by omega))).trans (((congrFun es2_ c).trans (up_cc (by omega))).trans ((congrFun es1_ c).trans (up_cc (by omega)))))), funext (fun k => ?_)⟩
  unfold wrF
  rw [es5_]
  by_cases q0 : k = 9
  · rw [up_e q0]; (repeat' split) <;> first | rfl | omega
  · skip
    rw [up_k q0, es4_]
    by_cases q1 : k = (1594 + (4 * ((A 9) % 512))) + 3
    · rw [up_e q1]; (repeat' split) <;> first | rfl | omega
    · skip
      rw [up_k q1, es3_]
      by_cases q2 : k = (1594 + (4 * ((A 9) % 512))) + 2
      · rw [up_e q2]; (repeat' split) <;> first | rfl | omega
      · skip
        rw [up_k q2, es2_]
        by_cases q3 : k = (1594 + (4 * ((A 9) % 512))) + 1
        · rw [up_e q3]; (repeat' split) <;> first | rfl | omega
        · skip
          rw [up_k q3, es1_]
          by_cases q4 : k = 1594 + (4 * ((A 9) % 512))
          · rw [up_e q4]; (repeat' split) <;> first | rfl | omega
          · skip
            rw [up_k q4, hA]; (repeat' split) <;> first | rfl | omega
theorem sp_214 {d L t : Nat} {s l : Nat → Int → Int} {A : Int → Int} (hA : s 599 = A) (h70 : 0 ≤ A 7) (h71 : A 7 ≤ 30) : ∃ s1, mm_Ev mm_ct mm_CM (d + 2) 214 [.ref 598] (MX L t s l) (none, MX L t s1 l) ∧ (∀ c, c ≠ 599 → s1 c = s c) ∧ s1 599 = keepF A := by
  have hc : (mm_CM 214).2.2.2.2.2.2.2 = mm_cf cd_214 := by rw [cm_214]; rfl
  refine ev_xs ?_
  refine ev_to (mx := 3) (by rw [cm_214]; decide) (by rw [cm_214]; rfl) (by show 1 ≤ _; decide) ?_
  show mm_wp _ _ (0, [some (.ref 598), none, none], [], MX L t s l) (fun res => ∃ s1, res = (none, MX L t s1 l) ∧ (∀ c, c ≠ 599 → s1 c = s c) ∧ s1 599 = keepF A)
  have join58_ : ∀ (s3 : Nat → Int → Int) (q1 q2 : Option Value), (∀ c, c ≠ 599 → s3 c = s c) → (∀ k, s3 599 k = kpP A k) → mm_wp (mm_Ev mm_ct mm_CM (d + 1)) 214 (58, [some (.ref 598), q1, q2], [], MX L t s3 l) (fun res => ∃ s1, res = (none, MX L t s1 l) ∧ (∀ c, c ≠ 599 → s1 c = s c) ∧ s1 599 = keepF A) := by
    intro s3 q1 q2 hF3 hK
    have hn : kpN A = if A 7 = 30 then 29 else A 7 := rfl
    have hn0 : 0 ≤ kpN A ∧ kpN A ≤ 29 := by rw [hn]; split <;> omega
    have hk7 : s3 599 7 = kpN A := by rw [hK]; unfold kpP; rw [if_neg (by omega), if_pos rfl]
    have hk3 : ∀ j, j < 154 → j ≠ 7 → s3 599 j = A j := fun j h1 h2 => by rw [hK]; unfold kpP; rw [if_neg (by omega), if_neg h2]
    refine wi_si hc rfl rfl ?_
    refine wi_bi hc rfl rfl ?_
    refine wi_a1 hc rfl rfl ?_
    refine wi_gr (w := 599) hc rfl rfl (by decide) (Nat.le_of_ble_eq_true rfl) rfl ?_
    refine wi_bi hc rfl rfl ?_
    refine wi_ildv (N := 3642) hc rfl rfl (by decide) (by decide) (by omega) (by omega) (v := kpN A) (hk7) ?_
    refine wi_mul hc rfl ?_
    refine wi_add hc rfl ?_
    refine wi_is1 (L' := [some (.ref 598), some (.int (iI (154 + (48 * (kpN A))))), q2]) hc rfl (Nat.le_of_ble_eq_true rfl) rfl ?_
    refine wi_a1 hc rfl rfl ?_
    refine wi_gr (w := 599) hc rfl rfl (by decide) (Nat.le_of_ble_eq_true rfl) rfl ?_
    refine wi_i1 hc rfl rfl ?_
    refine wi_a1 hc rfl rfl ?_
    refine wi_gr (w := 599) hc rfl rfl (by decide) (Nat.le_of_ble_eq_true rfl) rfl ?_
    refine wi_ic hc rfl ?_
    refine wi_ildv (N := 3642) hc rfl rfl (by decide) (by decide) (by omega) (by omega) (v := A 0) ((hk3 0 (by omega) (by omega))) ?_
    refine wi_ist (N := 3642) hc rfl rfl (by decide) (by decide) (by omega) (by omega) ?_
    obtain ⟨s1_, es1_⟩ : ∃ q, q = up s3 599 (154 + (48 * (kpN A))) (A 0) := ⟨_, rfl⟩
    rw [← es1_]
    refine wi_a1 hc rfl rfl ?_
    refine wi_gr (w := 599) hc rfl rfl (by decide) (Nat.le_of_ble_eq_true rfl) rfl ?_
    refine wi_i1 hc rfl rfl ?_
    refine wi_ic hc rfl ?_
    refine wi_add hc rfl ?_
    refine wi_a1 hc rfl rfl ?_
    refine wi_gr (w := 599) hc rfl rfl (by decide) (Nat.le_of_ble_eq_true rfl) rfl ?_
    refine wi_ic hc rfl ?_
    refine wi_ildv (N := 3642) hc rfl rfl (by decide) (by decide) (by omega) (by omega) (v := A 1) (((congrFun (congrFun es1_ _) _).trans (up_k (by omega))).trans ((hk3 1 (by omega) (by omega)))) ?_
    refine wi_ist (N := 3642) hc rfl rfl (by decide) (by decide) (by omega) (by omega) ?_
    obtain ⟨s2_, es2_⟩ : ∃ q, q = up s1_ 599 ((154 + (48 * (kpN A))) + 1) (A 1) := ⟨_, rfl⟩
    rw [← es2_]
    refine wi_a1 hc rfl rfl ?_
    refine wi_gr (w := 599) hc rfl rfl (by decide) (Nat.le_of_ble_eq_true rfl) rfl ?_
    refine wi_i1 hc rfl rfl ?_
    refine wi_ic hc rfl ?_
    refine wi_add hc rfl ?_
    refine wi_a1 hc rfl rfl ?_
    refine wi_gr (w := 599) hc rfl rfl (by decide) (Nat.le_of_ble_eq_true rfl) rfl ?_
    refine wi_ic hc rfl ?_
    refine wi_ildv (N := 3642) hc rfl rfl (by decide) (by decide) (by omega) (by omega) (v := A 2) (((congrFun (congrFun es2_ _) _).trans (up_k (by omega))).trans (((congrFun (congrFun es1_ _) _).trans (up_k (by omega))).trans ((hk3 2 (by omega) (by omega))))) ?_
    refine wi_ist (N := 3642) hc rfl rfl (by decide) (by decide) (by omega) (by omega) ?_
    obtain ⟨s3_, es3_⟩ : ∃ q, q = up s2_ 599 ((154 + (48 * (kpN A))) + 2) (A 2) := ⟨_, rfl⟩
    rw [← es3_]
    refine wi_a1 hc rfl rfl ?_
    refine wi_gr (w := 599) hc rfl rfl (by decide) (Nat.le_of_ble_eq_true rfl) rfl ?_
    refine wi_i1 hc rfl rfl ?_
    refine wi_ic hc rfl ?_
    refine wi_add hc rfl ?_
    refine wi_a1 hc rfl rfl ?_
    refine wi_gr (w := 599) hc rfl rfl (by decide) (Nat.le_of_ble_eq_true rfl) rfl ?_
    refine wi_ic hc rfl ?_
    refine wi_ildv (N := 3642) hc rfl rfl (by decide) (by decide) (by omega) (by omega) (v := A 4) (((congrFun (congrFun es3_ _) _).trans (up_k (by omega))).trans (((congrFun (congrFun es2_ _) _).trans (up_k (by omega))).trans (((congrFun (congrFun es1_ _) _).trans (up_k (by omega))).trans ((hk3 4 (by omega) (by omega)))))) ?_
    refine wi_ist (N := 3642) hc rfl rfl (by decide) (by decide) (by omega) (by omega) ?_
    obtain ⟨s4_, es4_⟩ : ∃ q, q = up s3_ 599 ((154 + (48 * (kpN A))) + 3) (A 4) := ⟨_, rfl⟩
    rw [← es4_]
    refine wi_a1 hc rfl rfl ?_
    refine wi_gr (w := 599) hc rfl rfl (by decide) (Nat.le_of_ble_eq_true rfl) rfl ?_
    refine wi_i1 hc rfl rfl ?_
    refine wi_ic hc rfl ?_
    refine wi_add hc rfl ?_
    refine wi_a1 hc rfl rfl ?_
    refine wi_gr (w := 599) hc rfl rfl (by decide) (Nat.le_of_ble_eq_true rfl) rfl ?_
    refine wi_bi hc rfl rfl ?_
    refine wi_ildv (N := 3642) hc rfl rfl (by decide) (by decide) (by omega) (by omega) (v := A 9) (((congrFun (congrFun es4_ _) _).trans (up_k (by omega))).trans (((congrFun (congrFun es3_ _) _).trans (up_k (by omega))).trans (((congrFun (congrFun es2_ _) _).trans (up_k (by omega))).trans (((congrFun (congrFun es1_ _) _).trans (up_k (by omega))).trans ((hk3 9 (by omega) (by omega))))))) ?_
    refine wi_ist (N := 3642) hc rfl rfl (by decide) (by decide) (by omega) (by omega) ?_
    obtain ⟨s5_, es5_⟩ : ∃ q, q = up s4_ 599 ((154 + (48 * (kpN A))) + 4) (A 9) := ⟨_, rfl⟩
    rw [← es5_]
    refine wi_ic hc rfl ?_
    refine wi_is1 (L' := [some (.ref 598), some (.int (iI (154 + (48 * (kpN A))))), some (.int (iI 0))]) hc rfl (Nat.le_of_ble_eq_true rfl) rfl ?_
    have loop144_ : ∀ i : Int, i ≤ 33 → 0 ≤ i → ∀ s4 : Nat → Int → Int, (∀ c, c ≠ 599 → s4 c = s c) → (∀ k, s4 599 k = if 154 + 48 * kpN A ≤ k ∧ k < 154 + 48 * kpN A + 5 + i then cur A (k - (154 + 48 * kpN A)) else kpP A k) → mm_wp (mm_Ev mm_ct mm_CM (d + 1)) 214 (144, [some (.ref 598), some (.int (iI (154 + (48 * (kpN A))))), some (.int (iI i))], [], MX L t s4 l) (fun res => ∃ s1, res = (none, MX L t s1 l) ∧ (∀ c, c ≠ 599 → s1 c = s c) ∧ s1 599 = keepF A) := by
      refine up_ind ?_
      intro i hi ih hi0 s4 hF4 hI4
      have hq4 : ∀ j, j < 154 → j ≠ 7 → s4 599 j = A j := fun j h1 h2 => by rw [hI4, if_neg (by omega), ← hK, hk3 j h1 h2]
      refine wi_i1 hc rfl rfl ?_
      refine wi_bi hc rfl rfl ?_
      refine wi_cge hc rfl ⟨by omega, by omega⟩ ⟨by decide, by decide⟩ (fun h1_ => ?_) (fun h1_ => ?_)
      · refine wi_ic hc rfl ?_
        refine wi_is1 (L' := [some (.ref 598), some (.int (iI (154 + (48 * (kpN A))))), some (.int (iI 0))]) hc rfl (Nat.le_of_ble_eq_true rfl) rfl ?_
        have loop177_ : ∀ i : Int, i ≤ 10 → 0 ≤ i → ∀ s5 : Nat → Int → Int, (∀ c, c ≠ 599 → s5 c = s c) → (∀ k, s5 599 k = if 154 + 48 * kpN A ≤ k ∧ k < 154 + 48 * kpN A + 38 + i then cur A (k - (154 + 48 * kpN A)) else kpP A k) → mm_wp (mm_Ev mm_ct mm_CM (d + 1)) 214 (177, [some (.ref 598), some (.int (iI (154 + (48 * (kpN A))))), some (.int (iI i))], [], MX L t s5 l) (fun res => ∃ s1, res = (none, MX L t s1 l) ∧ (∀ c, c ≠ 599 → s1 c = s c) ∧ s1 599 = keepF A) := by
          refine up_ind ?_
          intro i hi ih hi0 s5 hF5 hI5
          refine wi_i1 hc rfl rfl ?_
          refine wi_bi hc rfl rfl ?_
          refine wi_cge hc rfl ⟨by omega, by omega⟩ ⟨by decide, by decide⟩ (fun h2_ => ?_) (fun h2_ => ?_)
          · refine wi_a1 hc rfl rfl ?_
            refine wi_gr (w := 599) hc rfl rfl (by decide) (Nat.le_of_ble_eq_true rfl) rfl ?_
            refine wi_bi hc rfl rfl ?_
            refine wi_dup2 hc rfl ?_
            refine wi_ildv (N := 3642) hc rfl rfl (by decide) (by decide) (by omega) (by omega) (v := kpN A) ((by rw [hI5, if_neg (by omega), ← hK]; exact hk7)) ?_
            refine wi_ic hc rfl ?_
            refine wi_add hc rfl ?_
            refine wi_ist (N := 3642) hc rfl rfl (by decide) (by decide) (by omega) (by omega) ?_
            obtain ⟨s6_, es6_⟩ : ∃ q, q = up s5 599 7 ((kpN A) + 1) := ⟨_, rfl⟩
            rw [← es6_]
            refine wi_rv hc rfl (by rw [cm_214]; rfl) ?_
            have e10 : i = 10 := by omega
            refine ⟨s6_, rfl, fun c hc9_ => ((congrFun es6_ c).trans (up_cc (by omega))).trans (hF5 c (by omega)), funext (fun k => ?_)⟩
            unfold keepF
            rw [es6_]
            by_cases q : k = 7
            · rw [up_e q, if_pos q]
            · rw [up_k q, if_neg q, hI5 k]
              (repeat' split) <;> first | rfl | omega
          · refine wi_a1 hc rfl rfl ?_
            refine wi_gr (w := 599) hc rfl rfl (by decide) (Nat.le_of_ble_eq_true rfl) rfl ?_
            refine wi_i1 hc rfl rfl ?_
            refine wi_bi hc rfl rfl ?_
            refine wi_add hc rfl ?_
            refine wi_i1 hc rfl rfl ?_
            refine wi_add hc rfl ?_
            refine wi_a1 hc rfl rfl ?_
            refine wi_i1 hc rfl rfl ?_
            refine wi_ic hc rfl ?_
            refine wp_cv (b := 598) (As := [.int (iI i), .int (iI 5)]) (r := [.int (iI (((154 + (48 * (kpN A))) + 38) + i)), .ref 599]) hc rfl (by rw [cm_153]; rfl) rfl (Nat.le_of_ble_eq_true rfl) (show 598 < 621 by decide) (by rw [cm_153]; rfl) (ev_mono (sg_153 (d := 0) (rfl) (by omega) (by omega) (by omega) (by omega)) (by omega)) ?_
            show mm_wp _ _ (199, [some (.ref 598), some (.int (iI (154 + (48 * (kpN A))))), some (.int (iI i))], [.int (iI ((s5 599) (46 + 6 * i + 5))), .int (iI (((154 + (48 * (kpN A))) + 38) + i)), .ref 599], MX L t s5 l) _
            refine wi_ist (N := 3642) hc rfl rfl (by decide) (by decide) (by omega) (by omega) ?_
            obtain ⟨s7_, es7_⟩ : ∃ q, q = up s5 599 (((154 + (48 * (kpN A))) + 38) + i) ((s5 599) (46 + 6 * i + 5)) := ⟨_, rfl⟩
            rw [← es7_]
            refine wi_inc (L' := [some (.ref 598), some (.int (iI (154 + (48 * (kpN A))))), some (.int (iI (i + 1)))]) hc rfl rfl rfl ?_
            refine wi_go hc rfl ?_
            refine ih (by omega) (by omega) s7_ (fun c hc9_ => ((congrFun es7_ c).trans (up_cc (by omega))).trans (hF5 c (by omega))) (fun k => ?_)
            rw [es7_]
            by_cases q : k = 154 + 48 * kpN A + 38 + i
            · rw [up_e q, if_pos (by omega), hI5, if_neg (by omega), ← hK, hk3 _ (by omega) (by omega)]
              unfold cur
              rw [if_neg (by omega), if_neg (by omega), if_neg (by omega), if_neg (by omega), if_neg (by omega), if_neg (by omega)]
              congr 1
              omega
            · rw [up_k q, hI5 k]
              (repeat' split) <;> first | rfl | omega
        have e33 : i = 33 := by omega
        refine loop177_ 0 (by omega) (by omega) s4 hF4 (fun k => ?_)
        rw [hI4 k]
        (repeat' split) <;> first | rfl | omega
      · refine wi_a1 hc rfl rfl ?_
        refine wi_gr (w := 599) hc rfl rfl (by decide) (Nat.le_of_ble_eq_true rfl) rfl ?_
        refine wi_i1 hc rfl rfl ?_
        refine wi_ic hc rfl ?_
        refine wi_add hc rfl ?_
        refine wi_i1 hc rfl rfl ?_
        refine wi_add hc rfl ?_
        refine wi_a1 hc rfl rfl ?_
        refine wi_gr (w := 599) hc rfl rfl (by decide) (Nat.le_of_ble_eq_true rfl) rfl ?_
        refine wi_bi hc rfl rfl ?_
        refine wi_i1 hc rfl rfl ?_
        refine wi_add hc rfl ?_
        refine wi_ildv (N := 3642) hc rfl rfl (by decide) (by decide) (by omega) (by omega) (v := A (13 + i)) ((hq4 (13 + i) (by omega) (by omega))) ?_
        refine wi_ist (N := 3642) hc rfl rfl (by decide) (by decide) (by omega) (by omega) ?_
        obtain ⟨s8_, es8_⟩ : ∃ q, q = up s4 599 (((154 + (48 * (kpN A))) + 5) + i) (A (13 + i)) := ⟨_, rfl⟩
        rw [← es8_]
        refine wi_inc (L' := [some (.ref 598), some (.int (iI (154 + (48 * (kpN A))))), some (.int (iI (i + 1)))]) hc rfl rfl rfl ?_
        refine wi_go hc rfl ?_
        refine ih (by omega) (by omega) s8_ (fun c hc9_ => ((congrFun es8_ c).trans (up_cc (by omega))).trans (hF4 c (by omega))) (fun k => ?_)
        rw [es8_]
        by_cases q : k = 154 + 48 * kpN A + 5 + i
        · rw [up_e q, if_pos (by omega)]
          unfold cur
          rw [if_neg (by omega), if_neg (by omega), if_neg (by omega), if_neg (by omega), if_neg (by omega), if_pos (by omega)]
          congr 1
          omega
        · rw [up_k q, hI4 k]
          (repeat' split) <;> first | rfl | omega
    refine loop144_ 0 (by omega) (by omega) s5_ (fun c hc9_ => ((congrFun es5_ c).trans (up_cc (by omega))).trans (((congrFun es4_ c).trans (up_cc (by omega))).trans (((congrFun es3_ c).trans (up_cc (by omega))).trans (((congrFun es2_ c).trans (up_cc (by omega))).trans (((congrFun es1_ c).trans (up_cc (by omega))).trans (hF3 c (by omega))))))) (fun k => ?_)
    rw [es5_]
    by_cases q0 : k = (154 + (48 * (kpN A))) + 4
    · rw [up_e q0, if_pos (by omega), q0]
      rw [show ((154 + (48 * (kpN A))) + 4) - (154 + 48 * kpN A) = 4 by omega]
      rfl
    · skip
      rw [up_k q0, es4_]
      by_cases q1 : k = (154 + (48 * (kpN A))) + 3
      · rw [up_e q1, if_pos (by omega), q1]
        rw [show ((154 + (48 * (kpN A))) + 3) - (154 + 48 * kpN A) = 3 by omega]
        rfl
      · skip
        rw [up_k q1, es3_]
        by_cases q2 : k = (154 + (48 * (kpN A))) + 2
        · rw [up_e q2, if_pos (by omega), q2]
          rw [show ((154 + (48 * (kpN A))) + 2) - (154 + 48 * kpN A) = 2 by omega]
          rfl
        · skip
          rw [up_k q2, es2_]
          by_cases q3 : k = (154 + (48 * (kpN A))) + 1
          · rw [up_e q3, if_pos (by omega), q3]
            rw [show ((154 + (48 * (kpN A))) + 1) - (154 + 48 * kpN A) = 1 by omega]
            rfl
          · skip
            rw [up_k q3, es1_]
            by_cases q4 : k = 154 + (48 * (kpN A))
            · rw [up_e q4, if_pos (by omega), q4]
              rw [show (154 + (48 * (kpN A))) - (154 + 48 * kpN A) = 0 by omega]
              rfl
            · skip
              rw [up_k q4, hK k, if_neg (by omega)]
  refine wi_a1 hc rfl rfl ?_
  refine wi_gr (w := 599) hc rfl rfl (by decide) (Nat.le_of_ble_eq_true rfl) rfl ?_
  refine wi_bi hc rfl rfl ?_
  refine wi_ildv (N := 3642) hc rfl rfl (by decide) (by decide) (by omega) (by omega) (v := A 7) (congrFun (hA) _) ?_
  refine wi_bi hc rfl rfl ?_
  refine wi_cne hc rfl ⟨by omega, by omega⟩ ⟨by decide, by decide⟩ (fun h3_ => ?_) (fun h3_ => ?_)
  · refine join58_ s _ _ (fun c _ => rfl) (fun k => ?_)
    rw [hA]
    unfold kpP kpN
    (repeat' split) <;> first | rfl | omega | (rename_i q; rw [q])
  · refine wi_ic hc rfl ?_
    refine wi_is1 (L' := [some (.ref 598), some (.int (iI 0)), none]) hc rfl (Nat.le_of_ble_eq_true rfl) rfl ?_
    have loop14_ : ∀ i : Int, i ≤ 1392 → 0 ≤ i → ∀ s2 : Nat → Int → Int, (∀ c, c ≠ 599 → s2 c = s c) → (∀ k, s2 599 k = if 154 ≤ k ∧ k < 154 + i then A (k + 48) else A k) → mm_wp (mm_Ev mm_ct mm_CM (d + 1)) 214 (14, [some (.ref 598), some (.int (iI i)), none], [], MX L t s2 l) (fun res => ∃ s1, res = (none, MX L t s1 l) ∧ (∀ c, c ≠ 599 → s1 c = s c) ∧ s1 599 = keepF A) := by
      refine up_ind ?_
      intro i hi ih hi0 s2 hF hI
      refine wi_i1 hc rfl rfl ?_
      refine wi_si hc rfl rfl ?_
      refine wi_cge hc rfl ⟨by omega, by omega⟩ ⟨by decide, by decide⟩ (fun h4_ => ?_) (fun h4_ => ?_)
      · refine wi_a1 hc rfl rfl ?_
        refine wi_gr (w := 599) hc rfl rfl (by decide) (Nat.le_of_ble_eq_true rfl) rfl ?_
        refine wi_bi hc rfl rfl ?_
        refine wi_dup2 hc rfl ?_
        refine wi_ildv (N := 3642) hc rfl rfl (by decide) (by decide) (by omega) (by omega) (v := A 7) ((by rw [hI]; exact if_neg (by omega))) ?_
        refine wi_ic hc rfl ?_
        refine wi_sub hc rfl ?_
        refine wi_ist (N := 3642) hc rfl rfl (by decide) (by decide) (by omega) (by omega) ?_
        obtain ⟨s9_, es9_⟩ : ∃ q, q = up s2 599 7 ((A 7) - 1) := ⟨_, rfl⟩
        rw [← es9_]
        refine join58_ s9_ _ _ (fun c hc9_ => ((congrFun es9_ c).trans (up_cc (by omega))).trans (hF c (by omega))) (fun k => ?_)
        rw [es9_]
        unfold kpP kpN
        by_cases q : k = 7
        · rw [up_e q, if_neg (by omega), if_pos q, if_pos (by omega), show A 7 = 30 by omega]; rfl
        · rw [up_k q, hI k]
          (repeat' split) <;> first | rfl | omega
      · refine wi_a1 hc rfl rfl ?_
        refine wi_gr (w := 599) hc rfl rfl (by decide) (Nat.le_of_ble_eq_true rfl) rfl ?_
        refine wi_si hc rfl rfl ?_
        refine wi_i1 hc rfl rfl ?_
        refine wi_add hc rfl ?_
        refine wi_a1 hc rfl rfl ?_
        refine wi_gr (w := 599) hc rfl rfl (by decide) (Nat.le_of_ble_eq_true rfl) rfl ?_
        refine wi_si hc rfl rfl ?_
        refine wi_i1 hc rfl rfl ?_
        refine wi_add hc rfl ?_
        refine wi_ild (N := 3642) hc rfl rfl (by decide) (by decide) (by omega) (by omega) ?_
        refine wi_ist (N := 3642) hc rfl rfl (by decide) (by decide) (by omega) (by omega) ?_
        obtain ⟨s10_, es10_⟩ : ∃ q, q = up s2 599 (154 + i) (s2 599 (202 + i)) := ⟨_, rfl⟩
        rw [← es10_]
        refine wi_inc (L' := [some (.ref 598), some (.int (iI (i + 1))), none]) hc rfl rfl rfl ?_
        refine wi_go hc rfl ?_
        refine ih (by omega) (by omega) s10_ (fun c hc9_ => ((congrFun es10_ c).trans (up_cc (by omega))).trans (hF c (by omega))) (fun k => ?_)
        rw [es10_]
        by_cases q : k = 154 + i
        · rw [up_e q, hI, if_neg (by omega), if_pos (by omega)]
          congr 1
          omega
        · rw [up_k q, hI k]
          (repeat' split) <;> first | rfl | omega
    refine loop14_ 0 (by omega) (by omega) s (fun c _ => rfl) (fun k => ?_)
    rw [if_neg (by omega), hA]
theorem sp_215 {d L t : Nat} {s l : Nat → Int → Int} {A : Int → Int} (hA : s 599 = A) (h70 : 1 ≤ A 7) (h71 : A 7 ≤ 30) (h0 : 0 ≤ A 0 ∧ A 0 ≤ 10) (hX : 0 ≤ A (154 + 48 * (A 7 - 1)) ∧ A (154 + 48 * (A 7 - 1)) ≤ 10) : ∃ s1, mm_Ev mm_ct mm_CM (d + 2) 215 [.ref 598] (MX L t s l) (some (.int (iI (A 7 - 1))), MX L t s1 l) ∧ (∀ c, c ≠ 599 → s1 c = s c) ∧ s1 599 = undoF A := by
  have hc : (mm_CM 215).2.2.2.2.2.2.2 = mm_cf cd_215 := by rw [cm_215]; rfl
  refine ev_xs ?_
  refine ev_to (mx := 3) (by rw [cm_215]; decide) (by rw [cm_215]; rfl) (by show 1 ≤ _; decide) ?_
  show mm_wp _ _ (0, [some (.ref 598), none, none], [], MX L t s l) (fun res => ∃ s1, res = (some (.int (iI (A 7 - 1))), MX L t s1 l) ∧ (∀ c, c ≠ 599 → s1 c = s c) ∧ s1 599 = undoF A)
  refine wi_a1 hc rfl rfl ?_
  refine wi_gr (w := 599) hc rfl rfl (by decide) (Nat.le_of_ble_eq_true rfl) rfl ?_
  refine wi_bi hc rfl rfl ?_
  refine wi_ildv (N := 3642) hc rfl rfl (by decide) (by decide) (by omega) (by omega) (v := A 7) (congrFun (hA) _) ?_
  refine wi_zne hc rfl ⟨by omega, by omega⟩ (fun h1_ => ?_) (fun h1_ => ?_)
  · refine wi_a1 hc rfl rfl ?_
    refine wi_gr (w := 599) hc rfl rfl (by decide) (Nat.le_of_ble_eq_true rfl) rfl ?_
    refine wi_bi hc rfl rfl ?_
    refine wi_dup2 hc rfl ?_
    refine wi_ildv (N := 3642) hc rfl rfl (by decide) (by decide) (by omega) (by omega) (v := A 7) (congrFun (hA) _) ?_
    refine wi_ic hc rfl ?_
    refine wi_sub hc rfl ?_
    refine wi_ist (N := 3642) hc rfl rfl (by decide) (by decide) (by omega) (by omega) ?_
    obtain ⟨s1_, es1_⟩ : ∃ q, q = up s 599 7 ((A 7) - 1) := ⟨_, rfl⟩
    rw [← es1_]
    refine wi_si hc rfl rfl ?_
    refine wi_bi hc rfl rfl ?_
    refine wi_a1 hc rfl rfl ?_
    refine wi_gr (w := 599) hc rfl rfl (by decide) (Nat.le_of_ble_eq_true rfl) rfl ?_
    refine wi_bi hc rfl rfl ?_
    refine wi_ildv (N := 3642) hc rfl rfl (by decide) (by decide) (by omega) (by omega) (v := (A 7) - 1) ((congrFun (congrFun es1_ _) _).trans (up_e (by omega))) ?_
    refine wi_mul hc rfl ?_
    refine wi_add hc rfl ?_
    refine wi_is1 (L' := [some (.ref 598), some (.int (iI (154 + (48 * ((A 7) - 1))))), none]) hc rfl (Nat.le_of_ble_eq_true rfl) rfl ?_
    refine wi_a1 hc rfl rfl ?_
    refine wi_gr (w := 599) hc rfl rfl (by decide) (Nat.le_of_ble_eq_true rfl) rfl ?_
    refine wi_ic hc rfl ?_
    refine wi_a1 hc rfl rfl ?_
    refine wi_gr (w := 599) hc rfl rfl (by decide) (Nat.le_of_ble_eq_true rfl) rfl ?_
    refine wi_i1 hc rfl rfl ?_
    refine wi_ic hc rfl ?_
    refine wi_add hc rfl ?_
    refine wi_ildv (N := 3642) hc rfl rfl (by decide) (by decide) (by omega) (by omega) (v := A (154 + 48 * (A 7 - 1) + 1)) (((congrFun (congrFun es1_ _) _).trans (up_k (by omega))).trans ((congrFun (hA) _).trans (congrArg A (by omega)))) ?_
    refine wi_ist (N := 3642) hc rfl rfl (by decide) (by decide) (by omega) (by omega) ?_
    obtain ⟨s2_, es2_⟩ : ∃ q, q = up s1_ 599 1 (A (154 + 48 * (A 7 - 1) + 1)) := ⟨_, rfl⟩
    rw [← es2_]
    refine wi_a1 hc rfl rfl ?_
    refine wi_gr (w := 599) hc rfl rfl (by decide) (Nat.le_of_ble_eq_true rfl) rfl ?_
    refine wi_ic hc rfl ?_
    refine wi_a1 hc rfl rfl ?_
    refine wi_gr (w := 599) hc rfl rfl (by decide) (Nat.le_of_ble_eq_true rfl) rfl ?_
    refine wi_i1 hc rfl rfl ?_
    refine wi_ic hc rfl ?_
    refine wi_add hc rfl ?_
    refine wi_ildv (N := 3642) hc rfl rfl (by decide) (by decide) (by omega) (by omega) (v := A (154 + 48 * (A 7 - 1) + 2)) (((congrFun (congrFun es2_ _) _).trans (up_k (by omega))).trans (((congrFun (congrFun es1_ _) _).trans (up_k (by omega))).trans ((congrFun (hA) _).trans (congrArg A (by omega))))) ?_
    refine wi_ist (N := 3642) hc rfl rfl (by decide) (by decide) (by omega) (by omega) ?_
    obtain ⟨s3_, es3_⟩ : ∃ q, q = up s2_ 599 2 (A (154 + 48 * (A 7 - 1) + 2)) := ⟨_, rfl⟩
    rw [← es3_]
    refine wi_a1 hc rfl rfl ?_
    refine wi_gr (w := 599) hc rfl rfl (by decide) (Nat.le_of_ble_eq_true rfl) rfl ?_
    refine wi_ic hc rfl ?_
    refine wi_a1 hc rfl rfl ?_
    refine wi_gr (w := 599) hc rfl rfl (by decide) (Nat.le_of_ble_eq_true rfl) rfl ?_
    refine wi_i1 hc rfl rfl ?_
    refine wi_ic hc rfl ?_
    refine wi_add hc rfl ?_
    refine wi_ildv (N := 3642) hc rfl rfl (by decide) (by decide) (by omega) (by omega) (v := A (154 + 48 * (A 7 - 1) + 3)) (((congrFun (congrFun es3_ _) _).trans (up_k (by omega))).trans (((congrFun (congrFun es2_ _) _).trans (up_k (by omega))).trans (((congrFun (congrFun es1_ _) _).trans (up_k (by omega))).trans ((congrFun (hA) _).trans (congrArg A (by omega)))))) ?_
    refine wi_ist (N := 3642) hc rfl rfl (by decide) (by decide) (by omega) (by omega) ?_
    obtain ⟨s4_, es4_⟩ : ∃ q, q = up s3_ 599 4 (A (154 + 48 * (A 7 - 1) + 3)) := ⟨_, rfl⟩
    rw [← es4_]
    refine wi_a1 hc rfl rfl ?_
    refine wi_gr (w := 599) hc rfl rfl (by decide) (Nat.le_of_ble_eq_true rfl) rfl ?_
    refine wi_bi hc rfl rfl ?_
    refine wi_a1 hc rfl rfl ?_
    refine wi_gr (w := 599) hc rfl rfl (by decide) (Nat.le_of_ble_eq_true rfl) rfl ?_
    refine wi_i1 hc rfl rfl ?_
    refine wi_ic hc rfl ?_
    refine wi_add hc rfl ?_
    refine wi_ildv (N := 3642) hc rfl rfl (by decide) (by decide) (by omega) (by omega) (v := A (154 + 48 * (A 7 - 1) + 4)) (((congrFun (congrFun es4_ _) _).trans (up_k (by omega))).trans (((congrFun (congrFun es3_ _) _).trans (up_k (by omega))).trans (((congrFun (congrFun es2_ _) _).trans (up_k (by omega))).trans (((congrFun (congrFun es1_ _) _).trans (up_k (by omega))).trans ((congrFun (hA) _).trans (congrArg A (by omega))))))) ?_
    refine wi_ist (N := 3642) hc rfl rfl (by decide) (by decide) (by omega) (by omega) ?_
    obtain ⟨s5_, es5_⟩ : ∃ q, q = up s4_ 599 9 (A (154 + 48 * (A 7 - 1) + 4)) := ⟨_, rfl⟩
    rw [← es5_]
    refine wi_ic hc rfl ?_
    refine wi_is1 (L' := [some (.ref 598), some (.int (iI (154 + (48 * ((A 7) - 1))))), some (.int (iI 0))]) hc rfl (Nat.le_of_ble_eq_true rfl) rfl ?_
    have loop97_ : ∀ i : Int, i ≤ 33 → 0 ≤ i → ∀ s4 : Nat → Int → Int, (∀ c, c ≠ 599 → s4 c = s c) → (∀ k, s4 599 k = if k = 7 then A 7 - 1 else if k = 1 then A (154 + 48 * (A 7 - 1) + 1) else if k = 2 then A (154 + 48 * (A 7 - 1) + 2) else if k = 4 then A (154 + 48 * (A 7 - 1) + 3) else if k = 9 then A (154 + 48 * (A 7 - 1) + 4) else if 13 ≤ k ∧ k < 13 + i then A (154 + 48 * (A 7 - 1) + 5 + (k - 13)) else A k) → mm_wp (mm_Ev mm_ct mm_CM (d + 1)) 215 (97, [some (.ref 598), some (.int (iI (154 + 48 * (A 7 - 1)))), some (.int (iI i))], [], MX L t s4 l) (fun res => ∃ s1, res = (some (.int (iI (A 7 - 1))), MX L t s1 l) ∧ (∀ c, c ≠ 599 → s1 c = s c) ∧ s1 599 = undoF A) := by
      refine up_ind ?_
      intro i hi ih hi0 s4 hF4 hI4
      refine wi_i1 hc rfl rfl ?_
      refine wi_bi hc rfl rfl ?_
      refine wi_cge hc rfl ⟨by omega, by omega⟩ ⟨by decide, by decide⟩ (fun h2_ => ?_) (fun h2_ => ?_)
      · refine wi_ic hc rfl ?_
        refine wi_is1 (L' := [some (.ref 598), some (.int (iI (154 + 48 * (A 7 - 1)))), some (.int (iI 0))]) hc rfl (Nat.le_of_ble_eq_true rfl) rfl ?_
        have loop130_ : ∀ i : Int, i ≤ A 0 → 0 ≤ i → ∀ s5 : Nat → Int → Int, (∀ c, c ≠ 599 → s5 c = s c) → (∀ k, s5 599 k = if k = 7 then A 7 - 1 else if k = 1 then A (154 + 48 * (A 7 - 1) + 1) else if k = 2 then A (154 + 48 * (A 7 - 1) + 2) else if k = 4 then A (154 + 48 * (A 7 - 1) + 3) else if k = 9 then A (154 + 48 * (A 7 - 1) + 4) else if 13 ≤ k ∧ k < 46 then A (154 + 48 * (A 7 - 1) + 5 + (k - 13)) else if (k - 51) % 6 = 0 ∧ 51 ≤ k ∧ k < 51 + 6 * i then (if (k - 51) / 6 < A (154 + 48 * (A 7 - 1)) then A (154 + 48 * (A 7 - 1) + 38 + (k - 51) / 6) else 3) else A k) → mm_wp (mm_Ev mm_ct mm_CM (d + 1)) 215 (130, [some (.ref 598), some (.int (iI (154 + 48 * (A 7 - 1)))), some (.int (iI i))], [], MX L t s5 l) (fun res => ∃ s1, res = (some (.int (iI (A 7 - 1))), MX L t s1 l) ∧ (∀ c, c ≠ 599 → s1 c = s c) ∧ s1 599 = undoF A) := by
          refine up_ind ?_
          intro i hi ih hi0 s5 hF5 hI5
          refine wi_i1 hc rfl rfl ?_
          refine wi_a1 hc rfl rfl ?_
          refine wi_gr (w := 599) hc rfl rfl (by decide) (Nat.le_of_ble_eq_true rfl) rfl ?_
          refine wi_ic hc rfl ?_
          refine wi_ildv (N := 3642) hc rfl rfl (by decide) (by decide) (by omega) (by omega) (v := A 0) ((by rw [hI5]; exact (if_neg (by omega)).trans ((if_neg (by omega)).trans ((if_neg (by omega)).trans ((if_neg (by omega)).trans ((if_neg (by omega)).trans ((if_neg (by omega)).trans (if_neg (by omega))))))))) ?_
          refine wi_cge hc rfl ⟨by omega, by omega⟩ ⟨by omega, by omega⟩ (fun h3_ => ?_) (fun h3_ => ?_)
          · refine wi_a1 hc rfl rfl ?_
            refine wi_gr (w := 599) hc rfl rfl (by decide) (Nat.le_of_ble_eq_true rfl) rfl ?_
            refine wi_bi hc rfl rfl ?_
            refine wi_ildv (N := 3642) hc rfl rfl (by decide) (by decide) (by omega) (by omega) (v := A 7 - 1) ((by rw [hI5]; exact if_pos rfl)) ?_
            refine wi_ri hc rfl (by rw [cm_215]; rfl) ?_
            have e10 : i = A 0 := by omega
            refine ⟨s5, rfl, hF5, funext (fun k => ?_)⟩
            rw [hI5 k]
            unfold undoF
            (repeat' split) <;> first | rfl | omega
          · refine wi_a1 hc rfl rfl ?_
            refine wi_i1 hc rfl rfl ?_
            refine wi_ic hc rfl ?_
            refine wi_i1 hc rfl rfl ?_
            refine wi_a1 hc rfl rfl ?_
            refine wi_gr (w := 599) hc rfl rfl (by decide) (Nat.le_of_ble_eq_true rfl) rfl ?_
            refine wi_i1 hc rfl rfl ?_
            refine wi_ildv (N := 3642) hc rfl rfl (by decide) (by decide) (by omega) (by omega) (v := A (154 + 48 * (A 7 - 1))) ((by rw [hI5]; exact (if_neg (by omega)).trans ((if_neg (by omega)).trans ((if_neg (by omega)).trans ((if_neg (by omega)).trans ((if_neg (by omega)).trans ((if_neg (by omega)).trans (if_neg (by omega))))))))) ?_
            refine wi_cge hc rfl ⟨by omega, by omega⟩ ⟨by omega, by omega⟩ (fun h4_ => ?_) (fun h4_ => ?_)
            · refine wi_ic hc rfl ?_
              refine wp_cv (b := 598) (As := [.int (iI i), .int (iI 5), .int (iI 3)]) (r := []) hc rfl (by rw [cm_154]; rfl) rfl (Nat.le_of_ble_eq_true rfl) (show 598 < 621 by decide) (by rw [cm_154]; rfl) (ev_mono (sp_154 (d := 0) (L := L) (t := t) (s := s5) (l := l) (by omega) (by omega) (by omega) (by omega)) (by omega)) ?_
              obtain ⟨s6_, es6_⟩ : ∃ q, q = up s5 599 (46 + 6 * i + 5) 3 := ⟨_, rfl⟩
              rw [← es6_]
              show mm_wp _ _ (171, [some (.ref 598), some (.int (iI (154 + 48 * (A 7 - 1)))), some (.int (iI i))], [], MX L t s6_ l) _
              refine wi_inc (L' := [some (.ref 598), some (.int (iI (154 + 48 * (A 7 - 1)))), some (.int (iI (i + 1)))]) hc rfl rfl rfl ?_
              refine wi_go hc rfl ?_
              refine ih (by omega) (by omega) s6_ (fun c hc9_ => ((congrFun es6_ c).trans (up_cc (by omega))).trans (hF5 c (by omega))) (fun k => ?_)
              rw [es6_]
              by_cases q : k = 46 + 6 * i + 5
              · have e1 : (k - 51) / 6 = i := by omega
                rw [up_e q, e1]
                (repeat' split) <;> first | rfl | omega
              · rw [up_k q, hI5 k]
                (repeat' split) <;> first | rfl | omega
            · refine wi_a1 hc rfl rfl ?_
              refine wi_gr (w := 599) hc rfl rfl (by decide) (Nat.le_of_ble_eq_true rfl) rfl ?_
              refine wi_i1 hc rfl rfl ?_
              refine wi_bi hc rfl rfl ?_
              refine wi_add hc rfl ?_
              refine wi_i1 hc rfl rfl ?_
              refine wi_add hc rfl ?_
              refine wi_ildv (N := 3642) hc rfl rfl (by decide) (by decide) (by omega) (by omega) (v := A (154 + 48 * (A 7 - 1) + 38 + i)) ((by rw [hI5]; exact (if_neg (by omega)).trans ((if_neg (by omega)).trans ((if_neg (by omega)).trans ((if_neg (by omega)).trans ((if_neg (by omega)).trans ((if_neg (by omega)).trans (if_neg (by omega))))))))) ?_
              refine wi_go hc rfl ?_
              refine wp_cv (b := 598) (As := [.int (iI i), .int (iI 5), .int (iI (A (154 + 48 * (A 7 - 1) + 38 + i)))]) (r := []) hc rfl (by rw [cm_154]; rfl) rfl (Nat.le_of_ble_eq_true rfl) (show 598 < 621 by decide) (by rw [cm_154]; rfl) (ev_mono (sp_154 (d := 0) (L := L) (t := t) (s := s5) (l := l) (by omega) (by omega) (by omega) (by omega)) (by omega)) ?_
              obtain ⟨s7_, es7_⟩ : ∃ q, q = up s5 599 (46 + 6 * i + 5) (A (154 + 48 * (A 7 - 1) + 38 + i)) := ⟨_, rfl⟩
              rw [← es7_]
              show mm_wp _ _ (171, [some (.ref 598), some (.int (iI (154 + 48 * (A 7 - 1)))), some (.int (iI i))], [], MX L t s7_ l) _
              refine wi_inc (L' := [some (.ref 598), some (.int (iI (154 + 48 * (A 7 - 1)))), some (.int (iI (i + 1)))]) hc rfl rfl rfl ?_
              refine wi_go hc rfl ?_
              refine ih (by omega) (by omega) s7_ (fun c hc9_ => ((congrFun es7_ c).trans (up_cc (by omega))).trans (hF5 c (by omega))) (fun k => ?_)
              rw [es7_]
              by_cases q : k = 46 + 6 * i + 5
              · have e1 : (k - 51) / 6 = i := by omega
                rw [up_e q, e1]
                (repeat' split) <;> first | rfl | omega
              · rw [up_k q, hI5 k]
                (repeat' split) <;> first | rfl | omega
        have e33 : i = 33 := by omega
        refine loop130_ 0 (by omega) (by omega) s4 hF4 (fun k => ?_)
        rw [hI4 k]
        (repeat' split) <;> first | rfl | omega
      · refine wi_a1 hc rfl rfl ?_
        refine wi_gr (w := 599) hc rfl rfl (by decide) (Nat.le_of_ble_eq_true rfl) rfl ?_
        refine wi_bi hc rfl rfl ?_
        refine wi_i1 hc rfl rfl ?_
        refine wi_add hc rfl ?_
        refine wi_a1 hc rfl rfl ?_
        refine wi_gr (w := 599) hc rfl rfl (by decide) (Nat.le_of_ble_eq_true rfl) rfl ?_
        refine wi_i1 hc rfl rfl ?_
        refine wi_ic hc rfl ?_
        refine wi_add hc rfl ?_
        refine wi_i1 hc rfl rfl ?_
        refine wi_add hc rfl ?_
        refine wi_ildv (N := 3642) hc rfl rfl (by decide) (by decide) (by omega) (by omega) (v := A (154 + 48 * (A 7 - 1) + 5 + i)) ((by rw [hI4]; exact (if_neg (by omega)).trans ((if_neg (by omega)).trans ((if_neg (by omega)).trans ((if_neg (by omega)).trans ((if_neg (by omega)).trans (if_neg (by omega)))))))) ?_
        refine wi_ist (N := 3642) hc rfl rfl (by decide) (by decide) (by omega) (by omega) ?_
        obtain ⟨s8_, es8_⟩ : ∃ q, q = up s4 599 (13 + i) (A (154 + 48 * (A 7 - 1) + 5 + i)) := ⟨_, rfl⟩
        rw [← es8_]
        refine wi_inc (L' := [some (.ref 598), some (.int (iI (154 + 48 * (A 7 - 1)))), some (.int (iI (i + 1)))]) hc rfl rfl rfl ?_
        refine wi_go hc rfl ?_
        refine ih (by omega) (by omega) s8_ (fun c hc9_ => ((congrFun es8_ c).trans (up_cc (by omega))).trans (hF4 c (by omega))) (fun k => ?_)
        rw [es8_]
        by_cases q : k = 13 + i
        · rw [up_e q]
          (repeat' split) <;> first | omega | (congr 1; omega)
        · rw [up_k q, hI4 k]
          (repeat' split) <;> first | rfl | omega
    refine loop97_ 0 (by omega) (by omega) s5_ (fun c hc9_ => ((congrFun es5_ c).trans (up_cc (by omega))).trans (((congrFun es4_ c).trans (up_cc (by omega))).trans (((congrFun es3_ c).trans (up_cc (by omega))).trans (((congrFun es2_ c).trans (up_cc (by omega))).trans ((congrFun es1_ c).trans (up_cc (by omega))))))) (fun k => ?_)
    rw [es5_]
    by_cases q0 : k = 9
    · rw [up_e q0]; (repeat' split) <;> first | rfl | omega
    · skip
      rw [up_k q0, es4_]
      by_cases q1 : k = 4
      · rw [up_e q1]; (repeat' split) <;> first | rfl | omega
      · skip
        rw [up_k q1, es3_]
        by_cases q2 : k = 2
        · rw [up_e q2]; (repeat' split) <;> first | rfl | omega
        · skip
          rw [up_k q2, es2_]
          by_cases q3 : k = 1
          · rw [up_e q3]; (repeat' split) <;> first | rfl | omega
          · skip
            rw [up_k q3, es1_]
            by_cases q4 : k = 7
            · rw [up_e q4]; (repeat' split) <;> first | rfl | omega
            · skip
              rw [up_k q4, hA]; (repeat' split) <;> first | rfl | omega
  · exfalso
    omega
