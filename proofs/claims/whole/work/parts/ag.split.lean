/-! The class's tokens, all of them. -/
def skF (f : Int → Int) : Nat → Int → Int
  | 0, x => x
  | m + 1, x => if f x = 32 ∨ f x = 10 then skF f m (x + 1) else x
/-- behind blanks -/
def skP (f : Int → Int) (n x : Int) : Int := skF f (n - x).toNat x
theorem skP_b {f : Int → Int} {n x : Int} (h : x < n) (hb : f x = 32 ∨ f x = 10) : skP f n x = skP f n (x + 1) := by
  unfold skP
  rw [show (n - x).toNat = (n - (x + 1)).toNat + 1 by omega, skF, if_pos hb]
theorem skP_n {f : Int → Int} {n x : Int} (h : x < n) (hb : ¬ (f x = 32 ∨ f x = 10)) : skP f n x = x := by
  unfold skP
  rw [show (n - x).toNat = (n - (x + 1)).toNat + 1 by omega, skF, if_neg hb]
theorem skP_e {f : Int → Int} {n x : Int} (h : n ≤ x) : skP f n x = x := by
  unfold skP
  rw [show (n - x).toNat = 0 by omega]
  rfl
theorem skF_r {f : Int → Int} : ∀ (m : Nat) (x : Int), x ≤ skF f m x ∧ skF f m x ≤ x + m ∧ (skF f m x < x + m → ¬ (f (skF f m x) = 32 ∨ f (skF f m x) = 10))
  | 0, x => ⟨Int.le_refl _, by show x ≤ x + ((0 : Nat) : Int); omega, fun h => absurd h (by show ¬ x < x + ((0 : Nat) : Int); omega)⟩
  | m + 1, x => by
    have ih := skF_r (f := f) m (x + 1)
    unfold skF
    by_cases hb : f x = 32 ∨ f x = 10
    · rw [if_pos hb]
      exact ⟨by omega, by omega, fun h => ih.2.2 (by omega)⟩
    · rw [if_neg hb]
      exact ⟨by omega, by omega, fun _ => hb⟩
theorem skP_r {f : Int → Int} {n x : Int} (h : x ≤ n) : x ≤ skP f n x ∧ skP f n x ≤ n ∧ (skP f n x < n → ¬ (f (skP f n x) = 32 ∨ f (skP f n x) = 10)) := by
  have h1 := skF_r (f := f) (n - x).toNat x
  have e : x + ((n - x).toNat : Int) = n := by omega
  rw [e] at h1
  exact h1
/-- a token of the text -/
def tkOK (f : Int → Int) (n : Int) (kd pl nm : Int → Int) (a : Int) : Prop := 0 ≤ pl a ∧ pl a < n ∧ ¬ (f (pl a) = 32 ∨ f (pl a) = 10) ∧ kd a = kdP f (pl a) (lastP f n (pl a)) ∧ nm a = nbrP f (pl a) (lastP f n (pl a))
/-- the tokens up to the byte p -/
def gtP (f : Int → Int) (n : Int) (kd pl nm : Int → Int) (tn p : Int) : Prop := tn ≤ p ∧ (∀ a, 0 ≤ a → a < tn → tkOK f n kd pl nm a ∧ (if a + 1 < tn then pl (a + 1) else skP f n p) = skP f n (lastP f n (pl a) + 1)) ∧ (if 0 < tn then pl 0 else skP f n p) = skP f n 0
/-- all tokens, and the end -/
def gtA (f : Int → Int) (n : Int) (kd pl nm : Int → Int) (tn : Int) : Prop := 1 ≤ tn ∧ (∀ a, 0 ≤ a → a + 1 < tn → tkOK f n kd pl nm a ∧ pl (a + 1) = skP f n (lastP f n (pl a) + 1)) ∧ pl 0 = skP f n 0 ∧ pl (tn - 1) = n ∧ kd (tn - 1) = 43
theorem gtP_0 {f : Int → Int} {n : Int} {kd pl nm : Int → Int} : gtP f n kd pl nm 0 0 := ⟨by decide, fun a h0 h1 => by omega, by rw [if_neg (by decide)]⟩
theorem gtP_b {f : Int → Int} {n : Int} {kd pl nm : Int → Int} {tn p : Int} (h : gtP f n kd pl nm tn p) (hp : p < n) (hb : f p = 32 ∨ f p = 10) : gtP f n kd pl nm tn (p + 1) := by
  obtain ⟨h1, h2, h3⟩ := h
  rw [skP_b hp hb] at h3
  refine ⟨by omega, fun a a0 a1 => ?_, h3⟩
  have := h2 a a0 a1
  rw [skP_b hp hb] at this
  exact this
theorem s1_at {f : Int → Int} {k v : Int} : set1 f k v k = v := if_pos rfl
theorem gtP_t {f : Int → Int} {n : Int} {kd pl nm : Int → Int} {tn p : Int} (h : gtP f n kd pl nm tn p) (h0 : 0 ≤ tn) (hp0 : 0 ≤ p) (hp : p < n) (hb : ¬ (f p = 32 ∨ f p = 10)) : gtP f n (set1 kd tn (kdP f p (lastP f n p))) (set1 pl tn p) (set1 nm tn (nbrP f p (lastP f n p))) (tn + 1) (lastP f n p + 1) := by
  obtain ⟨h1, h2, h3⟩ := h
  have hl := lastP_r (f := f) hp
  rw [skP_n hp hb] at h3
  refine ⟨by omega, fun a a0 a1 => ?_, ?_⟩
  · by_cases q : a = tn
    · subst q
      refine ⟨⟨?_, ?_, ?_, ?_, ?_⟩, ?_⟩
      · rw [s1_at]; exact hp0
      · rw [s1_at]; exact hp
      · rw [s1_at]; exact hb
      · rw [s1_at, s1_at]
      · rw [s1_at, s1_at]
      · rw [if_neg (by omega), s1_at]
    · have := h2 a a0 (by omega)
      obtain ⟨⟨g1, g2, g3, g4, g5⟩, g6⟩ := this
      refine ⟨⟨?_, ?_, ?_, ?_, ?_⟩, ?_⟩
      · rw [set1_ne q]; exact g1
      · rw [set1_ne q]; exact g2
      · rw [set1_ne q]; exact g3
      · rw [set1_ne q, set1_ne q]; exact g4
      · rw [set1_ne q, set1_ne q]; exact g5
      · rw [if_pos (by omega), set1_ne q]
        by_cases q2 : a + 1 = tn
        · rw [q2, s1_at]
          rw [if_neg (by omega), skP_n hp hb] at g6
          exact g6
        · rw [set1_ne q2]
          rw [if_pos (by omega)] at g6
          exact g6
  · rw [if_pos (by omega)]
    by_cases q : tn = 0
    · subst q
      rw [s1_at]
      rw [if_neg (by decide)] at h3
      exact h3
    · rw [set1_ne (by omega)]
      rw [if_pos (by omega)] at h3
      exact h3
theorem gtA_of {f : Int → Int} {n : Int} {kd pl nm : Int → Int} {tn v : Int} (h : gtP f n kd pl nm tn n) (h0 : 0 ≤ tn) : gtA f n (set1 kd tn 43) (set1 pl tn n) (set1 nm tn v) (tn + 1) := by
  obtain ⟨h1, h2, h3⟩ := h
  rw [skP_e (Int.le_refl _)] at h3
  refine ⟨by omega, fun a a0 a1 => ?_, ?_, ?_, ?_⟩
  · have := h2 a a0 (by omega)
    obtain ⟨⟨g1, g2, g3, g4, g5⟩, g6⟩ := this
    rw [skP_e (Int.le_refl _)] at g6
    have q : a ≠ tn := by omega
    refine ⟨⟨?_, ?_, ?_, ?_, ?_⟩, ?_⟩
    · rw [set1_ne q]; exact g1
    · rw [set1_ne q]; exact g2
    · rw [set1_ne q]; exact g3
    · rw [set1_ne q, set1_ne q]; exact g4
    · rw [set1_ne q, set1_ne q]; exact g5
    · rw [set1_ne q]
      by_cases q2 : a + 1 = tn
      · rw [q2, s1_at]
        rw [if_neg (by omega)] at g6
        exact g6
      · rw [set1_ne q2]
        rw [if_pos (by omega)] at g6
        exact g6
  · by_cases q : tn = 0
    · subst q
      rw [s1_at]
      rw [if_neg (by decide)] at h3
      exact h3
    · rw [set1_ne (by omega)]
      rw [if_pos (by omega)] at h3
      exact h3
  · rw [show tn + 1 - 1 = tn by omega, s1_at]
  · rw [show tn + 1 - 1 = tn by omega, s1_at]
theorem nbrF_r {f : Int → Int} : ∀ (m : Nat) (x acc : Int), 0 ≤ acc → acc ≤ 10000 → (∀ k, 0 ≤ f k ∧ f k ≤ 255) → 0 ≤ nbrF f m x acc ∧ nbrF f m x acc ≤ 10000
  | 0, x, acc, h0, h1, _ => ⟨h0, h1⟩
  | m + 1, x, acc, h0, h1, hf => by
    have hm := minI_spec (acc * 10 + f x - 48) 10000
    unfold nbrF
    split
    · rename_i g
      have g2 := fgB_t.mp g
      exact nbrF_r m (x + 1) _ (by omega) (by omega) hf
    · exact ⟨h0, h1⟩
theorem nbrP_r {f : Int → Int} {x y : Int} (hf : ∀ k, 0 ≤ f k ∧ f k ≤ 255) : 0 ≤ nbrP f x y ∧ nbrP f x y ≤ 10000 := nbrF_r _ x 0 (by decide) (by decide) hf
theorem kdP_44 {f : Int → Int} {x y : Int} (hf : ∀ k, 0 ≤ f k ∧ f k ≤ 255) : 0 ≤ kdP f x y ∧ kdP f x y ≤ 44 := by
  have h1 := wdF_29 f x y
  have h2 := sgX_r (hf x).1 (hf x).2
  unfold kdP
  (repeat' split) <;> omega
theorem up_all {n : Int} {P : Int → Prop} (h : ∀ i, i ≤ n → (∀ j, i < j → j ≤ n → 0 ≤ j → P j) → P i) : ∀ i, i ≤ n → P i := by
  have key : ∀ (m : Nat) (i : Int), i ≤ n → n - i ≤ m → P i := by
    intro m
    induction m with
    | zero => exact fun i h1 h2 => h i h1 (fun j h3 h4 _ => by omega)
    | succ m ih => exact fun i h1 h2 => h i h1 (fun j h3 h4 _ => ih j h4 (by omega))
  exact fun i hi => key (n - i).toNat i hi (by omega)
theorem sp_45 {d L t : Nat} {s l : Nat → Int → Int} {f : Int → Int} (hT : s 597 = f) (hf : ∀ k, 0 ≤ f k ∧ f k ≤ 255) {n : Int} (n0 : 0 ≤ n) (n1 : n ≤ 300) : ∃ s1, mm_Ev mm_ct mm_CM (d + 3) 45 [.ref 580, .ref 597, .int (iI n)] (MX L t s l) (none, MX L t s1 l) ∧ (∀ c, c ≠ 580 ∧ c ≠ 581 ∧ c ≠ 582 ∧ c ≠ 583 → s1 c = s c) ∧ (∀ k, k ≠ 3 → s1 580 k = s 580 k) ∧ ∃ kd pl nm tn, RD s1 kd pl nm tn ∧ gtA f n kd pl nm tn := by
  have hc : (mm_CM 45).2.2.2.2.2.2.2 = mm_cf cd_45 := by rw [cm_45]; rfl
  refine ev_xs ?_
  refine ev_to (mx := 5) (by rw [cm_45]; decide) (by rw [cm_45]; rfl) (by show 3 ≤ _; decide) ?_
  show mm_wp _ _ (0, [some (.ref 580), some (.ref 597), some (.int (iI n)), none, none], [], MX L t s l) (fun res => ∃ s1, res = (none, MX L t s1 l) ∧ (∀ c, c ≠ 580 ∧ c ≠ 581 ∧ c ≠ 582 ∧ c ≠ 583 → s1 c = s c) ∧ (∀ k, k ≠ 3 → s1 580 k = s 580 k) ∧ ∃ kd pl nm tn, RD s1 kd pl nm tn ∧ gtA f n kd pl nm tn)
  refine wi_a1 hc rfl rfl ?_
  refine wi_ic hc rfl ?_
  refine wi_pf (kz := 3) rfl hc rfl rfl (by decide) (Nat.le_of_ble_eq_true rfl) rfl (Nat.le_of_ble_eq_true rfl) ⟨rfl, rfl⟩ rfl ?_
  obtain ⟨s1_, es1_⟩ : ∃ q, q = up s 580 3 0 := ⟨_, rfl⟩
  rw [← es1_]
  refine wi_ic hc rfl ?_
  refine wi_is1 (L' := [some (.ref 580), some (.ref 597), some (.int (iI n)), some (.int (iI 0)), none]) hc rfl (Nat.le_of_ble_eq_true rfl) rfl ?_
  have hT0 : s1_ 597 = f := (congrFun es1_ 597).trans ((up_cc (by decide)).trans hT)
  have hQ0 : ∀ c, c ≠ 580 ∧ c ≠ 581 ∧ c ≠ 582 ∧ c ≠ 583 → s1_ c = s c := fun c hc => (congrFun es1_ c).trans (up_cc (by omega))
  have hA0 : ∀ k, k ≠ 3 → s1_ 580 k = s 580 k := fun k hk => (congrFun (congrFun es1_ _) _).trans (up_k hk)
  have hR0 : RD s1_ (fun _ => 0) (fun _ => 0) (fun _ => 0) 0 := ⟨(congrFun (congrFun es1_ _) _).trans up_at, by omega, fun j h0 h1 => by omega⟩
  have loop7_ : ∀ i : Int, i ≤ n → 0 ≤ i → ∀ s1 : Nat → Int → Int, ∀ kd pl nm : Int → Int, ∀ tn : Int, s1 597 = f → RD s1 kd pl nm tn → gtP f n kd pl nm tn i → (∀ c, c ≠ 580 ∧ c ≠ 581 ∧ c ≠ 582 ∧ c ≠ 583 → s1 c = s c) → (∀ k, k ≠ 3 → s1 580 k = s 580 k) → ∀ L4 : Option Value, mm_wp (mm_Ev mm_ct mm_CM (d + 2)) 45 (7, [some (.ref 580), some (.ref 597), some (.int (iI n)), some (.int (iI i)), L4], [], MX L t s1 l) (fun res => ∃ s1, res = (none, MX L t s1 l) ∧ (∀ c, c ≠ 580 ∧ c ≠ 581 ∧ c ≠ 582 ∧ c ≠ 583 → s1 c = s c) ∧ (∀ k, k ≠ 3 → s1 580 k = s 580 k) ∧ ∃ kd pl nm tn, RD s1 kd pl nm tn ∧ gtA f n kd pl nm tn) := by
    refine up_all ?_
    intro i hi9 ih hi0 s1 kd pl nm tn hT1 hR1 hG1 hQ1 hA1 L4
    have hfi := hf i
    have htn := hG1.1
    have htr := hR1.2.1
    refine wi_i1 hc rfl rfl ?_
    refine wi_i1 hc rfl rfl ?_
    refine wi_cge hc rfl ⟨by omega, by omega⟩ ⟨by omega, by omega⟩ (fun h1_ => ?_) (fun h1_ => ?_)
    · refine wi_a1 hc rfl rfl ?_
      refine wi_bi hc rfl rfl ?_
      refine wi_i1 hc rfl rfl ?_
      refine wi_ic hc rfl ?_
      obtain ⟨s2_, hE2_, hF2_, hG2_, hR2_⟩ := sp_46 (d := 0) (L := L) (t := t) (l := l) hR1 (by omega) (kx := 43) (px := n) (nx := 0) ⟨by omega, by omega⟩ ⟨by omega, by omega⟩ ⟨by omega, by omega⟩
      refine wp_cv (b := 580) (As := [.int (iI 43), .int (iI n), .int (iI 0)]) (r := []) hc rfl (by rw [cm_46]; rfl) rfl (Nat.le_of_ble_eq_true rfl) (show 580 < 621 by decide) (by rw [cm_46]; rfl) (ev_mono hE2_ (by omega)) ?_
      have hT2_ : s2_ 597 = f := (hF2_ 597 (by decide)).trans hT1
      show mm_wp _ _ (76, [some (.ref 580), some (.ref 597), some (.int (iI n)), some (.int (iI i)), L4], [], MX L t s2_ l) _
      refine wi_rv hc rfl (by rw [cm_45]; rfl) ?_
      have hin : i = n := by omega
      subst hin
      exact ⟨s2_, rfl, (fun c hc => (hF2_ c hc).trans (hQ1 c hc)), (fun k hk => by rw [hG2_ k, if_neg hk]; exact hA1 k hk), _, _, _, _, hR2_, gtA_of hG1 (by omega)⟩
    · refine wi_a1 hc rfl rfl ?_
      refine wi_i1 hc rfl rfl ?_
      refine wi_i1 hc rfl rfl ?_
      refine wp_cs (As := [.ref 597, .int (iI n), .int (iI i)]) (r := []) hc rfl (by rw [cm_49]; rfl) rfl (Nat.le_of_ble_eq_true rfl) (ev_mono (sp_49 (d := 0) hT1 hf (by omega) (by omega) (by omega)) (by omega)) ?_
      show mm_wp _ _ (18, [some (.ref 580), some (.ref 597), some (.int (iI n)), some (.int (iI i)), L4], [.int (iI (lastP f n i))], MX L t s1 l) _
      have hlr := lastP_r (f := f) (n := n) (x := i) (by omega)
      refine wi_is2 (L' := [some (.ref 580), some (.ref 597), some (.int (iI n)), some (.int (iI i)), some (.int (iI (lastP f n i)))]) hc rfl (Nat.le_of_ble_eq_true rfl) rfl ?_
      refine wi_a1 hc rfl rfl ?_
      refine wi_i1 hc rfl rfl ?_
      refine wi_ildv (N := 300) hc rfl rfl (by decide) (by decide) (by omega) (by omega) (v := f i) (congrFun (hT1) _) ?_
      refine wi_bi hc rfl rfl ?_
      refine wi_ceq hc rfl ⟨by omega, by omega⟩ ⟨by decide, by decide⟩ (fun h2_ => ?_) (fun h2_ => ?_)
      · refine wi_i1 hc rfl rfl ?_
        refine wi_i2 hc rfl rfl ?_
        refine wi_max (r := []) hc rfl (Nat.le_of_ble_eq_true rfl) ⟨by omega, by omega⟩ ⟨by omega, by omega⟩ ?_
        have h3_ := maxI_spec i (lastP f n i)
        show mm_wp _ _ (61, [some (.ref 580), some (.ref 597), some (.int (iI n)), some (.int (iI i)), some (.int (iI (lastP f n i)))], [.int (iI (maxI i (lastP f n i)))], MX L t s1 l) _
        refine wi_is1 (L' := [some (.ref 580), some (.ref 597), some (.int (iI n)), some (.int (iI (maxI i (lastP f n i)))), some (.int (iI (lastP f n i)))]) hc rfl (Nat.le_of_ble_eq_true rfl) rfl ?_
        refine wi_inc (L' := [some (.ref 580), some (.ref 597), some (.int (iI n)), some (.int (iI (maxI i (lastP f n i) + 1))), some (.int (iI (lastP f n i)))]) hc rfl rfl rfl ?_
        refine wi_go hc rfl ?_
        have hmx := maxI_spec i (lastP f n i)
        have hlb : lastP f n i = i := by
          unfold lastP
          rw [if_neg (fun w => by have := ltB_t.mp w; omega), if_neg (fun w => by have := fgB_t.mp w; omega), if_neg (by omega)]
        have e9 : maxI i (lastP f n i) + 1 = i + 1 := by omega
        rw [e9]
        exact ih (i + 1) (by omega) (by omega) (by omega) (by omega) s1 _ _ _ _ hT1 hR1 (gtP_b hG1 (by omega) (by omega)) hQ1 hA1 _
      · refine wi_a1 hc rfl rfl ?_
        refine wi_i1 hc rfl rfl ?_
        refine wi_ildv (N := 300) hc rfl rfl (by decide) (by decide) (by omega) (by omega) (v := f i) (congrFun (hT1) _) ?_
        refine wi_bi hc rfl rfl ?_
        refine wi_ceq hc rfl ⟨by omega, by omega⟩ ⟨by decide, by decide⟩ (fun h4_ => ?_) (fun h4_ => ?_)
        · refine wi_i1 hc rfl rfl ?_
          refine wi_i2 hc rfl rfl ?_
          refine wi_max (r := []) hc rfl (Nat.le_of_ble_eq_true rfl) ⟨by omega, by omega⟩ ⟨by omega, by omega⟩ ?_
          have h5_ := maxI_spec i (lastP f n i)
          show mm_wp _ _ (61, [some (.ref 580), some (.ref 597), some (.int (iI n)), some (.int (iI i)), some (.int (iI (lastP f n i)))], [.int (iI (maxI i (lastP f n i)))], MX L t s1 l) _
          refine wi_is1 (L' := [some (.ref 580), some (.ref 597), some (.int (iI n)), some (.int (iI (maxI i (lastP f n i)))), some (.int (iI (lastP f n i)))]) hc rfl (Nat.le_of_ble_eq_true rfl) rfl ?_
          refine wi_inc (L' := [some (.ref 580), some (.ref 597), some (.int (iI n)), some (.int (iI (maxI i (lastP f n i) + 1))), some (.int (iI (lastP f n i)))]) hc rfl rfl rfl ?_
          refine wi_go hc rfl ?_
          have hmx := maxI_spec i (lastP f n i)
          have hlb : lastP f n i = i := by
            unfold lastP
            rw [if_neg (fun w => by have := ltB_t.mp w; omega), if_neg (fun w => by have := fgB_t.mp w; omega), if_neg (by omega)]
          have e9 : maxI i (lastP f n i) + 1 = i + 1 := by omega
          rw [e9]
          exact ih (i + 1) (by omega) (by omega) (by omega) (by omega) s1 _ _ _ _ hT1 hR1 (gtP_b hG1 (by omega) (by omega)) hQ1 hA1 _
        · have hk4 := kdP_44 (x := i) (y := lastP f n i) hf
          have hn4 := nbrP_r (x := i) (y := lastP f n i) hf
          refine wi_a1 hc rfl rfl ?_
          refine wi_a1 hc rfl rfl ?_
          refine wi_i1 hc rfl rfl ?_
          refine wi_i2 hc rfl rfl ?_
          refine wp_cs (As := [.ref 597, .int (iI i), .int (iI (lastP f n i))]) (r := [.ref 580]) hc rfl (by rw [cm_50]; rfl) rfl (Nat.le_of_ble_eq_true rfl) (ev_mono (sp_50 (d := 0) hT1 hf (by omega) (by omega) (by omega)) (by omega)) ?_
          show mm_wp _ _ (44, [some (.ref 580), some (.ref 597), some (.int (iI n)), some (.int (iI i)), some (.int (iI (lastP f n i)))], [.int (iI (kdP f i (lastP f n i))), .ref 580], MX L t s1 l) _
          refine wi_i1 hc rfl rfl ?_
          refine wi_a1 hc rfl rfl ?_
          refine wi_i1 hc rfl rfl ?_
          refine wi_i2 hc rfl rfl ?_
          refine wp_cs (As := [.ref 597, .int (iI i), .int (iI (lastP f n i))]) (r := [.int (iI i), .int (iI (kdP f i (lastP f n i))), .ref 580]) hc rfl (by rw [cm_52]; rfl) rfl (Nat.le_of_ble_eq_true rfl) (ev_mono (sp_52 (d := 0) hT1 hf (by omega) (by omega) (by omega)) (by omega)) ?_
          show mm_wp _ _ (52, [some (.ref 580), some (.ref 597), some (.int (iI n)), some (.int (iI i)), some (.int (iI (lastP f n i)))], [.int (iI (nbrP f i (lastP f n i))), .int (iI i), .int (iI (kdP f i (lastP f n i))), .ref 580], MX L t s1 l) _
          obtain ⟨s3_, hE3_, hF3_, hG3_, hR3_⟩ := sp_46 (d := 0) (L := L) (t := t) (l := l) hR1 (by omega) (kx := kdP f i (lastP f n i)) (px := i) (nx := nbrP f i (lastP f n i)) ⟨by omega, by omega⟩ ⟨by omega, by omega⟩ ⟨by omega, by omega⟩
          refine wp_cv (b := 580) (As := [.int (iI (kdP f i (lastP f n i))), .int (iI i), .int (iI (nbrP f i (lastP f n i)))]) (r := []) hc rfl (by rw [cm_46]; rfl) rfl (Nat.le_of_ble_eq_true rfl) (show 580 < 621 by decide) (by rw [cm_46]; rfl) (ev_mono hE3_ (by omega)) ?_
          have hT3_ : s3_ 597 = f := (hF3_ 597 (by decide)).trans hT1
          show mm_wp _ _ (55, [some (.ref 580), some (.ref 597), some (.int (iI n)), some (.int (iI i)), some (.int (iI (lastP f n i)))], [], MX L t s3_ l) _
          refine wi_i1 hc rfl rfl ?_
          refine wi_i2 hc rfl rfl ?_
          refine wi_max (r := []) hc rfl (Nat.le_of_ble_eq_true rfl) ⟨by omega, by omega⟩ ⟨by omega, by omega⟩ ?_
          have h6_ := maxI_spec i (lastP f n i)
          show mm_wp _ _ (61, [some (.ref 580), some (.ref 597), some (.int (iI n)), some (.int (iI i)), some (.int (iI (lastP f n i)))], [.int (iI (maxI i (lastP f n i)))], MX L t s3_ l) _
          refine wi_is1 (L' := [some (.ref 580), some (.ref 597), some (.int (iI n)), some (.int (iI (maxI i (lastP f n i)))), some (.int (iI (lastP f n i)))]) hc rfl (Nat.le_of_ble_eq_true rfl) rfl ?_
          refine wi_inc (L' := [some (.ref 580), some (.ref 597), some (.int (iI n)), some (.int (iI (maxI i (lastP f n i) + 1))), some (.int (iI (lastP f n i)))]) hc rfl rfl rfl ?_
          refine wi_go hc rfl ?_
          have hg9 := gtP_t hG1 (by omega) hi0 (by omega) (by omega)
          have hmx := maxI_spec i (lastP f n i)
          have e9 : maxI i (lastP f n i) + 1 = lastP f n i + 1 := by omega
          rw [e9]
          exact ih (lastP f n i + 1) (by omega) (by omega) (by omega) (by omega) s3_ _ _ _ _ hT3_ hR3_ hg9 (fun c hc => (hF3_ c hc).trans (hQ1 c hc)) (fun k hk => by rw [hG3_ k, if_neg hk]; exact hA1 k hk) _
  exact loop7_ 0 (by omega) (by omega) s1_ _ _ _ _ hT0 hR0 gtP_0 hQ0 hA0 _
