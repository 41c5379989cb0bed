/-! The model's asks and either. -/
theorem GTX_43 {f : Int → Int} {n : Int} {kd k pl nm : Int → Int} {tn : Int} (hG : GTX f n kd k pl nm tn) : ∀ a, tn - 1 ≤ a → k a = 43 := fun a ha => by
  obtain ⟨⟨g1, -, -, -, h5⟩, -, -, -, h6, h7, -⟩ := hG
  by_cases q : tn ≤ a
  · exact h7 a q
  · rw [h6 a (by omega) (by omega), show a = tn - 1 by omega]; exact h5
theorem GTX_tn {f : Int → Int} {n : Int} {kd k pl nm : Int → Int} {tn : Int} (hG : GTX f n kd k pl nm tn) : tn ≤ 301 := hG.2.2.2.1
/-- what faults there are -/
def rpF (r : rpR) : Prop := 0 ≤ r.1 ∧ r.1 ≤ 5
theorem rpF_B {r : rpR} {g : rpS → rpR} (h : rpF r) (hg : ∀ y, rpF (g y)) : rpF (rpB r g) := by
  unfold rpB
  split
  · exact hg _
  · exact h
theorem rpF_c {v : Int} {y : rpS} (h : 0 ≤ v ∧ v ≤ 5) : rpF (v, y) := h
theorem rpF_Fac {k : Int → Int} {one : rpS → rpR} (ho : ∀ z, rpF (one z)) : ∀ (n : Nat) (z : rpS), rpF (rpFac k one n z)
  | 0, _ => rpF_c (by decide)
  | n + 1, z => by
    unfold rpFac
    split
    · exact rpF_B (ho _) (fun y => rpF_Fac ho n _)
    · exact rpF_c (by decide)
theorem rpF_Prd {k : Int → Int} {one : rpS → rpR} (ho : ∀ z, rpF (one z)) (z : rpS) : rpF (rpPrd k one z) := rpF_B (ho _) (rpF_Fac ho _)
theorem rpF_Add {k : Int → Int} {one : rpS → rpR} (ho : ∀ z, rpF (one z)) : ∀ (n : Nat) (z : rpS), rpF (rpAdd k one n z)
  | 0, _ => rpF_c (by decide)
  | n + 1, z => by
    unfold rpAdd
    split
    · exact rpF_B (rpF_Prd ho _) (fun y => rpF_Add ho n _)
    · exact rpF_c (by decide)
theorem rpF_Sum {k : Int → Int} {one : rpS → rpR} (ho : ∀ z, rpF (one z)) (z : rpS) : rpF (rpSum k one z) := rpF_B (rpF_Prd ho _) (rpF_Add ho _)
theorem rpF_One {k nm : Int → Int} {w : Int} : ∀ (m : Nat) (z : rpS), rpF (rpOne k nm w m z)
  | 0, z => by
    unfold rpOne
    (repeat' split) <;> exact rpF_c (by decide)
  | m + 1, z => by
    unfold rpOne
    split
    · split <;> exact rpF_c (by decide)
    · split
      · split <;> exact rpF_c (by decide)
      · split
        · refine rpF_B (rpF_Sum (rpF_One m) _) (fun y => ?_)
          split <;> exact rpF_c (by decide)
        · split
          · exact rpF_B (rpF_One m _) (fun y => rpF_c (by decide))
          · exact rpF_c (by decide)
theorem rpF_Cmp {k : Int → Int} {one : rpS → rpR} (ho : ∀ z, rpF (one z)) (z : rpS) : rpF (rpCmp k one z) := by
  refine rpF_B (rpF_Sum ho _) (fun y => ?_)
  split
  · exact rpF_B (rpF_Sum ho _) (fun x => rpF_c (by decide))
  · exact rpF_c (by decide)
theorem rpF_Ask {k nm : Int → Int} {w : Int} : ∀ (m : Nat) (z : rpS), rpF (rpAsk k nm w m z)
  | 0, z => by
    unfold rpAsk
    split
    · exact rpF_c (by decide)
    · exact rpF_Cmp (rpF_One 0) _
  | m + 1, z => by
    unfold rpAsk
    split
    · exact rpF_B (rpF_Ask m _) (fun y => rpF_c (by decide))
    · exact rpF_Cmp (rpF_One (m + 1)) _
theorem rpF_Ef {k nm : Int → Int} {w : Int} {n : Nat} (ih : ∀ an oo z, rpF (rpEi k nm w n an oo z)) (oo : Bool) (x : rpS) : rpF (rpEf k nm w n oo x) := by
  unfold rpEf
  split
  · exact ih _ _ _
  · split
    · exact ih _ _ _
    · exact rpF_c (by decide)
theorem rpF_Ei {k nm : Int → Int} {w : Int} : ∀ (n : Nat) (an oo : Bool) (z : rpS), rpF (rpEi k nm w n an oo z)
  | 0, _, _, _ => rpF_c (by decide)
  | n + 1, an, oo, z => by
    rw [rpEi_s]
    exact rpF_B (rpF_Ask 8 z) (fun y => rpF_Ef (rpF_Ei n) _ _)
def nts : Nat → rpS → rpS
  | 0, y => y
  | j + 1, y => nts j (rpPut 10028 y)
theorem rpAsk_c {k nm : Int → Int} {w : Int} {m : Nat} {z : rpS} (h : ¬ k z.1 = 28) : rpAsk k nm w m z = rpCmp k (rpOne k nm w m) z := by
  cases m <;> rw [rpAsk, if_neg h]
theorem rpAsk_3 {k nm : Int → Int} {w : Int} {z : rpS} (h : k z.1 = 28) : rpAsk k nm w 0 z = (3, z) := by rw [rpAsk, if_pos h]
theorem rpAsk_s {k nm : Int → Int} {w : Int} {m j : Nat} {z : rpS} (h : k z.1 = 28) : rpB (rpAsk k nm w (m + 1) z) (fun y => (0, nts j y)) = rpB (rpAsk k nm w m (rpNx z)) (fun y => (0, nts (j + 1) y)) := by
  rw [rpAsk, if_pos h]
  obtain ⟨f, u, hu⟩ : ∃ f u, rpAsk k nm w m (rpNx z) = (f, u) := ⟨_, _, rfl⟩
  rw [hu]
  by_cases hf : f = 0
  · subst hf; rfl
  · rw [rpB_n (r := (f, u)) hf, rpB_n (r := (f, u)) hf, rpB_n (r := (f, u)) hf]
/-- what a piece of reading comes to, on the model's side -/
def MRs (f : Int → Int) (n : Int) (k pl nm : Int → Int) (tn b c : Int) (s s1 l l1 : Nat → Int → Int) (r : rpR) (o : Int) : Prop := ∃ (y : rpS) (Q : List Int) (o' w' : Int), y.1 = r.2.1 ∧ MSt f n k pl nm tn b s1 l1 y Q o' w' ∧ (r.1 = 0 → y = r.2 ∧ o' = o) ∧ FR b c s s1 l l1
section MRP
variable {f : Int → Int} {n : Int} {kd k pl nm : Int → Int} {tn b : Int} {s s1 l l1 : Nat → Int → Int} {z y : rpS} {P Q : List Int} {o w c v : Int}
theorem MRs.ok (h : MSt f n k pl nm tn b s1 l1 y Q o w) (g : FR b c s s1 l l1) : MRs f n k pl nm tn b c s s1 l l1 (0, y) o := ⟨y, Q, o, w, rfl, h, fun _ => ⟨rfl, rfl⟩, g⟩
theorem MRs.no {o2 : Int} (hf : v ≠ 0) (h : MSt f n k pl nm tn b s1 l1 y Q o w) (g : FR b c s s1 l l1) : MRs f n k pl nm tn b c s s1 l l1 (v, y) o2 := ⟨y, Q, o, w, rfl, h, fun e => absurd e hf, g⟩
theorem MRs.nn {r r2 : rpR} {o2 : Int} {s2 l2 : Nat → Int → Int} {c2 : Int} (h : MRs f n k pl nm tn b c2 s1 s2 l1 l2 r o) (hf : r.1 ≠ 0) (e : r2 = r) (g : FR b c s s1 l l1) (hc : c ≤ c2) : MRs f n k pl nm tn b c s s2 l l2 r2 o2 := by
  subst e
  obtain ⟨y, Q, o', w', h1, h2, -, h4⟩ := h
  exact ⟨y, Q, o', w', h1, h2, fun e => absurd e hf, g.tr h4 hc⟩
theorem su_183 {d L t : Nat} (hG : GTX f n kd k pl nm tn) {m : Nat} (hm : m ≤ 8) (h : MSt f n k pl nm tn b s l z P (8 - m) w) (b0 : 0 ≤ b ∧ b ≤ 2115) {so : Int} (hs9 : s 598 20 = so) (hso : 0 ≤ so ∧ so ≤ 9) (hI : 0 ≤ z.2.2 ∧ z.2.2 ≤ z.1) (hcc : c ≤ z.2.2) {r : rpR} (hr : rpSum k (rpOne k nm (15 + so) m) z = r) : ∃ s1 l1, mm_Ev mm_ct mm_CM (d + 7) 183 [.ref 598] (MX L t s l) (some (.int (iI r.1)), MX L t s1 l1) ∧ MRs f n k pl nm tn b c s s1 l l1 r (8 - m) := by
  have hq := rq_sum (nm := nm) (w := 15 + so) (fun a ha => GTX_43 hG a (by omega)) (GTX_tn hG) hm h.2.1.1.1
  have hI2 : rqI z [] (8 - m) := ⟨hI.1, by show z.2.2 + 0 ≤ z.1; omega, trivial, by show (0 : Int) ≤ 8 - (m : Int); omega, by omega⟩
  obtain ⟨f9, y, hy⟩ : ∃ f9 y, r = (f9, y) := ⟨_, _, rfl⟩
  subst hy
  by_cases hf : f9 = 0
  · subst hf
    obtain ⟨s1, l1, e, Q, w9, h1, h2, h3⟩ := sp_183 (d := d) (L := L) (t := t) hG h b0 hs9 hso hI2 hcc (hq.1 y hr)
    exact ⟨s1, l1, e, y, Q, _, w9, rfl, h1, fun _ => ⟨rfl, rfl⟩, h3⟩
  · obtain ⟨y', o', g1, g2⟩ := hq.2 f9 y hr hf
    obtain ⟨s1, l1, e, Q, w9, h1, h2, h3⟩ := sp_183 (d := d) (L := L) (t := t) hG h b0 hs9 hso hI2 hcc g2
    exact ⟨s1, l1, e, y', Q, o', w9, g1, h1, fun e => absurd e hf, h3⟩
end MRP
theorem cpO_s (x : Int) : (rpIs x = true ∧ cpO x = mop (10000 + x) ∧ mvl (10000 + x) = 0 ∧ 10 ≤ cpO x ∧ cpO x ≤ 15) ∨ (¬ rpIs x = true ∧ cpO x = -1) := by
  rw [rpIs_iff]
  unfold cpO
  by_cases h : (29 ≤ x ∧ x ≤ 32) ∨ x = 40 ∨ x = 41
  · left
    refine ⟨h, ?_⟩
    rcases (by omega : x = 29 ∨ x = 30 ∨ x = 31 ∨ x = 32 ∨ x = 40 ∨ x = 41) with e | e | e | e | e | e <;> subst e <;> decide
  · right
    refine ⟨h, ?_⟩
    rw [if_neg (by omega), if_neg (by omega), if_neg (by omega), if_neg (by omega), if_neg (by omega), if_neg (by omega)]
theorem rpB_id {r : rpR} : rpB r (fun y => (0, nts 0 y)) = r := by
  unfold rpB
  split
  · rename_i h
    show (0, r.2) = r
    rw [← h]
  · rfl
theorem sp_185 {d L t : Nat} {s l : Nat → Int → Int} {f : Int → Int} {n : Int} {kd k pl nm : Int → Int} {tn b : Int} {z : rpS} {P : List Int} {w c : Int} (hG : GTX f n kd k pl nm tn) {m : Nat} (hm : m ≤ 8) (h : MSt f n k pl nm tn b s l z P (8 - (m : Int)) w) (b0 : 0 ≤ b ∧ b ≤ 2115) {so : Int} (hs9 : s 598 20 = so) (hso : 0 ≤ so ∧ so ≤ 9) (hI : 0 ≤ z.2.2 ∧ z.2.2 ≤ z.1) (hcc : c ≤ z.2.2) {r : rpR} (hr : rpAsk k nm (15 + so) m z = r) : ∃ s1 l1, mm_Ev mm_ct mm_CM (d + 8) 185 [.ref 598] (MX L t s l) (some (.int (iI r.1)), MX L t s1 l1) ∧ MRs f n k pl nm tn b c s s1 l l1 r (8 - (m : Int)) := by
  have hc : (mm_CM 185).2.2.2.2.2.2.2 = mm_cf cd_185 := by rw [cm_185]; rfl
  refine ev_xsl ?_
  refine ev_to (mx := 5) (by rw [cm_185]; decide) (by rw [cm_185]; rfl) (by show 1 ≤ _; decide) ?_
  show mm_wp _ _ (0, [some (.ref 598), none, none, none, none], [], MX L t s l) (fun res => ∃ s1 l1, res = (some (.int (iI r.1)), MX L t s1 l1) ∧ MRs f n k pl nm tn b c s s1 l l1 r (8 - (m : Int)))
  have htn := GTX_tn hG
  have hk43 := GTX_43 hG
  refine wi_ic hc rfl ?_
  refine wi_is1 (L' := [some (.ref 598), some (.int (iI 0)), none, none, none]) hc rfl (Nat.le_of_ble_eq_true rfl) rfl ?_
  have loop2_ : ∀ m1 : Nat, ∀ (j : Nat) (jj : Int) (z1 : rpS) (w1 : Int) (s1 l1 : Nat → Int → Int), jj = j → m1 + j = m → MSt f n k pl nm tn b s1 l1 z1 P (8 - (m1 : Int)) w1 → FR b c s s1 l l1 → rpB (rpAsk k nm (15 + so) m1 z1) (fun y => (0, nts j y)) = r → c ≤ z1.2.2 → 0 ≤ z1.2.2 → z1.2.2 + jj ≤ z1.1 → mm_wp (mm_Ev mm_ct mm_CM (d + 7)) 185 (2, [some (.ref 598), some (.int (iI jj)), none, none, none], [], MX L t s1 l1) (fun res => ∃ s1 l1, res = (some (.int (iI r.1)), MX L t s1 l1) ∧ MRs f n k pl nm tn b c s s1 l l1 r (8 - (m : Int))) := by
    refine wf_ind ?_
    intro m1 ih j jj z1 w1 s1 l1 hjj hmj hM1 hF1 hR hcA hcB hcC
    refine wi_a1 hc rfl rfl ?_
    obtain ⟨q1_, hq1_⟩ : ∃ q9, s1 598 9 = q9 := ⟨_, rfl⟩
    obtain ⟨w1_, hw1_⟩ : ∃ w9, l1 598 11 = w9 := ⟨_, rfl⟩
    have hk1_ := MSt.tk hM1
    rw [hq1_, hw1_] at hk1_
    have hk1_ : tkR q1_ (s1 598 10) w1_ (k z1.1) (nm z1.1) := hk1_
    have ha1_ := tkR_a hk1_
    have hd1_ := ha1_
    unfold tkA at hd1_
    have hz1_ : 0 ≤ z1.1 ∧ z1.1 < tn := hM1.2.1.1
    have hkr1_ := hG.2.2.2.2.2.2 z1.1
    refine wi_bi hc rfl rfl ?_
    refine wi_bi hc rfl rfl ?_
    refine wi_bi hc rfl rfl ?_
    have hc2 : mm_Ev mm_ct mm_CM (0 + 1) 167 [.int (iI 110), .int (iI 111), .int (iI 116)] (MX L t s1 l1) (some (.long (lI 7237492)), MX L t s1 l1) := sp_167 (d := 0) ⟨by decide, by decide⟩ ⟨by decide, by decide⟩ ⟨by decide, by decide⟩
    refine wp_cs (As := [.int (iI 110), .int (iI 111), .int (iI 116)]) (r := [.ref 598]) hc rfl (by rw [cm_167]; rfl) rfl (Nat.le_of_ble_eq_true rfl) (ev_mono (hc2) (by omega)) ?_
    show mm_wp _ _ (12, [some (.ref 598), some (.int (iI jj)), none, none, none], [.long (lI 7237492), .ref 598], MX L t s1 l1) _
    refine wp_cv (b := 598) (As := [.long (lI 7237492)]) (r := []) hc rfl (by rw [cm_171]; rfl) rfl (Nat.le_of_ble_eq_true rfl) (show 598 < 621 by decide) (by rw [cm_171]; rfl) (ev_mono (sp_171 (d := 0) hk1_ hq1_ hw1_ ⟨by decide, by decide⟩) (by omega)) ?_
    rw [show bI (q1_ = 2 ∧ w1_ = 7237492) = bI (k z1.1 = 28) by unfold bI; congr 1; exact propext ⟨fun e => (tkW_28 hk1_ e.1).mp e.2, fun e => ⟨by omega, (tkW_28 hk1_ (by omega)).mpr e⟩⟩]
    show mm_wp _ _ (15, [some (.ref 598), some (.int (iI jj)), none, none, none], [.int (iI (bI (k z1.1 = 28)))], MX L t s1 l1) _
    refine wi_beq hc rfl (fun h1_ => ?_) (fun h1_ => ?_)
    · skip
      refine wi_a1 hc rfl rfl ?_
      obtain ⟨f3_, y3_, hy3_⟩ : ∃ f y, rpSum k (rpOne k nm (15 + so) m1) z1 = (f, y) := ⟨_, _, rfl⟩
      have hr3_ : rpF (f3_, y3_) := hy3_ ▸ rpF_Sum (rpF_One _) _
      obtain ⟨s3_, l3_, hE3_, hC3_⟩ := su_183 (d := 0) (L := L) (t := t) (c := c) hG (m := m1) (by omega) hM1 b0 (by rw [FR_20 hF1]; exact hs9) hso ⟨by show 0 ≤ z1.2.2; omega, by show z1.2.2 ≤ z1.1; omega⟩ (by show c ≤ z1.2.2; omega) hy3_
      have hr13_ : 0 ≤ f3_ := hr3_.1
      have hr23_ : f3_ ≤ 5 := hr3_.2
      refine wp_cv (b := 598) (As := []) (r := []) hc rfl (by rw [cm_183]; rfl) rfl (Nat.le_of_ble_eq_true rfl) (show 598 < 621 by decide) (by rw [cm_183]; rfl) (ev_mono hE3_ (by omega)) ?_
      show mm_wp _ _ (53, [some (.ref 598), some (.int (iI jj)), none, none, none], [.int (iI f3_)], MX L t s3_ l3_) _
      refine wi_is1 (L' := [some (.ref 598), some (.int (iI jj)), some (.int (iI f3_)), none, none]) hc rfl (Nat.le_of_ble_eq_true rfl) rfl ?_
      refine wi_i1 hc rfl rfl ?_
      refine wi_zeq hc rfl ⟨by omega, by omega⟩ (fun h2_ => ?_) (fun h2_ => ?_)
      · have hf03_ : f3_ = 0 := h2_
        subst hf03_
        obtain ⟨x3_, Q3_, o3_, v3_, -, hM3_, hC03_, hFx3_⟩ := hC3_
        obtain ⟨hx3_, ho3_⟩ := hC03_ rfl
        rw [hx3_, ho3_] at hM3_
        have hM3_ : MSt f n k pl nm tn b s3_ l3_ y3_ Q3_ (8 - (m1 : Int)) v3_ := hM3_
        have hF3q : FR b c s s3_ l l3_ := hF1.tr hFx3_ (Int.le_refl c)
        obtain ⟨hk1_3, hk2_3, hk3_3, hk4_3, hk5_3⟩ := (rpSum_K (rpOne_K hk43 m1) hy3_).1
        have hk1_3 : z1.1 + 1 ≤ y3_.1 := hk1_3
        have hk2_3 : z1.2.2 + 1 ≤ y3_.2.2 := hk2_3
        have hk3_3 : y3_.2.2 - (z1.2.2) ≤ y3_.1 - (z1.1) := hk3_3
        obtain ⟨q4_, hq4_⟩ : ∃ q9, s3_ 598 9 = q9 := ⟨_, rfl⟩
        obtain ⟨w4_, hw4_⟩ : ∃ w9, l3_ 598 11 = w9 := ⟨_, rfl⟩
        have hk4_ := MSt.tk hM3_
        rw [hq4_, hw4_] at hk4_
        have hk4_ : tkR q4_ (s3_ 598 10) w4_ (k y3_.1) (nm y3_.1) := hk4_
        have ha4_ := tkR_a hk4_
        have hd4_ := ha4_
        unfold tkA at hd4_
        have hz4_ : 0 ≤ y3_.1 ∧ y3_.1 < tn := hM3_.2.1.1
        have hkr4_ := hG.2.2.2.2.2.2 y3_.1
        refine wi_a1 hc rfl rfl ?_
        refine wp_cv (b := 598) (As := []) (r := []) hc rfl (by rw [cm_184]; rfl) rfl (Nat.le_of_ble_eq_true rfl) (show 598 < 621 by decide) (by rw [cm_184]; rfl) (ev_mono (sp_184 (d := 0) ha4_ hq4_) (by omega)) ?_
        have hcp4_ := cpO_s (k y3_.1)
        show mm_wp _ _ (64, [some (.ref 598), some (.int (iI jj)), some (.int (iI 0)), none, none], [.int (iI (cpO (k y3_.1)))], MX L t s3_ l3_) _
        refine wi_is1 (L' := [some (.ref 598), some (.int (iI jj)), some (.int (iI 0)), some (.int (iI (cpO (k y3_.1)))), none]) hc rfl (Nat.le_of_ble_eq_true rfl) rfl ?_
        refine wi_i1 hc rfl rfl ?_
        refine wi_zge hc rfl ⟨by omega, by omega⟩ (fun h3_ => ?_) (fun h3_ => ?_)
        · have hcq : rpIs (k y3_.1) = true ∧ cpO (k y3_.1) = mop (10000 + k y3_.1) ∧ mvl (10000 + k y3_.1) = 0 ∧ 10 ≤ cpO (k y3_.1) ∧ cpO (k y3_.1) ≤ 15 := by
            rcases hcp4_ with g | g
            · exact g
            · exfalso; omega
          have hcr := rpIs_iff.mp hcq.1
          refine wi_a1 hc rfl rfl ?_
          have hnx5_ : y3_.1 + 1 < tn := GTX_nx hG (by omega) (by omega) (by omega)
          obtain ⟨s5_, l5_, hE5_, hM5_, hF5_⟩ := nx_166 (d := 0) (L := L) (t := t) (c := c) hG hM3_ (by show y3_.1 + 1 < tn; exact GTX_nx hG (by omega) (by omega) (by omega))
          refine wp_cv (b := 598) (As := []) (r := []) hc rfl (by rw [cm_166]; rfl) rfl (Nat.le_of_ble_eq_true rfl) (show 598 < 621 by decide) (by rw [cm_166]; rfl) (ev_mono hE5_ (by omega)) ?_
          have hF5q : FR b c s s5_ l l5_ := hF3q.tr hF5_ (Int.le_refl c)
          show mm_wp _ _ (75, [some (.ref 598), some (.int (iI jj)), some (.int (iI 0)), some (.int (iI (cpO (k y3_.1)))), none], [], MX L t s5_ l5_) _
          refine wi_a1 hc rfl rfl ?_
          obtain ⟨f6_, y6_, hy6_⟩ : ∃ f y, rpSum k (rpOne k nm (15 + so) m1) (rpNx y3_) = (f, y) := ⟨_, _, rfl⟩
          have hr6_ : rpF (f6_, y6_) := hy6_ ▸ rpF_Sum (rpF_One _) _
          obtain ⟨s6_, l6_, hE6_, hC6_⟩ := su_183 (d := 0) (L := L) (t := t) (c := c) hG (m := m1) (by omega) hM5_ b0 (by rw [FR_20 hF5q]; exact hs9) hso ⟨by show 0 ≤ y3_.2.2; omega, by show y3_.2.2 ≤ y3_.1 + 1; omega⟩ (by show c ≤ y3_.2.2; omega) hy6_
          have hr16_ : 0 ≤ f6_ := hr6_.1
          have hr26_ : f6_ ≤ 5 := hr6_.2
          refine wp_cv (b := 598) (As := []) (r := []) hc rfl (by rw [cm_183]; rfl) rfl (Nat.le_of_ble_eq_true rfl) (show 598 < 621 by decide) (by rw [cm_183]; rfl) (ev_mono hE6_ (by omega)) ?_
          show mm_wp _ _ (79, [some (.ref 598), some (.int (iI jj)), some (.int (iI 0)), some (.int (iI (cpO (k y3_.1)))), none], [.int (iI f6_)], MX L t s6_ l6_) _
          refine wi_is1 (L' := [some (.ref 598), some (.int (iI jj)), some (.int (iI f6_)), some (.int (iI (cpO (k y3_.1)))), none]) hc rfl (Nat.le_of_ble_eq_true rfl) rfl ?_
          refine wi_i1 hc rfl rfl ?_
          refine wi_zeq hc rfl ⟨by omega, by omega⟩ (fun h4_ => ?_) (fun h4_ => ?_)
          · have hf06_ : f6_ = 0 := h4_
            subst hf06_
            obtain ⟨x6_, Q6_, o6_, v6_, -, hM6_, hC06_, hFx6_⟩ := hC6_
            obtain ⟨hx6_, ho6_⟩ := hC06_ rfl
            rw [hx6_, ho6_] at hM6_
            have hM6_ : MSt f n k pl nm tn b s6_ l6_ y6_ Q6_ (8 - (m1 : Int)) v6_ := hM6_
            have hF6q : FR b c s s6_ l l6_ := hF5q.tr hFx6_ (Int.le_refl c)
            obtain ⟨hk1_6, hk2_6, hk3_6, hk4_6, hk5_6⟩ := (rpSum_K (rpOne_K hk43 m1) hy6_).1
            have hk1_6 : y3_.1 + 1 + 1 ≤ y6_.1 := hk1_6
            have hk2_6 : y3_.2.2 + 1 ≤ y6_.2.2 := hk2_6
            have hk3_6 : y6_.2.2 - (y3_.2.2) ≤ y6_.1 - (y3_.1 + 1) := hk3_6
            refine wi_a1 hc rfl rfl ?_
            refine wi_i1 hc rfl rfl ?_
            refine wi_ic hc rfl ?_
            obtain ⟨s7_, hE7_, hM7_, hF7_⟩ := em_172 (d := 0) (L := L) (t := t) (c := c) (x9 := cpO (k y3_.1)) (v9 := 0) hM6_ b0 ⟨by show 0 ≤ y6_.2.2; omega, by show y6_.2.2 < 300; omega⟩ (by show c ≤ y6_.2.2; omega) (10000 + k y3_.1) hcq.2.1.symm hcq.2.2.1
            refine wp_cv (b := 598) (As := [.int (iI (cpO (k y3_.1))), .int (iI 0)]) (r := []) hc rfl (by rw [cm_172]; rfl) rfl (Nat.le_of_ble_eq_true rfl) (show 598 < 621 by decide) (by rw [cm_172]; rfl) (ev_mono hE7_ (by omega)) ?_
            have hF7q : FR b c s s7_ l l6_ := hF6q.tr hF7_ (Int.le_refl c)
            show mm_wp _ _ (92, [some (.ref 598), some (.int (iI jj)), some (.int (iI 0)), some (.int (iI (cpO (k y3_.1)))), none], [], MX L t s7_ l6_) _
            refine wi_a1 hc rfl rfl ?_
            refine wi_dupr hc rfl ?_
            refine wi_gfv (kz := 18) rfl hc rfl rfl (by decide) (Nat.le_of_ble_eq_true rfl) rfl (v := (8 - (m1 : Int))) (MSt.ro hM7_) ?_
            refine wi_i1 hc rfl rfl ?_
            refine wi_sub hc rfl ?_
            refine wi_pf (kz := 18) rfl hc rfl rfl (by decide) (Nat.le_of_ble_eq_true rfl) rfl (Nat.le_of_ble_eq_true rfl) ⟨rfl, rfl⟩ rfl ?_
            obtain ⟨s8_, es8_⟩ : ∃ q, q = up s7_ 598 18 ((8 - (m1 : Int)) - jj) := ⟨_, rfl⟩
            rw [← es8_]
            have hMs8_ : MSt f n k pl nm tn b s8_ l6_ (rpPut (10000 + k y3_.1) y6_) Q6_ ((8 - (m1 : Int)) - jj) v6_ := by rw [es8_]; exact MSt.so hM7_
            have hFs8_ : FR b c s s8_ l l6_ := hF7q.tr (by rw [es8_]; exact FR.u (by decide)) (Int.le_refl c)
            have hO9_ : MSt f n k pl nm tn b s8_ l6_ (rpPut (10000 + k y3_.1) y6_) Q6_ (8 - (m : Int)) v6_ := by rw [show (8 - (m : Int)) = (8 - (m1 : Int)) - jj by omega]; exact hMs8_
            refine wi_ic hc rfl ?_
            refine wi_is2 (L' := [some (.ref 598), some (.int (iI jj)), some (.int (iI 0)), some (.int (iI (cpO (k y3_.1)))), some (.int (iI 0))]) hc rfl (Nat.le_of_ble_eq_true rfl) rfl ?_
            have loop105_ : ∀ N : Nat, ∀ (i : Int) (y9 : rpS) (s9 : Nat → Int → Int), N + i = jj → MSt f n k pl nm tn b s9 l6_ y9 Q6_ (8 - (m : Int)) v6_ → FR b c s s9 l l6_ → r = (0, nts N y9) → c ≤ y9.2.2 → 0 ≤ y9.2.2 → y9.2.2 + N ≤ y9.1 → y9.1 < tn → mm_wp (mm_Ev mm_ct mm_CM (d + 7)) 185 (105, [some (.ref 598), some (.int (iI jj)), some (.int (iI 0)), some (.int (iI (cpO (k y3_.1)))), some (.int (iI i))], [], MX L t s9 l6_) (fun res => ∃ s1 l1, res = (some (.int (iI r.1)), MX L t s1 l1) ∧ MRs f n k pl nm tn b c s s1 l l1 r (8 - (m : Int))) := by
              refine wf_ind ?_
              intro N ih9 i y9 s9 hN hM9 hF9 hR9 hy90 hy91 hy92 hy93
              refine wi_i2 hc rfl rfl ?_
              refine wi_i1 hc rfl rfl ?_
              refine wi_cge hc rfl ⟨by omega, by omega⟩ ⟨by omega, by omega⟩ (fun h5_ => ?_) (fun h5_ => ?_)
              · refine wi_ic hc rfl ?_
                refine wi_ri hc rfl (by rw [cm_185]; rfl) ?_
                have hr9 : r = (0, y9) := by
                  rw [hR9, show N = 0 by omega]
                  rfl
                subst hr9
                exact ⟨s9, l6_, rfl, MRs.ok hM9 hF9⟩
              · obtain ⟨N2, rfl⟩ : ∃ q, N = q + 1 := ⟨N - 1, by omega⟩
                refine wi_a1 hc rfl rfl ?_
                refine wi_bi hc rfl rfl ?_
                refine wi_ic hc rfl ?_
                obtain ⟨s10_, hE10_, hM10_, hF10_⟩ := em_172 (d := 0) (L := L) (t := t) (c := c) (x9 := 20) (v9 := 0) hM9 b0 ⟨by show 0 ≤ y9.2.2; omega, by show y9.2.2 < 300; omega⟩ (by show c ≤ y9.2.2; omega) (10028) rfl rfl
                refine wp_cv (b := 598) (As := [.int (iI 20), .int (iI 0)]) (r := []) hc rfl (by rw [cm_172]; rfl) rfl (Nat.le_of_ble_eq_true rfl) (show 598 < 621 by decide) (by rw [cm_172]; rfl) (ev_mono hE10_ (by omega)) ?_
                have hF10q : FR b c s s10_ l l6_ := hF9.tr hF10_ (Int.le_refl c)
                show mm_wp _ _ (118, [some (.ref 598), some (.int (iI jj)), some (.int (iI 0)), some (.int (iI (cpO (k y3_.1)))), some (.int (iI i))], [], MX L t s10_ l6_) _
                refine wi_inc (L' := [some (.ref 598), some (.int (iI jj)), some (.int (iI 0)), some (.int (iI (cpO (k y3_.1)))), some (.int (iI (i + 1)))]) hc rfl rfl rfl ?_
                refine wi_go hc rfl ?_
                exact ih9 N2 (by omega) (i + 1) (rpPut 10028 y9) s10_ (by omega) hM10_ hF10q hR9 (by show c ≤ y9.2.2 + 1; omega) (by show 0 ≤ y9.2.2 + 1; omega) (by show y9.2.2 + 1 + (N2 : Int) ≤ y9.1; omega) hy93
            exact loop105_ j 0 (rpPut (10000 + k y3_.1) y6_) s8_ (by omega) hO9_ hFs8_ (by rw [← hR, rpAsk_c h1_, rpCmp_1 hy3_ hcq.1, hy6_]; rfl) (by show c ≤ y6_.2.2 + 1; omega) (by show 0 ≤ y6_.2.2 + 1; omega) (by show y6_.2.2 + 1 + (j : Int) ≤ y6_.1; omega) (by show y6_.1 < tn; omega)
          · skip
            refine wi_i1 hc rfl rfl ?_
            refine wi_ri hc rfl (by rw [cm_185]; rfl) ?_
            have hr9 : r = (f6_, y6_) := by rw [← hR, rpAsk_c h1_, rpCmp_1 hy3_ hcq.1, hy6_, rpB_n (r := (f6_, y6_)) h4_, rpB_n (r := (f6_, y6_)) h4_]
            subst hr9
            exact ⟨s6_, l6_, rfl, MRs.nn hC6_ h4_ rfl hF5q (Int.le_refl c)⟩
        · refine wi_ic hc rfl ?_
          refine wi_ri hc rfl (by rw [cm_185]; rfl) ?_
          have hr9 : r = (1, y3_) := by
            rw [← hR, rpAsk_c h1_, rpCmp_0 hy3_ (by rcases hcp4_ with g | g; (exfalso; omega); exact g.1)]
            rfl
          subst hr9
          exact ⟨s3_, l3_, rfl, MRs.no (by decide) hM3_ hF3q⟩
      · skip
        refine wi_i1 hc rfl rfl ?_
        refine wi_ri hc rfl (by rw [cm_185]; rfl) ?_
        have hr9 : r = (f3_, y3_) := by rw [← hR, rpAsk_c h1_, rpCmp_n (r := (f3_, y3_)) hy3_ h2_, rpB_n (r := (f3_, y3_)) h2_]
        subst hr9
        exact ⟨s3_, l3_, rfl, MRs.nn hC3_ h2_ rfl hF1 (Int.le_refl c)⟩
    · skip
      refine wi_a1 hc rfl rfl ?_
      refine wi_gfv (kz := 18) rfl hc rfl rfl (by decide) (Nat.le_of_ble_eq_true rfl) rfl (v := (8 - (m1 : Int))) (MSt.ro hM1) ?_
      refine wi_bi hc rfl rfl ?_
      refine wi_cne hc rfl ⟨by omega, by omega⟩ ⟨by decide, by decide⟩ (fun h6_ => ?_) (fun h6_ => ?_)
      · obtain ⟨m2, rfl⟩ : ∃ q, m1 = q + 1 := ⟨m1 - 1, by omega⟩
        refine wi_a1 hc rfl rfl ?_
        refine wi_dupr hc rfl ?_
        refine wi_gfv (kz := 18) rfl hc rfl rfl (by decide) (Nat.le_of_ble_eq_true rfl) rfl (v := (8 - ((m2 + 1 : Nat) : Int))) (MSt.ro hM1) ?_
        refine wi_ic hc rfl ?_
        refine wi_add hc rfl ?_
        refine wi_pf (kz := 18) rfl hc rfl rfl (by decide) (Nat.le_of_ble_eq_true rfl) rfl (Nat.le_of_ble_eq_true rfl) ⟨rfl, rfl⟩ rfl ?_
        obtain ⟨s11_, es11_⟩ : ∃ q, q = up s1 598 18 ((8 - ((m2 + 1 : Nat) : Int)) + 1) := ⟨_, rfl⟩
        rw [← es11_]
        have hMs11_ : MSt f n k pl nm tn b s11_ l1 z1 P ((8 - ((m2 + 1 : Nat) : Int)) + 1) w1 := by rw [es11_]; exact MSt.so hM1
        have hFs11_ : FR b c s s11_ l l1 := hF1.tr (by rw [es11_]; exact FR.u (by decide)) (Int.le_refl c)
        refine wi_inc (L' := [some (.ref 598), some (.int (iI (jj + 1))), none, none, none]) hc rfl rfl rfl ?_
        refine wi_a1 hc rfl rfl ?_
        have hnx12_ : z1.1 + 1 < tn := GTX_nx hG (by omega) (by omega) (by omega)
        obtain ⟨s12_, l12_, hE12_, hM12_, hF12_⟩ := nx_166 (d := 0) (L := L) (t := t) (c := c) hG hMs11_ (by show z1.1 + 1 < tn; exact GTX_nx hG (by omega) (by omega) (by omega))
        refine wp_cv (b := 598) (As := []) (r := []) hc rfl (by rw [cm_166]; rfl) rfl (Nat.le_of_ble_eq_true rfl) (show 598 < 621 by decide) (by rw [cm_166]; rfl) (ev_mono hE12_ (by omega)) ?_
        have hF12q : FR b c s s12_ l l12_ := hFs11_.tr hF12_ (Int.le_refl c)
        show mm_wp _ _ (46, [some (.ref 598), some (.int (iI (jj + 1))), none, none, none], [], MX L t s12_ l12_) _
        refine wi_go hc rfl ?_
        exact ih m2 (by omega) (j + 1) (jj + 1) (rpNx z1) w1 s12_ l12_ (by omega) (by omega) (by rw [show 8 - (m2 : Int) = (8 - ((m2 + 1 : Nat) : Int)) + 1 by omega]; exact hM12_) hF12q (by rw [← rpAsk_s h1_]; exact hR) hcA hcB (by show z1.2.2 + (jj + 1) ≤ z1.1 + 1; omega)
      · have hm0 : m1 = 0 := by omega
        refine wi_ic hc rfl ?_
        refine wi_ri hc rfl (by rw [cm_185]; rfl) ?_
        have hr9 : r = (3, z1) := by
          rw [← hR, hm0, rpAsk_3 h1_]
          rfl
        subst hr9
        exact ⟨s1, l1, rfl, MRs.no (by decide) hM1 hF1⟩
  exact loop2_ m 0 0 z w s l rfl rfl h FR.rf (by rw [← hr]; exact rpB_id) hcc hI.1 (by omega)
theorem sp_186 {d L t : Nat} {s l : Nat → Int → Int} {f : Int → Int} {n : Int} {kd k pl nm : Int → Int} {tn b : Int} {z : rpS} {P : List Int} {w c : Int} (hG : GTX f n kd k pl nm tn) (h : MSt f n k pl nm tn b s l z P 0 w) (b0 : 0 ≤ b ∧ b ≤ 2115) {so : Int} (hs9 : s 598 20 = so) (hso : 0 ≤ so ∧ so ≤ 9) (hI : 0 ≤ z.2.2 ∧ z.2.2 ≤ z.1) (hcc : c ≤ z.2.2) {r : rpR} (hr : rpEi k nm (15 + so) 301 false false z = r) : ∃ s1 l1, mm_Ev mm_ct mm_CM (d + 9) 186 [.ref 598] (MX L t s l) (some (.int (iI r.1)), MX L t s1 l1) ∧ MRs f n k pl nm tn b c s s1 l l1 r 0 := by
  have hc : (mm_CM 186).2.2.2.2.2.2.2 = mm_cf cd_186 := by rw [cm_186]; rfl
  refine ev_xsl ?_
  refine ev_to (mx := 6) (by rw [cm_186]; decide) (by rw [cm_186]; rfl) (by show 1 ≤ _; decide) ?_
  show mm_wp _ _ (0, [some (.ref 598), none, none, none, none, none], [], MX L t s l) (fun res => ∃ s1 l1, res = (some (.int (iI r.1)), MX L t s1 l1) ∧ MRs f n k pl nm tn b c s s1 l l1 r 0)
  have htn := GTX_tn hG
  have hk43 := GTX_43 hG
  refine wi_ic hc rfl ?_
  refine wi_is1 (L' := [some (.ref 598), some (.int (iI 0)), none, none, none, none]) hc rfl (Nat.le_of_ble_eq_true rfl) rfl ?_
  refine wi_ic hc rfl ?_
  refine wi_is1 (L' := [some (.ref 598), some (.int (iI 0)), some (.int (iI 0)), none, none, none]) hc rfl (Nat.le_of_ble_eq_true rfl) rfl ?_
  refine wi_ic hc rfl ?_
  refine wi_is1 (L' := [some (.ref 598), some (.int (iI 0)), some (.int (iI 0)), some (.int (iI 1)), none, none]) hc rfl (Nat.le_of_ble_eq_true rfl) rfl ?_
  have loop6_ : ∀ N : Nat, ∀ (y1 : rpS) (P1 : List Int) (w1 : Int) (s1 l1 : Nat → Int → Int) (an oo : Bool) (a9 b9 g9 : Int) (n9 : Nat) (o4 o5 : Option Value), (302 - y1.1).toNat ≤ N → MSt f n k pl nm tn b s1 l1 y1 P1 0 w1 → FR b c s s1 l l1 → a9 = bI (an = true) → b9 = bI (oo = true) → (g9 = 0 ∨ g9 = 1) → (g9 = 0 → r = (0, y1)) → (g9 = 1 → rpEi k nm (15 + so) n9 an oo y1 = r) → (g9 = 1 → 602 ≤ y1.1 + 2 * n9) → (g9 = 1 → y1.2.2 + a9 + b9 ≤ y1.1) → c ≤ y1.2.2 → 0 ≤ y1.2.2 → mm_wp (mm_Ev mm_ct mm_CM (d + 8)) 186 (6, [some (.ref 598), some (.int (iI a9)), some (.int (iI b9)), some (.int (iI g9)), o4, o5], [], MX L t s1 l1) (fun res => ∃ s1 l1, res = (some (.int (iI r.1)), MX L t s1 l1) ∧ MRs f n k pl nm tn b c s s1 l l1 r 0) := by
    refine wf_ind ?_
    intro N ih y1 P1 w1 s1 l1 an oo a9 b9 g9 n9 o4 o5 hN hM1 hF1 hA9 hB9 hG9 hR0 hR1 hn2 hcd hcA hcB
    have ha01 := bI_01 (an = true)
    have hb01 := bI_01 (oo = true)
    have hz1 := hM1.2.1.1
    refine wi_i1 hc rfl rfl ?_
    refine wi_zeq hc rfl ⟨by omega, by omega⟩ (fun h1_ => ?_) (fun h1_ => ?_)
    · refine wi_ic hc rfl ?_
      refine wi_ri hc rfl (by rw [cm_186]; rfl) ?_
      have hr9 : r = (0, y1) := by
        exact hR0 (by omega)
      subst hr9
      exact ⟨s1, l1, rfl, MRs.ok hM1 hF1⟩
    · have hR := hR1 (by omega)
      have hn3 := hn2 (by omega)
      have hcd3 := hcd (by omega)
      obtain ⟨n5, rfl⟩ : ∃ q, n9 = q + 1 := ⟨n9 - 1, by omega⟩
      rw [rpEi_s] at hR
      refine wi_a1 hc rfl rfl ?_
      obtain ⟨f1_, y1_, hy1_⟩ : ∃ f y, rpAsk k nm (15 + so) 8 y1 = (f, y) := ⟨_, _, rfl⟩
      have hr1_ : rpF (f1_, y1_) := hy1_ ▸ rpF_Ask _ _
      obtain ⟨s1_, l1_, hE1_, hC1_⟩ := sp_185 (d := 0) (L := L) (t := t) (c := c) hG (m := 8) (by decide) hM1 b0 (by rw [FR_20 hF1]; exact hs9) hso ⟨by show 0 ≤ y1.2.2; omega, by show y1.2.2 ≤ y1.1; omega⟩ (by show c ≤ y1.2.2; omega) hy1_
      have hr11_ : 0 ≤ f1_ := hr1_.1
      have hr21_ : f1_ ≤ 5 := hr1_.2
      refine wp_cv (b := 598) (As := []) (r := []) hc rfl (by rw [cm_185]; rfl) rfl (Nat.le_of_ble_eq_true rfl) (show 598 < 621 by decide) (by rw [cm_185]; rfl) (ev_mono hE1_ (by omega)) ?_
      show mm_wp _ _ (14, [some (.ref 598), some (.int (iI a9)), some (.int (iI b9)), some (.int (iI g9)), o4, o5], [.int (iI f1_)], MX L t s1_ l1_) _
      refine wi_is2 (L' := [some (.ref 598), some (.int (iI a9)), some (.int (iI b9)), some (.int (iI g9)), some (.int (iI f1_)), o5]) hc rfl (Nat.le_of_ble_eq_true rfl) rfl ?_
      refine wi_i2 hc rfl rfl ?_
      refine wi_zeq hc rfl ⟨by omega, by omega⟩ (fun h2_ => ?_) (fun h2_ => ?_)
      · have hf01_ : f1_ = 0 := h2_
        subst hf01_
        obtain ⟨x1_, Q1_, o1_, v1_, -, hM1_, hC01_, hFx1_⟩ := hC1_
        obtain ⟨hx1_, ho1_⟩ := hC01_ rfl
        rw [hx1_, ho1_] at hM1_
        have hM1_ : MSt f n k pl nm tn b s1_ l1_ y1_ Q1_ 0 v1_ := hM1_
        have hF1q : FR b c s s1_ l l1_ := hF1.tr hFx1_ (Int.le_refl c)
        obtain ⟨hk1_1, hk2_1, hk3_1, hk4_1, hk5_1⟩ := rpAsk_K hk43 8 _ _ hy1_
        have hk1_1 : y1.1 + 1 ≤ y1_.1 := hk1_1
        have hk2_1 : y1.2.2 + 1 ≤ y1_.2.2 := hk2_1
        have hk3_1 : y1_.2.2 - (y1.2.2) ≤ y1_.1 - (y1.1) := hk3_1
        refine wi_i1 hc rfl rfl ?_
        refine wi_zeq hc rfl ⟨by omega, by omega⟩ (fun h3_ => ?_) (fun h3_ => ?_)
        · have hR2 : rpEf k nm (15 + so) n5 oo y1_ = r := by
            have e : an = false := by cases an with | false => rfl | true => exfalso; rw [bI_t rfl] at hA9; omega
            rw [← hR, hy1_, e]
            rfl
          obtain ⟨q2_, hq2_⟩ : ∃ q9, s1_ 598 9 = q9 := ⟨_, rfl⟩
          obtain ⟨w2_, hw2_⟩ : ∃ w9, l1_ 598 11 = w9 := ⟨_, rfl⟩
          have hk2_ := MSt.tk hM1_
          rw [hq2_, hw2_] at hk2_
          have hk2_ : tkR q2_ (s1_ 598 10) w2_ (k y1_.1) (nm y1_.1) := hk2_
          have ha2_ := tkR_a hk2_
          have hd2_ := ha2_
          unfold tkA at hd2_
          have hz2_ : 0 ≤ y1_.1 ∧ y1_.1 < tn := hM1_.2.1.1
          have hkr2_ := hG.2.2.2.2.2.2 y1_.1
          refine wi_a1 hc rfl rfl ?_
          refine wi_bi hc rfl rfl ?_
          refine wi_bi hc rfl rfl ?_
          refine wi_bi hc rfl rfl ?_
          have hc3 : mm_Ev mm_ct mm_CM (0 + 1) 167 [.int (iI 97), .int (iI 110), .int (iI 100)] (MX L t s1_ l1_) (some (.long (lI 6385252)), MX L t s1_ l1_) := sp_167 (d := 0) ⟨by decide, by decide⟩ ⟨by decide, by decide⟩ ⟨by decide, by decide⟩
          refine wp_cs (As := [.int (iI 97), .int (iI 110), .int (iI 100)]) (r := [.ref 598]) hc rfl (by rw [cm_167]; rfl) rfl (Nat.le_of_ble_eq_true rfl) (ev_mono (hc3) (by omega)) ?_
          show mm_wp _ _ (45, [some (.ref 598), some (.int (iI a9)), some (.int (iI b9)), some (.int (iI g9)), some (.int (iI 0)), o5], [.long (lI 6385252), .ref 598], MX L t s1_ l1_) _
          refine wp_cv (b := 598) (As := [.long (lI 6385252)]) (r := []) hc rfl (by rw [cm_171]; rfl) rfl (Nat.le_of_ble_eq_true rfl) (show 598 < 621 by decide) (by rw [cm_171]; rfl) (ev_mono (sp_171 (d := 0) hk2_ hq2_ hw2_ ⟨by decide, by decide⟩) (by omega)) ?_
          rw [show bI (q2_ = 2 ∧ w2_ = 6385252) = bI (k y1_.1 = 27) by unfold bI; congr 1; exact propext ⟨fun e => (tkW_27 hk2_ e.1).mp e.2, fun e => ⟨by omega, (tkW_27 hk2_ (by omega)).mpr e⟩⟩]
          show mm_wp _ _ (48, [some (.ref 598), some (.int (iI a9)), some (.int (iI b9)), some (.int (iI g9)), some (.int (iI 0)), o5], [.int (iI (bI (k y1_.1 = 27)))], MX L t s1_ l1_) _
          refine wi_is1 (L' := [some (.ref 598), some (.int (iI (bI (k y1_.1 = 27)))), some (.int (iI b9)), some (.int (iI g9)), some (.int (iI 0)), o5]) hc rfl (Nat.le_of_ble_eq_true rfl) rfl ?_
          refine wi_a1 hc rfl rfl ?_
          refine wi_gfv (kz := 9) rfl hc rfl rfl (by decide) (Nat.le_of_ble_eq_true rfl) rfl (v := q2_) (hq2_) ?_
          refine wi_ic hc rfl ?_
          refine wi_cne hc rfl ⟨by omega, by omega⟩ ⟨by decide, by decide⟩ (fun h4_ => ?_) (fun h4_ => ?_)
          · have h26 : k y1_.1 ≠ 26 := by omega
            refine wi_ic hc rfl ?_
            refine wi_is2 (L' := [some (.ref 598), some (.int (iI (bI (k y1_.1 = 27)))), some (.int (iI b9)), some (.int (iI g9)), some (.int (iI 0)), some (.int (iI 0))]) hc rfl (Nat.le_of_ble_eq_true rfl) rfl ?_
            refine wi_i1 hc rfl rfl ?_
            refine wi_bne hc rfl (fun h5_ => ?_) (fun h5_ => ?_)
            · rw [rpEf, if_pos (show k y1_.1 = 27 from h5_)] at hR2
              refine wi_i1 hc rfl rfl ?_
              refine wi_bne hc rfl (fun h6_ => ?_) (fun h6_ => (by exfalso; omega))
              refine wi_ic hc rfl ?_
              refine wi_go hc rfl ?_
              refine wi_is1 (L' := [some (.ref 598), some (.int (iI (bI (k y1_.1 = 27)))), some (.int (iI b9)), some (.int (iI 1)), some (.int (iI 0)), some (.int (iI 0))]) hc rfl (Nat.le_of_ble_eq_true rfl) rfl ?_
              refine wi_i1 hc rfl rfl ?_
              refine wi_zeq hc rfl ⟨by decide, by decide⟩ (fun q => absurd q (by decide)) (fun _ => ?_)
              refine wi_a1 hc rfl rfl ?_
              have hnx4_ : y1_.1 + 1 < tn := GTX_nx hG (by omega) (by omega) (by omega)
              obtain ⟨s4_, l4_, hE4_, hM4_, hF4_⟩ := nx_166 (d := 0) (L := L) (t := t) (c := c) hG hM1_ (by show y1_.1 + 1 < tn; exact GTX_nx hG (by omega) (by omega) (by omega))
              refine wp_cv (b := 598) (As := []) (r := []) hc rfl (by rw [cm_166]; rfl) rfl (Nat.le_of_ble_eq_true rfl) (show 598 < 621 by decide) (by rw [cm_166]; rfl) (ev_mono hE4_ (by omega)) ?_
              have hF4q : FR b c s s4_ l l4_ := hF1q.tr hF4_ (Int.le_refl c)
              show mm_wp _ _ (116, [some (.ref 598), some (.int (iI (bI (k y1_.1 = 27)))), some (.int (iI b9)), some (.int (iI 1)), some (.int (iI 0)), some (.int (iI 0))], [], MX L t s4_ l4_) _
              refine wi_go hc rfl ?_
              have e9 : k y1_.1 = 27 := by omega
              exact ih (302 - (y1_.1 + 1)).toNat (by omega) (rpNx y1_) Q1_ v1_ s4_ l4_ true oo _ b9 1 n5 (some (.int (iI 0))) (some (.int (iI 0))) (Nat.le_refl _) hM4_ hF4q (by rw [bI_t e9, bI_t rfl]) hB9 (Or.inr rfl) (fun e => absurd e (by decide)) (fun _ => hR2) (fun _ => by show 602 ≤ y1_.1 + 1 + 2 * (n5 : Int); omega) (fun _ => by rw [bI_t e9]; show y1_.2.2 + 1 + b9 ≤ y1_.1 + 1; omega) (by show c ≤ y1_.2.2; omega) (by show 0 ≤ y1_.2.2; omega)
            · rw [rpEf, if_neg (show ¬ k y1_.1 = 27 from h5_), if_neg (show ¬ k y1_.1 = 26 from h26)] at hR2
              refine wi_i1 hc rfl rfl ?_
              refine wi_zeq hc rfl ⟨by omega, by omega⟩ (fun h8_ => ?_) (fun h8_ => ?_)
              · have e9 : oo = false := by
                  cases oo with
                  | false => rfl
                  | true => exfalso; rw [bI_t rfl] at hB9; omega
                rw [e9] at hR2
                refine wi_i2 hc rfl rfl ?_
                refine wi_is1 (L' := [some (.ref 598), some (.int (iI (bI (k y1_.1 = 27)))), some (.int (iI 0)), some (.int (iI g9)), some (.int (iI 0)), some (.int (iI 0))]) hc rfl (Nat.le_of_ble_eq_true rfl) rfl ?_
                refine wi_i1 hc rfl rfl ?_
                refine wi_bne hc rfl (fun h9_ => (by exfalso; omega)) (fun h9_ => ?_)
                refine wi_i2 hc rfl rfl ?_
                refine wi_zeq hc rfl ⟨by decide, by decide⟩ (fun _ => ?_) (fun q => absurd q (by decide))
                refine wi_ic hc rfl ?_
                refine wi_is1 (L' := [some (.ref 598), some (.int (iI (bI (k y1_.1 = 27)))), some (.int (iI 0)), some (.int (iI 0)), some (.int (iI 0)), some (.int (iI 0))]) hc rfl (Nat.le_of_ble_eq_true rfl) rfl ?_
                refine wi_i1 hc rfl rfl ?_
                refine wi_zeq hc rfl ⟨by decide, by decide⟩ (fun _ => ?_) (fun q => absurd q (by decide))
                refine wi_go hc rfl ?_
                have e9 : ¬ k y1_.1 = 27 := by omega
                exact ih (302 - (y1_.1)).toNat (by omega) y1_ Q1_ v1_ s1_ l1_ false false _ 0 0 n5 (some (.int (iI 0))) (some (.int (iI 0))) (Nat.le_refl _) hM1_ hF1q (by rw [bI_f e9, bI_f (by decide)]) (bI_f (by decide)).symm (Or.inl rfl) (fun _ => hR2.symm) (fun e => absurd e (by decide)) (fun e => absurd e (by decide)) (fun e => absurd e (by decide)) (by show c ≤ y1_.2.2; omega) (by show 0 ≤ y1_.2.2; omega)
              · have e9 : oo = true := by
                  cases oo with
                  | true => rfl
                  | false => exfalso; rw [bI_f (by decide)] at hB9; omega
                rw [e9] at hR2
                refine wi_a1 hc rfl rfl ?_
                refine wi_bi hc rfl rfl ?_
                refine wi_ic hc rfl ?_
                obtain ⟨s5_, hE5_, hM5_, hF5_⟩ := em_172 (d := 0) (L := L) (t := t) (c := c) (x9 := 22) (v9 := 0) hM1_ b0 ⟨by show 0 ≤ y1_.2.2; omega, by show y1_.2.2 < 300; omega⟩ (by show c ≤ y1_.2.2; omega) (10026) rfl rfl
                refine wp_cv (b := 598) (As := [.int (iI 22), .int (iI 0)]) (r := []) hc rfl (by rw [cm_172]; rfl) rfl (Nat.le_of_ble_eq_true rfl) (show 598 < 621 by decide) (by rw [cm_172]; rfl) (ev_mono hE5_ (by omega)) ?_
                have hF5q : FR b c s s5_ l l1_ := hF1q.tr hF5_ (Int.le_refl c)
                show mm_wp _ _ (90, [some (.ref 598), some (.int (iI (bI (k y1_.1 = 27)))), some (.int (iI b9)), some (.int (iI g9)), some (.int (iI 0)), some (.int (iI 0))], [], MX L t s5_ l1_) _
                refine wi_i2 hc rfl rfl ?_
                refine wi_is1 (L' := [some (.ref 598), some (.int (iI (bI (k y1_.1 = 27)))), some (.int (iI 0)), some (.int (iI g9)), some (.int (iI 0)), some (.int (iI 0))]) hc rfl (Nat.le_of_ble_eq_true rfl) rfl ?_
                refine wi_i1 hc rfl rfl ?_
                refine wi_bne hc rfl (fun h12_ => (by exfalso; omega)) (fun h12_ => ?_)
                refine wi_i2 hc rfl rfl ?_
                refine wi_zeq hc rfl ⟨by decide, by decide⟩ (fun _ => ?_) (fun q => absurd q (by decide))
                refine wi_ic hc rfl ?_
                refine wi_is1 (L' := [some (.ref 598), some (.int (iI (bI (k y1_.1 = 27)))), some (.int (iI 0)), some (.int (iI 0)), some (.int (iI 0)), some (.int (iI 0))]) hc rfl (Nat.le_of_ble_eq_true rfl) rfl ?_
                refine wi_i1 hc rfl rfl ?_
                refine wi_zeq hc rfl ⟨by decide, by decide⟩ (fun _ => ?_) (fun q => absurd q (by decide))
                refine wi_go hc rfl ?_
                have e9 : ¬ k y1_.1 = 27 := by omega
                exact ih (302 - (y1_.1)).toNat (by omega) (rpPut (10026) y1_) Q1_ v1_ s5_ l1_ false false _ 0 0 n5 (some (.int (iI 0))) (some (.int (iI 0))) (Nat.le_refl _) hM5_ hF5q (by rw [bI_f e9, bI_f (by decide)]) (bI_f (by decide)).symm (Or.inl rfl) (fun _ => hR2.symm) (fun e => absurd e (by decide)) (fun e => absurd e (by decide)) (fun e => absurd e (by decide)) (by show c ≤ y1_.2.2 + 1; omega) (by show 0 ≤ y1_.2.2 + 1; omega)
          · have hwr9 := (tkR_w hk2_ (by omega)).1
            refine wi_a1 hc rfl rfl ?_
            refine wi_glv (kz := 11) rfl hc rfl rfl (by decide) (Nat.le_of_ble_eq_true rfl) rfl (v := w2_) (hw2_) ?_
            refine wl_ld (z := 28530) hc rfl rfl ?_
            have h15_ := cmpI_spec w2_ 28530
            refine wl_cmp hc rfl ⟨by omega, by omega⟩ ⟨by decide, by decide⟩ ?_
            refine wi_zne hc rfl (cmpI_r _ _) (fun h16_ => ?_) (fun h16_ => ?_)
            · have h26 : k y1_.1 ≠ 26 := fun e => absurd ((tkW_26 hk2_ (by omega)).mpr e) (by omega)
              refine wi_ic hc rfl ?_
              refine wi_is2 (L' := [some (.ref 598), some (.int (iI (bI (k y1_.1 = 27)))), some (.int (iI b9)), some (.int (iI g9)), some (.int (iI 0)), some (.int (iI 0))]) hc rfl (Nat.le_of_ble_eq_true rfl) rfl ?_
              refine wi_i1 hc rfl rfl ?_
              refine wi_bne hc rfl (fun h17_ => ?_) (fun h17_ => ?_)
              · rw [rpEf, if_pos (show k y1_.1 = 27 from h17_)] at hR2
                refine wi_i1 hc rfl rfl ?_
                refine wi_bne hc rfl (fun h18_ => ?_) (fun h18_ => (by exfalso; omega))
                refine wi_ic hc rfl ?_
                refine wi_go hc rfl ?_
                refine wi_is1 (L' := [some (.ref 598), some (.int (iI (bI (k y1_.1 = 27)))), some (.int (iI b9)), some (.int (iI 1)), some (.int (iI 0)), some (.int (iI 0))]) hc rfl (Nat.le_of_ble_eq_true rfl) rfl ?_
                refine wi_i1 hc rfl rfl ?_
                refine wi_zeq hc rfl ⟨by decide, by decide⟩ (fun q => absurd q (by decide)) (fun _ => ?_)
                refine wi_a1 hc rfl rfl ?_
                have hnx6_ : y1_.1 + 1 < tn := GTX_nx hG (by omega) (by omega) (by omega)
                obtain ⟨s6_, l6_, hE6_, hM6_, hF6_⟩ := nx_166 (d := 0) (L := L) (t := t) (c := c) hG hM1_ (by show y1_.1 + 1 < tn; exact GTX_nx hG (by omega) (by omega) (by omega))
                refine wp_cv (b := 598) (As := []) (r := []) hc rfl (by rw [cm_166]; rfl) rfl (Nat.le_of_ble_eq_true rfl) (show 598 < 621 by decide) (by rw [cm_166]; rfl) (ev_mono hE6_ (by omega)) ?_
                have hF6q : FR b c s s6_ l l6_ := hF1q.tr hF6_ (Int.le_refl c)
                show mm_wp _ _ (116, [some (.ref 598), some (.int (iI (bI (k y1_.1 = 27)))), some (.int (iI b9)), some (.int (iI 1)), some (.int (iI 0)), some (.int (iI 0))], [], MX L t s6_ l6_) _
                refine wi_go hc rfl ?_
                have e9 : k y1_.1 = 27 := by omega
                exact ih (302 - (y1_.1 + 1)).toNat (by omega) (rpNx y1_) Q1_ v1_ s6_ l6_ true oo _ b9 1 n5 (some (.int (iI 0))) (some (.int (iI 0))) (Nat.le_refl _) hM6_ hF6q (by rw [bI_t e9, bI_t rfl]) hB9 (Or.inr rfl) (fun e => absurd e (by decide)) (fun _ => hR2) (fun _ => by show 602 ≤ y1_.1 + 1 + 2 * (n5 : Int); omega) (fun _ => by rw [bI_t e9]; show y1_.2.2 + 1 + b9 ≤ y1_.1 + 1; omega) (by show c ≤ y1_.2.2; omega) (by show 0 ≤ y1_.2.2; omega)
              · rw [rpEf, if_neg (show ¬ k y1_.1 = 27 from h17_), if_neg (show ¬ k y1_.1 = 26 from h26)] at hR2
                refine wi_i1 hc rfl rfl ?_
                refine wi_zeq hc rfl ⟨by omega, by omega⟩ (fun h20_ => ?_) (fun h20_ => ?_)
                · have e9 : oo = false := by
                    cases oo with
                    | false => rfl
                    | true => exfalso; rw [bI_t rfl] at hB9; omega
                  rw [e9] at hR2
                  refine wi_i2 hc rfl rfl ?_
                  refine wi_is1 (L' := [some (.ref 598), some (.int (iI (bI (k y1_.1 = 27)))), some (.int (iI 0)), some (.int (iI g9)), some (.int (iI 0)), some (.int (iI 0))]) hc rfl (Nat.le_of_ble_eq_true rfl) rfl ?_
                  refine wi_i1 hc rfl rfl ?_
                  refine wi_bne hc rfl (fun h21_ => (by exfalso; omega)) (fun h21_ => ?_)
                  refine wi_i2 hc rfl rfl ?_
                  refine wi_zeq hc rfl ⟨by decide, by decide⟩ (fun _ => ?_) (fun q => absurd q (by decide))
                  refine wi_ic hc rfl ?_
                  refine wi_is1 (L' := [some (.ref 598), some (.int (iI (bI (k y1_.1 = 27)))), some (.int (iI 0)), some (.int (iI 0)), some (.int (iI 0)), some (.int (iI 0))]) hc rfl (Nat.le_of_ble_eq_true rfl) rfl ?_
                  refine wi_i1 hc rfl rfl ?_
                  refine wi_zeq hc rfl ⟨by decide, by decide⟩ (fun _ => ?_) (fun q => absurd q (by decide))
                  refine wi_go hc rfl ?_
                  have e9 : ¬ k y1_.1 = 27 := by omega
                  exact ih (302 - (y1_.1)).toNat (by omega) y1_ Q1_ v1_ s1_ l1_ false false _ 0 0 n5 (some (.int (iI 0))) (some (.int (iI 0))) (Nat.le_refl _) hM1_ hF1q (by rw [bI_f e9, bI_f (by decide)]) (bI_f (by decide)).symm (Or.inl rfl) (fun _ => hR2.symm) (fun e => absurd e (by decide)) (fun e => absurd e (by decide)) (fun e => absurd e (by decide)) (by show c ≤ y1_.2.2; omega) (by show 0 ≤ y1_.2.2; omega)
                · have e9 : oo = true := by
                    cases oo with
                    | true => rfl
                    | false => exfalso; rw [bI_f (by decide)] at hB9; omega
                  rw [e9] at hR2
                  refine wi_a1 hc rfl rfl ?_
                  refine wi_bi hc rfl rfl ?_
                  refine wi_ic hc rfl ?_
                  obtain ⟨s7_, hE7_, hM7_, hF7_⟩ := em_172 (d := 0) (L := L) (t := t) (c := c) (x9 := 22) (v9 := 0) hM1_ b0 ⟨by show 0 ≤ y1_.2.2; omega, by show y1_.2.2 < 300; omega⟩ (by show c ≤ y1_.2.2; omega) (10026) rfl rfl
                  refine wp_cv (b := 598) (As := [.int (iI 22), .int (iI 0)]) (r := []) hc rfl (by rw [cm_172]; rfl) rfl (Nat.le_of_ble_eq_true rfl) (show 598 < 621 by decide) (by rw [cm_172]; rfl) (ev_mono hE7_ (by omega)) ?_
                  have hF7q : FR b c s s7_ l l1_ := hF1q.tr hF7_ (Int.le_refl c)
                  show mm_wp _ _ (90, [some (.ref 598), some (.int (iI (bI (k y1_.1 = 27)))), some (.int (iI b9)), some (.int (iI g9)), some (.int (iI 0)), some (.int (iI 0))], [], MX L t s7_ l1_) _
                  refine wi_i2 hc rfl rfl ?_
                  refine wi_is1 (L' := [some (.ref 598), some (.int (iI (bI (k y1_.1 = 27)))), some (.int (iI 0)), some (.int (iI g9)), some (.int (iI 0)), some (.int (iI 0))]) hc rfl (Nat.le_of_ble_eq_true rfl) rfl ?_
                  refine wi_i1 hc rfl rfl ?_
                  refine wi_bne hc rfl (fun h24_ => (by exfalso; omega)) (fun h24_ => ?_)
                  refine wi_i2 hc rfl rfl ?_
                  refine wi_zeq hc rfl ⟨by decide, by decide⟩ (fun _ => ?_) (fun q => absurd q (by decide))
                  refine wi_ic hc rfl ?_
                  refine wi_is1 (L' := [some (.ref 598), some (.int (iI (bI (k y1_.1 = 27)))), some (.int (iI 0)), some (.int (iI 0)), some (.int (iI 0)), some (.int (iI 0))]) hc rfl (Nat.le_of_ble_eq_true rfl) rfl ?_
                  refine wi_i1 hc rfl rfl ?_
                  refine wi_zeq hc rfl ⟨by decide, by decide⟩ (fun _ => ?_) (fun q => absurd q (by decide))
                  refine wi_go hc rfl ?_
                  have e9 : ¬ k y1_.1 = 27 := by omega
                  exact ih (302 - (y1_.1)).toNat (by omega) (rpPut (10026) y1_) Q1_ v1_ s7_ l1_ false false _ 0 0 n5 (some (.int (iI 0))) (some (.int (iI 0))) (Nat.le_refl _) hM7_ hF7q (by rw [bI_f e9, bI_f (by decide)]) (bI_f (by decide)).symm (Or.inl rfl) (fun _ => hR2.symm) (fun e => absurd e (by decide)) (fun e => absurd e (by decide)) (fun e => absurd e (by decide)) (by show c ≤ y1_.2.2 + 1; omega) (by show 0 ≤ y1_.2.2 + 1; omega)
            · have h26 : k y1_.1 = 26 := (tkW_26 hk2_ (by omega)).mp (by omega)
              rw [rpEf, if_neg (show ¬ k y1_.1 = 27 from (by omega : ¬ k y1_.1 = 27)), if_pos (show k y1_.1 = 26 from h26)] at hR2
              refine wi_ic hc rfl ?_
              refine wi_go hc rfl ?_
              refine wi_is2 (L' := [some (.ref 598), some (.int (iI (bI (k y1_.1 = 27)))), some (.int (iI b9)), some (.int (iI g9)), some (.int (iI 0)), some (.int (iI 1))]) hc rfl (Nat.le_of_ble_eq_true rfl) rfl ?_
              refine wi_i1 hc rfl rfl ?_
              refine wi_bne hc rfl (fun h27_ => (by exfalso; omega)) (fun h27_ => ?_)
              refine wi_i1 hc rfl rfl ?_
              refine wi_zeq hc rfl ⟨by omega, by omega⟩ (fun h28_ => ?_) (fun h28_ => ?_)
              · have e9 : oo = false := by
                  cases oo with
                  | false => rfl
                  | true => exfalso; rw [bI_t rfl] at hB9; omega
                rw [e9] at hR2
                refine wi_i2 hc rfl rfl ?_
                refine wi_is1 (L' := [some (.ref 598), some (.int (iI (bI (k y1_.1 = 27)))), some (.int (iI 1)), some (.int (iI g9)), some (.int (iI 0)), some (.int (iI 1))]) hc rfl (Nat.le_of_ble_eq_true rfl) rfl ?_
                refine wi_i1 hc rfl rfl ?_
                refine wi_bne hc rfl (fun h29_ => (by exfalso; omega)) (fun h29_ => ?_)
                refine wi_i2 hc rfl rfl ?_
                refine wi_zeq hc rfl ⟨by decide, by decide⟩ (fun q => absurd q (by decide)) (fun _ => ?_)
                refine wi_ic hc rfl ?_
                refine wi_go hc rfl ?_
                refine wi_is1 (L' := [some (.ref 598), some (.int (iI (bI (k y1_.1 = 27)))), some (.int (iI 1)), some (.int (iI 1)), some (.int (iI 0)), some (.int (iI 1))]) hc rfl (Nat.le_of_ble_eq_true rfl) rfl ?_
                refine wi_i1 hc rfl rfl ?_
                refine wi_zeq hc rfl ⟨by decide, by decide⟩ (fun q => absurd q (by decide)) (fun _ => ?_)
                refine wi_a1 hc rfl rfl ?_
                have hnx8_ : y1_.1 + 1 < tn := GTX_nx hG (by omega) (by omega) (by omega)
                obtain ⟨s8_, l8_, hE8_, hM8_, hF8_⟩ := nx_166 (d := 0) (L := L) (t := t) (c := c) hG hM1_ (by show y1_.1 + 1 < tn; exact GTX_nx hG (by omega) (by omega) (by omega))
                refine wp_cv (b := 598) (As := []) (r := []) hc rfl (by rw [cm_166]; rfl) rfl (Nat.le_of_ble_eq_true rfl) (show 598 < 621 by decide) (by rw [cm_166]; rfl) (ev_mono hE8_ (by omega)) ?_
                have hF8q : FR b c s s8_ l l8_ := hF1q.tr hF8_ (Int.le_refl c)
                show mm_wp _ _ (116, [some (.ref 598), some (.int (iI (bI (k y1_.1 = 27)))), some (.int (iI 1)), some (.int (iI 1)), some (.int (iI 0)), some (.int (iI 1))], [], MX L t s8_ l8_) _
                refine wi_go hc rfl ?_
                have e9 : ¬ k y1_.1 = 27 := by omega
                exact ih (302 - (y1_.1 + 1)).toNat (by omega) (rpNx y1_) Q1_ v1_ s8_ l8_ false true _ 1 1 n5 (some (.int (iI 0))) (some (.int (iI 1))) (Nat.le_refl _) hM8_ hF8q (by rw [bI_f e9, bI_f (by decide)]) (bI_t rfl).symm (Or.inr rfl) (fun e => absurd e (by decide)) (fun _ => hR2) (fun _ => by show 602 ≤ y1_.1 + 1 + 2 * (n5 : Int); omega) (fun _ => by rw [bI_f e9]; show y1_.2.2 + 0 + 1 ≤ y1_.1 + 1; omega) (by show c ≤ y1_.2.2; omega) (by show 0 ≤ y1_.2.2; omega)
              · have e9 : oo = true := by
                  cases oo with
                  | true => rfl
                  | false => exfalso; rw [bI_f (by decide)] at hB9; omega
                rw [e9] at hR2
                refine wi_a1 hc rfl rfl ?_
                refine wi_bi hc rfl rfl ?_
                refine wi_ic hc rfl ?_
                obtain ⟨s9_, hE9_, hM9_, hF9_⟩ := em_172 (d := 0) (L := L) (t := t) (c := c) (x9 := 22) (v9 := 0) hM1_ b0 ⟨by show 0 ≤ y1_.2.2; omega, by show y1_.2.2 < 300; omega⟩ (by show c ≤ y1_.2.2; omega) (10026) rfl rfl
                refine wp_cv (b := 598) (As := [.int (iI 22), .int (iI 0)]) (r := []) hc rfl (by rw [cm_172]; rfl) rfl (Nat.le_of_ble_eq_true rfl) (show 598 < 621 by decide) (by rw [cm_172]; rfl) (ev_mono hE9_ (by omega)) ?_
                have hF9q : FR b c s s9_ l l1_ := hF1q.tr hF9_ (Int.le_refl c)
                show mm_wp _ _ (90, [some (.ref 598), some (.int (iI (bI (k y1_.1 = 27)))), some (.int (iI b9)), some (.int (iI g9)), some (.int (iI 0)), some (.int (iI 1))], [], MX L t s9_ l1_) _
                refine wi_i2 hc rfl rfl ?_
                refine wi_is1 (L' := [some (.ref 598), some (.int (iI (bI (k y1_.1 = 27)))), some (.int (iI 1)), some (.int (iI g9)), some (.int (iI 0)), some (.int (iI 1))]) hc rfl (Nat.le_of_ble_eq_true rfl) rfl ?_
                refine wi_i1 hc rfl rfl ?_
                refine wi_bne hc rfl (fun h32_ => (by exfalso; omega)) (fun h32_ => ?_)
                refine wi_i2 hc rfl rfl ?_
                refine wi_zeq hc rfl ⟨by decide, by decide⟩ (fun q => absurd q (by decide)) (fun _ => ?_)
                refine wi_ic hc rfl ?_
                refine wi_go hc rfl ?_
                refine wi_is1 (L' := [some (.ref 598), some (.int (iI (bI (k y1_.1 = 27)))), some (.int (iI 1)), some (.int (iI 1)), some (.int (iI 0)), some (.int (iI 1))]) hc rfl (Nat.le_of_ble_eq_true rfl) rfl ?_
                refine wi_i1 hc rfl rfl ?_
                refine wi_zeq hc rfl ⟨by decide, by decide⟩ (fun q => absurd q (by decide)) (fun _ => ?_)
                refine wi_a1 hc rfl rfl ?_
                have hnx10_ : y1_.1 + 1 < tn := GTX_nx hG (by omega) (by omega) (by omega)
                obtain ⟨s10_, l10_, hE10_, hM10_, hF10_⟩ := nx_166 (d := 0) (L := L) (t := t) (c := c) hG hM9_ (by show y1_.1 + 1 < tn; exact GTX_nx hG (by omega) (by omega) (by omega))
                refine wp_cv (b := 598) (As := []) (r := []) hc rfl (by rw [cm_166]; rfl) rfl (Nat.le_of_ble_eq_true rfl) (show 598 < 621 by decide) (by rw [cm_166]; rfl) (ev_mono hE10_ (by omega)) ?_
                have hF10q : FR b c s s10_ l l10_ := hF9q.tr hF10_ (Int.le_refl c)
                show mm_wp _ _ (116, [some (.ref 598), some (.int (iI (bI (k y1_.1 = 27)))), some (.int (iI 1)), some (.int (iI 1)), some (.int (iI 0)), some (.int (iI 1))], [], MX L t s10_ l10_) _
                refine wi_go hc rfl ?_
                have e9 : ¬ k y1_.1 = 27 := by omega
                exact ih (302 - (y1_.1 + 1)).toNat (by omega) (rpNx (rpPut (10026) y1_)) Q1_ v1_ s10_ l10_ false true _ 1 1 n5 (some (.int (iI 0))) (some (.int (iI 1))) (Nat.le_refl _) hM10_ hF10q (by rw [bI_f e9, bI_f (by decide)]) (bI_t rfl).symm (Or.inr rfl) (fun e => absurd e (by decide)) (fun _ => hR2) (fun _ => by show 602 ≤ y1_.1 + 1 + 2 * (n5 : Int); omega) (fun _ => by rw [bI_f e9]; show y1_.2.2 + 1 + 0 + 1 ≤ y1_.1 + 1; omega) (by show c ≤ y1_.2.2 + 1; omega) (by show 0 ≤ y1_.2.2 + 1; omega)
        · have hR2 : rpEf k nm (15 + so) n5 oo (rpPut 10027 y1_) = r := by
            have e : an = true := by cases an with | true => rfl | false => exfalso; rw [bI_f (by decide)] at hA9; omega
            rw [← hR, hy1_, e]
            rfl
          refine wi_a1 hc rfl rfl ?_
          refine wi_bi hc rfl rfl ?_
          refine wi_ic hc rfl ?_
          obtain ⟨s11_, hE11_, hM11_, hF11_⟩ := em_172 (d := 0) (L := L) (t := t) (c := c) (x9 := 21) (v9 := 0) hM1_ b0 ⟨by show 0 ≤ y1_.2.2; omega, by show y1_.2.2 < 300; omega⟩ (by show c ≤ y1_.2.2; omega) (10027) rfl rfl
          refine wp_cv (b := 598) (As := [.int (iI 21), .int (iI 0)]) (r := []) hc rfl (by rw [cm_172]; rfl) rfl (Nat.le_of_ble_eq_true rfl) (show 598 < 621 by decide) (by rw [cm_172]; rfl) (ev_mono hE11_ (by omega)) ?_
          have hF11q : FR b c s s11_ l l1_ := hF1q.tr hF11_ (Int.le_refl c)
          show mm_wp _ _ (35, [some (.ref 598), some (.int (iI a9)), some (.int (iI b9)), some (.int (iI g9)), some (.int (iI 0)), o5], [], MX L t s11_ l1_) _
          obtain ⟨q12_, hq12_⟩ : ∃ q9, s11_ 598 9 = q9 := ⟨_, rfl⟩
          obtain ⟨w12_, hw12_⟩ : ∃ w9, l1_ 598 11 = w9 := ⟨_, rfl⟩
          have hk12_ := MSt.tk hM11_
          rw [hq12_, hw12_] at hk12_
          have hk12_ : tkR q12_ (s11_ 598 10) w12_ (k y1_.1) (nm y1_.1) := hk12_
          have ha12_ := tkR_a hk12_
          have hd12_ := ha12_
          unfold tkA at hd12_
          have hz12_ : 0 ≤ y1_.1 ∧ y1_.1 < tn := hM11_.2.1.1
          have hkr12_ := hG.2.2.2.2.2.2 y1_.1
          refine wi_a1 hc rfl rfl ?_
          refine wi_bi hc rfl rfl ?_
          refine wi_bi hc rfl rfl ?_
          refine wi_bi hc rfl rfl ?_
          have hc13 : mm_Ev mm_ct mm_CM (0 + 1) 167 [.int (iI 97), .int (iI 110), .int (iI 100)] (MX L t s11_ l1_) (some (.long (lI 6385252)), MX L t s11_ l1_) := sp_167 (d := 0) ⟨by decide, by decide⟩ ⟨by decide, by decide⟩ ⟨by decide, by decide⟩
          refine wp_cs (As := [.int (iI 97), .int (iI 110), .int (iI 100)]) (r := [.ref 598]) hc rfl (by rw [cm_167]; rfl) rfl (Nat.le_of_ble_eq_true rfl) (ev_mono (hc13) (by omega)) ?_
          show mm_wp _ _ (45, [some (.ref 598), some (.int (iI a9)), some (.int (iI b9)), some (.int (iI g9)), some (.int (iI 0)), o5], [.long (lI 6385252), .ref 598], MX L t s11_ l1_) _
          refine wp_cv (b := 598) (As := [.long (lI 6385252)]) (r := []) hc rfl (by rw [cm_171]; rfl) rfl (Nat.le_of_ble_eq_true rfl) (show 598 < 621 by decide) (by rw [cm_171]; rfl) (ev_mono (sp_171 (d := 0) hk12_ hq12_ hw12_ ⟨by decide, by decide⟩) (by omega)) ?_
          rw [show bI (q12_ = 2 ∧ w12_ = 6385252) = bI (k y1_.1 = 27) by unfold bI; congr 1; exact propext ⟨fun e => (tkW_27 hk12_ e.1).mp e.2, fun e => ⟨by omega, (tkW_27 hk12_ (by omega)).mpr e⟩⟩]
          show mm_wp _ _ (48, [some (.ref 598), some (.int (iI a9)), some (.int (iI b9)), some (.int (iI g9)), some (.int (iI 0)), o5], [.int (iI (bI (k y1_.1 = 27)))], MX L t s11_ l1_) _
          refine wi_is1 (L' := [some (.ref 598), some (.int (iI (bI (k y1_.1 = 27)))), some (.int (iI b9)), some (.int (iI g9)), some (.int (iI 0)), o5]) hc rfl (Nat.le_of_ble_eq_true rfl) rfl ?_
          refine wi_a1 hc rfl rfl ?_
          refine wi_gfv (kz := 9) rfl hc rfl rfl (by decide) (Nat.le_of_ble_eq_true rfl) rfl (v := q12_) (hq12_) ?_
          refine wi_ic hc rfl ?_
          refine wi_cne hc rfl ⟨by omega, by omega⟩ ⟨by decide, by decide⟩ (fun h35_ => ?_) (fun h35_ => ?_)
          · have h26 : k y1_.1 ≠ 26 := by omega
            refine wi_ic hc rfl ?_
            refine wi_is2 (L' := [some (.ref 598), some (.int (iI (bI (k y1_.1 = 27)))), some (.int (iI b9)), some (.int (iI g9)), some (.int (iI 0)), some (.int (iI 0))]) hc rfl (Nat.le_of_ble_eq_true rfl) rfl ?_
            refine wi_i1 hc rfl rfl ?_
            refine wi_bne hc rfl (fun h36_ => ?_) (fun h36_ => ?_)
            · rw [rpEf, if_pos (show k (rpPut (10027) y1_).1 = 27 from h36_)] at hR2
              refine wi_i1 hc rfl rfl ?_
              refine wi_bne hc rfl (fun h37_ => ?_) (fun h37_ => (by exfalso; omega))
              refine wi_ic hc rfl ?_
              refine wi_go hc rfl ?_
              refine wi_is1 (L' := [some (.ref 598), some (.int (iI (bI (k y1_.1 = 27)))), some (.int (iI b9)), some (.int (iI 1)), some (.int (iI 0)), some (.int (iI 0))]) hc rfl (Nat.le_of_ble_eq_true rfl) rfl ?_
              refine wi_i1 hc rfl rfl ?_
              refine wi_zeq hc rfl ⟨by decide, by decide⟩ (fun q => absurd q (by decide)) (fun _ => ?_)
              refine wi_a1 hc rfl rfl ?_
              have hnx14_ : y1_.1 + 1 < tn := GTX_nx hG (by omega) (by omega) (by omega)
              obtain ⟨s14_, l14_, hE14_, hM14_, hF14_⟩ := nx_166 (d := 0) (L := L) (t := t) (c := c) hG hM11_ (by show y1_.1 + 1 < tn; exact GTX_nx hG (by omega) (by omega) (by omega))
              refine wp_cv (b := 598) (As := []) (r := []) hc rfl (by rw [cm_166]; rfl) rfl (Nat.le_of_ble_eq_true rfl) (show 598 < 621 by decide) (by rw [cm_166]; rfl) (ev_mono hE14_ (by omega)) ?_
              have hF14q : FR b c s s14_ l l14_ := hF11q.tr hF14_ (Int.le_refl c)
              show mm_wp _ _ (116, [some (.ref 598), some (.int (iI (bI (k y1_.1 = 27)))), some (.int (iI b9)), some (.int (iI 1)), some (.int (iI 0)), some (.int (iI 0))], [], MX L t s14_ l14_) _
              refine wi_go hc rfl ?_
              have e9 : k y1_.1 = 27 := by omega
              exact ih (302 - (y1_.1 + 1)).toNat (by omega) (rpNx (rpPut (10027) y1_)) Q1_ v1_ s14_ l14_ true oo _ b9 1 n5 (some (.int (iI 0))) (some (.int (iI 0))) (Nat.le_refl _) hM14_ hF14q (by rw [bI_t e9, bI_t rfl]) hB9 (Or.inr rfl) (fun e => absurd e (by decide)) (fun _ => hR2) (fun _ => by show 602 ≤ y1_.1 + 1 + 2 * (n5 : Int); omega) (fun _ => by rw [bI_t e9]; show y1_.2.2 + 1 + 1 + b9 ≤ y1_.1 + 1; omega) (by show c ≤ y1_.2.2 + 1; omega) (by show 0 ≤ y1_.2.2 + 1; omega)
            · rw [rpEf, if_neg (show ¬ k (rpPut (10027) y1_).1 = 27 from h36_), if_neg (show ¬ k (rpPut (10027) y1_).1 = 26 from h26)] at hR2
              refine wi_i1 hc rfl rfl ?_
              refine wi_zeq hc rfl ⟨by omega, by omega⟩ (fun h39_ => ?_) (fun h39_ => ?_)
              · have e9 : oo = false := by
                  cases oo with
                  | false => rfl
                  | true => exfalso; rw [bI_t rfl] at hB9; omega
                rw [e9] at hR2
                refine wi_i2 hc rfl rfl ?_
                refine wi_is1 (L' := [some (.ref 598), some (.int (iI (bI (k y1_.1 = 27)))), some (.int (iI 0)), some (.int (iI g9)), some (.int (iI 0)), some (.int (iI 0))]) hc rfl (Nat.le_of_ble_eq_true rfl) rfl ?_
                refine wi_i1 hc rfl rfl ?_
                refine wi_bne hc rfl (fun h40_ => (by exfalso; omega)) (fun h40_ => ?_)
                refine wi_i2 hc rfl rfl ?_
                refine wi_zeq hc rfl ⟨by decide, by decide⟩ (fun _ => ?_) (fun q => absurd q (by decide))
                refine wi_ic hc rfl ?_
                refine wi_is1 (L' := [some (.ref 598), some (.int (iI (bI (k y1_.1 = 27)))), some (.int (iI 0)), some (.int (iI 0)), some (.int (iI 0)), some (.int (iI 0))]) hc rfl (Nat.le_of_ble_eq_true rfl) rfl ?_
                refine wi_i1 hc rfl rfl ?_
                refine wi_zeq hc rfl ⟨by decide, by decide⟩ (fun _ => ?_) (fun q => absurd q (by decide))
                refine wi_go hc rfl ?_
                have e9 : ¬ k y1_.1 = 27 := by omega
                exact ih (302 - (y1_.1)).toNat (by omega) (rpPut (10027) y1_) Q1_ v1_ s11_ l1_ false false _ 0 0 n5 (some (.int (iI 0))) (some (.int (iI 0))) (Nat.le_refl _) hM11_ hF11q (by rw [bI_f e9, bI_f (by decide)]) (bI_f (by decide)).symm (Or.inl rfl) (fun _ => hR2.symm) (fun e => absurd e (by decide)) (fun e => absurd e (by decide)) (fun e => absurd e (by decide)) (by show c ≤ y1_.2.2 + 1; omega) (by show 0 ≤ y1_.2.2 + 1; omega)
              · have e9 : oo = true := by
                  cases oo with
                  | true => rfl
                  | false => exfalso; rw [bI_f (by decide)] at hB9; omega
                rw [e9] at hR2
                refine wi_a1 hc rfl rfl ?_
                refine wi_bi hc rfl rfl ?_
                refine wi_ic hc rfl ?_
                obtain ⟨s15_, hE15_, hM15_, hF15_⟩ := em_172 (d := 0) (L := L) (t := t) (c := c) (x9 := 22) (v9 := 0) hM11_ b0 ⟨by show 0 ≤ y1_.2.2 + 1; omega, by show y1_.2.2 + 1 < 300; omega⟩ (by show c ≤ y1_.2.2 + 1; omega) (10026) rfl rfl
                refine wp_cv (b := 598) (As := [.int (iI 22), .int (iI 0)]) (r := []) hc rfl (by rw [cm_172]; rfl) rfl (Nat.le_of_ble_eq_true rfl) (show 598 < 621 by decide) (by rw [cm_172]; rfl) (ev_mono hE15_ (by omega)) ?_
                have hF15q : FR b c s s15_ l l1_ := hF11q.tr hF15_ (Int.le_refl c)
                show mm_wp _ _ (90, [some (.ref 598), some (.int (iI (bI (k y1_.1 = 27)))), some (.int (iI b9)), some (.int (iI g9)), some (.int (iI 0)), some (.int (iI 0))], [], MX L t s15_ l1_) _
                refine wi_i2 hc rfl rfl ?_
                refine wi_is1 (L' := [some (.ref 598), some (.int (iI (bI (k y1_.1 = 27)))), some (.int (iI 0)), some (.int (iI g9)), some (.int (iI 0)), some (.int (iI 0))]) hc rfl (Nat.le_of_ble_eq_true rfl) rfl ?_
                refine wi_i1 hc rfl rfl ?_
                refine wi_bne hc rfl (fun h43_ => (by exfalso; omega)) (fun h43_ => ?_)
                refine wi_i2 hc rfl rfl ?_
                refine wi_zeq hc rfl ⟨by decide, by decide⟩ (fun _ => ?_) (fun q => absurd q (by decide))
                refine wi_ic hc rfl ?_
                refine wi_is1 (L' := [some (.ref 598), some (.int (iI (bI (k y1_.1 = 27)))), some (.int (iI 0)), some (.int (iI 0)), some (.int (iI 0)), some (.int (iI 0))]) hc rfl (Nat.le_of_ble_eq_true rfl) rfl ?_
                refine wi_i1 hc rfl rfl ?_
                refine wi_zeq hc rfl ⟨by decide, by decide⟩ (fun _ => ?_) (fun q => absurd q (by decide))
                refine wi_go hc rfl ?_
                have e9 : ¬ k y1_.1 = 27 := by omega
                exact ih (302 - (y1_.1)).toNat (by omega) (rpPut (10026) (rpPut (10027) y1_)) Q1_ v1_ s15_ l1_ false false _ 0 0 n5 (some (.int (iI 0))) (some (.int (iI 0))) (Nat.le_refl _) hM15_ hF15q (by rw [bI_f e9, bI_f (by decide)]) (bI_f (by decide)).symm (Or.inl rfl) (fun _ => hR2.symm) (fun e => absurd e (by decide)) (fun e => absurd e (by decide)) (fun e => absurd e (by decide)) (by show c ≤ (y1_.2.2 + 1) + 1; omega) (by show 0 ≤ (y1_.2.2 + 1) + 1; omega)
          · have hwr9 := (tkR_w hk12_ (by omega)).1
            refine wi_a1 hc rfl rfl ?_
            refine wi_glv (kz := 11) rfl hc rfl rfl (by decide) (Nat.le_of_ble_eq_true rfl) rfl (v := w12_) (hw12_) ?_
            refine wl_ld (z := 28530) hc rfl rfl ?_
            have h46_ := cmpI_spec w12_ 28530
            refine wl_cmp hc rfl ⟨by omega, by omega⟩ ⟨by decide, by decide⟩ ?_
            refine wi_zne hc rfl (cmpI_r _ _) (fun h47_ => ?_) (fun h47_ => ?_)
            · have h26 : k y1_.1 ≠ 26 := fun e => absurd ((tkW_26 hk12_ (by omega)).mpr e) (by omega)
              refine wi_ic hc rfl ?_
              refine wi_is2 (L' := [some (.ref 598), some (.int (iI (bI (k y1_.1 = 27)))), some (.int (iI b9)), some (.int (iI g9)), some (.int (iI 0)), some (.int (iI 0))]) hc rfl (Nat.le_of_ble_eq_true rfl) rfl ?_
              refine wi_i1 hc rfl rfl ?_
              refine wi_bne hc rfl (fun h48_ => ?_) (fun h48_ => ?_)
              · rw [rpEf, if_pos (show k (rpPut (10027) y1_).1 = 27 from h48_)] at hR2
                refine wi_i1 hc rfl rfl ?_
                refine wi_bne hc rfl (fun h49_ => ?_) (fun h49_ => (by exfalso; omega))
                refine wi_ic hc rfl ?_
                refine wi_go hc rfl ?_
                refine wi_is1 (L' := [some (.ref 598), some (.int (iI (bI (k y1_.1 = 27)))), some (.int (iI b9)), some (.int (iI 1)), some (.int (iI 0)), some (.int (iI 0))]) hc rfl (Nat.le_of_ble_eq_true rfl) rfl ?_
                refine wi_i1 hc rfl rfl ?_
                refine wi_zeq hc rfl ⟨by decide, by decide⟩ (fun q => absurd q (by decide)) (fun _ => ?_)
                refine wi_a1 hc rfl rfl ?_
                have hnx16_ : y1_.1 + 1 < tn := GTX_nx hG (by omega) (by omega) (by omega)
                obtain ⟨s16_, l16_, hE16_, hM16_, hF16_⟩ := nx_166 (d := 0) (L := L) (t := t) (c := c) hG hM11_ (by show y1_.1 + 1 < tn; exact GTX_nx hG (by omega) (by omega) (by omega))
                refine wp_cv (b := 598) (As := []) (r := []) hc rfl (by rw [cm_166]; rfl) rfl (Nat.le_of_ble_eq_true rfl) (show 598 < 621 by decide) (by rw [cm_166]; rfl) (ev_mono hE16_ (by omega)) ?_
                have hF16q : FR b c s s16_ l l16_ := hF11q.tr hF16_ (Int.le_refl c)
                show mm_wp _ _ (116, [some (.ref 598), some (.int (iI (bI (k y1_.1 = 27)))), some (.int (iI b9)), some (.int (iI 1)), some (.int (iI 0)), some (.int (iI 0))], [], MX L t s16_ l16_) _
                refine wi_go hc rfl ?_
                have e9 : k y1_.1 = 27 := by omega
                exact ih (302 - (y1_.1 + 1)).toNat (by omega) (rpNx (rpPut (10027) y1_)) Q1_ v1_ s16_ l16_ true oo _ b9 1 n5 (some (.int (iI 0))) (some (.int (iI 0))) (Nat.le_refl _) hM16_ hF16q (by rw [bI_t e9, bI_t rfl]) hB9 (Or.inr rfl) (fun e => absurd e (by decide)) (fun _ => hR2) (fun _ => by show 602 ≤ y1_.1 + 1 + 2 * (n5 : Int); omega) (fun _ => by rw [bI_t e9]; show y1_.2.2 + 1 + 1 + b9 ≤ y1_.1 + 1; omega) (by show c ≤ y1_.2.2 + 1; omega) (by show 0 ≤ y1_.2.2 + 1; omega)
              · rw [rpEf, if_neg (show ¬ k (rpPut (10027) y1_).1 = 27 from h48_), if_neg (show ¬ k (rpPut (10027) y1_).1 = 26 from h26)] at hR2
                refine wi_i1 hc rfl rfl ?_
                refine wi_zeq hc rfl ⟨by omega, by omega⟩ (fun h51_ => ?_) (fun h51_ => ?_)
                · have e9 : oo = false := by
                    cases oo with
                    | false => rfl
                    | true => exfalso; rw [bI_t rfl] at hB9; omega
                  rw [e9] at hR2
                  refine wi_i2 hc rfl rfl ?_
                  refine wi_is1 (L' := [some (.ref 598), some (.int (iI (bI (k y1_.1 = 27)))), some (.int (iI 0)), some (.int (iI g9)), some (.int (iI 0)), some (.int (iI 0))]) hc rfl (Nat.le_of_ble_eq_true rfl) rfl ?_
                  refine wi_i1 hc rfl rfl ?_
                  refine wi_bne hc rfl (fun h52_ => (by exfalso; omega)) (fun h52_ => ?_)
                  refine wi_i2 hc rfl rfl ?_
                  refine wi_zeq hc rfl ⟨by decide, by decide⟩ (fun _ => ?_) (fun q => absurd q (by decide))
                  refine wi_ic hc rfl ?_
                  refine wi_is1 (L' := [some (.ref 598), some (.int (iI (bI (k y1_.1 = 27)))), some (.int (iI 0)), some (.int (iI 0)), some (.int (iI 0)), some (.int (iI 0))]) hc rfl (Nat.le_of_ble_eq_true rfl) rfl ?_
                  refine wi_i1 hc rfl rfl ?_
                  refine wi_zeq hc rfl ⟨by decide, by decide⟩ (fun _ => ?_) (fun q => absurd q (by decide))
                  refine wi_go hc rfl ?_
                  have e9 : ¬ k y1_.1 = 27 := by omega
                  exact ih (302 - (y1_.1)).toNat (by omega) (rpPut (10027) y1_) Q1_ v1_ s11_ l1_ false false _ 0 0 n5 (some (.int (iI 0))) (some (.int (iI 0))) (Nat.le_refl _) hM11_ hF11q (by rw [bI_f e9, bI_f (by decide)]) (bI_f (by decide)).symm (Or.inl rfl) (fun _ => hR2.symm) (fun e => absurd e (by decide)) (fun e => absurd e (by decide)) (fun e => absurd e (by decide)) (by show c ≤ y1_.2.2 + 1; omega) (by show 0 ≤ y1_.2.2 + 1; omega)
                · have e9 : oo = true := by
                    cases oo with
                    | true => rfl
                    | false => exfalso; rw [bI_f (by decide)] at hB9; omega
                  rw [e9] at hR2
                  refine wi_a1 hc rfl rfl ?_
                  refine wi_bi hc rfl rfl ?_
                  refine wi_ic hc rfl ?_
                  obtain ⟨s17_, hE17_, hM17_, hF17_⟩ := em_172 (d := 0) (L := L) (t := t) (c := c) (x9 := 22) (v9 := 0) hM11_ b0 ⟨by show 0 ≤ y1_.2.2 + 1; omega, by show y1_.2.2 + 1 < 300; omega⟩ (by show c ≤ y1_.2.2 + 1; omega) (10026) rfl rfl
                  refine wp_cv (b := 598) (As := [.int (iI 22), .int (iI 0)]) (r := []) hc rfl (by rw [cm_172]; rfl) rfl (Nat.le_of_ble_eq_true rfl) (show 598 < 621 by decide) (by rw [cm_172]; rfl) (ev_mono hE17_ (by omega)) ?_
                  have hF17q : FR b c s s17_ l l1_ := hF11q.tr hF17_ (Int.le_refl c)
                  show mm_wp _ _ (90, [some (.ref 598), some (.int (iI (bI (k y1_.1 = 27)))), some (.int (iI b9)), some (.int (iI g9)), some (.int (iI 0)), some (.int (iI 0))], [], MX L t s17_ l1_) _
                  refine wi_i2 hc rfl rfl ?_
                  refine wi_is1 (L' := [some (.ref 598), some (.int (iI (bI (k y1_.1 = 27)))), some (.int (iI 0)), some (.int (iI g9)), some (.int (iI 0)), some (.int (iI 0))]) hc rfl (Nat.le_of_ble_eq_true rfl) rfl ?_
                  refine wi_i1 hc rfl rfl ?_
                  refine wi_bne hc rfl (fun h55_ => (by exfalso; omega)) (fun h55_ => ?_)
                  refine wi_i2 hc rfl rfl ?_
                  refine wi_zeq hc rfl ⟨by decide, by decide⟩ (fun _ => ?_) (fun q => absurd q (by decide))
                  refine wi_ic hc rfl ?_
                  refine wi_is1 (L' := [some (.ref 598), some (.int (iI (bI (k y1_.1 = 27)))), some (.int (iI 0)), some (.int (iI 0)), some (.int (iI 0)), some (.int (iI 0))]) hc rfl (Nat.le_of_ble_eq_true rfl) rfl ?_
                  refine wi_i1 hc rfl rfl ?_
                  refine wi_zeq hc rfl ⟨by decide, by decide⟩ (fun _ => ?_) (fun q => absurd q (by decide))
                  refine wi_go hc rfl ?_
                  have e9 : ¬ k y1_.1 = 27 := by omega
                  exact ih (302 - (y1_.1)).toNat (by omega) (rpPut (10026) (rpPut (10027) y1_)) Q1_ v1_ s17_ l1_ false false _ 0 0 n5 (some (.int (iI 0))) (some (.int (iI 0))) (Nat.le_refl _) hM17_ hF17q (by rw [bI_f e9, bI_f (by decide)]) (bI_f (by decide)).symm (Or.inl rfl) (fun _ => hR2.symm) (fun e => absurd e (by decide)) (fun e => absurd e (by decide)) (fun e => absurd e (by decide)) (by show c ≤ (y1_.2.2 + 1) + 1; omega) (by show 0 ≤ (y1_.2.2 + 1) + 1; omega)
            · have h26 : k y1_.1 = 26 := (tkW_26 hk12_ (by omega)).mp (by omega)
              rw [rpEf, if_neg (show ¬ k (rpPut (10027) y1_).1 = 27 from (by omega : ¬ k y1_.1 = 27)), if_pos (show k (rpPut (10027) y1_).1 = 26 from h26)] at hR2
              refine wi_ic hc rfl ?_
              refine wi_go hc rfl ?_
              refine wi_is2 (L' := [some (.ref 598), some (.int (iI (bI (k y1_.1 = 27)))), some (.int (iI b9)), some (.int (iI g9)), some (.int (iI 0)), some (.int (iI 1))]) hc rfl (Nat.le_of_ble_eq_true rfl) rfl ?_
              refine wi_i1 hc rfl rfl ?_
              refine wi_bne hc rfl (fun h58_ => (by exfalso; omega)) (fun h58_ => ?_)
              refine wi_i1 hc rfl rfl ?_
              refine wi_zeq hc rfl ⟨by omega, by omega⟩ (fun h59_ => ?_) (fun h59_ => ?_)
              · have e9 : oo = false := by
                  cases oo with
                  | false => rfl
                  | true => exfalso; rw [bI_t rfl] at hB9; omega
                rw [e9] at hR2
                refine wi_i2 hc rfl rfl ?_
                refine wi_is1 (L' := [some (.ref 598), some (.int (iI (bI (k y1_.1 = 27)))), some (.int (iI 1)), some (.int (iI g9)), some (.int (iI 0)), some (.int (iI 1))]) hc rfl (Nat.le_of_ble_eq_true rfl) rfl ?_
                refine wi_i1 hc rfl rfl ?_
                refine wi_bne hc rfl (fun h60_ => (by exfalso; omega)) (fun h60_ => ?_)
                refine wi_i2 hc rfl rfl ?_
                refine wi_zeq hc rfl ⟨by decide, by decide⟩ (fun q => absurd q (by decide)) (fun _ => ?_)
                refine wi_ic hc rfl ?_
                refine wi_go hc rfl ?_
                refine wi_is1 (L' := [some (.ref 598), some (.int (iI (bI (k y1_.1 = 27)))), some (.int (iI 1)), some (.int (iI 1)), some (.int (iI 0)), some (.int (iI 1))]) hc rfl (Nat.le_of_ble_eq_true rfl) rfl ?_
                refine wi_i1 hc rfl rfl ?_
                refine wi_zeq hc rfl ⟨by decide, by decide⟩ (fun q => absurd q (by decide)) (fun _ => ?_)
                refine wi_a1 hc rfl rfl ?_
                have hnx18_ : y1_.1 + 1 < tn := GTX_nx hG (by omega) (by omega) (by omega)
                obtain ⟨s18_, l18_, hE18_, hM18_, hF18_⟩ := nx_166 (d := 0) (L := L) (t := t) (c := c) hG hM11_ (by show y1_.1 + 1 < tn; exact GTX_nx hG (by omega) (by omega) (by omega))
                refine wp_cv (b := 598) (As := []) (r := []) hc rfl (by rw [cm_166]; rfl) rfl (Nat.le_of_ble_eq_true rfl) (show 598 < 621 by decide) (by rw [cm_166]; rfl) (ev_mono hE18_ (by omega)) ?_
                have hF18q : FR b c s s18_ l l18_ := hF11q.tr hF18_ (Int.le_refl c)
                show mm_wp _ _ (116, [some (.ref 598), some (.int (iI (bI (k y1_.1 = 27)))), some (.int (iI 1)), some (.int (iI 1)), some (.int (iI 0)), some (.int (iI 1))], [], MX L t s18_ l18_) _
                refine wi_go hc rfl ?_
                have e9 : ¬ k y1_.1 = 27 := by omega
                exact ih (302 - (y1_.1 + 1)).toNat (by omega) (rpNx (rpPut (10027) y1_)) Q1_ v1_ s18_ l18_ false true _ 1 1 n5 (some (.int (iI 0))) (some (.int (iI 1))) (Nat.le_refl _) hM18_ hF18q (by rw [bI_f e9, bI_f (by decide)]) (bI_t rfl).symm (Or.inr rfl) (fun e => absurd e (by decide)) (fun _ => hR2) (fun _ => by show 602 ≤ y1_.1 + 1 + 2 * (n5 : Int); omega) (fun _ => by rw [bI_f e9]; show y1_.2.2 + 1 + 0 + 1 ≤ y1_.1 + 1; omega) (by show c ≤ y1_.2.2 + 1; omega) (by show 0 ≤ y1_.2.2 + 1; omega)
              · have e9 : oo = true := by
                  cases oo with
                  | true => rfl
                  | false => exfalso; rw [bI_f (by decide)] at hB9; omega
                rw [e9] at hR2
                refine wi_a1 hc rfl rfl ?_
                refine wi_bi hc rfl rfl ?_
                refine wi_ic hc rfl ?_
                obtain ⟨s19_, hE19_, hM19_, hF19_⟩ := em_172 (d := 0) (L := L) (t := t) (c := c) (x9 := 22) (v9 := 0) hM11_ b0 ⟨by show 0 ≤ y1_.2.2 + 1; omega, by show y1_.2.2 + 1 < 300; omega⟩ (by show c ≤ y1_.2.2 + 1; omega) (10026) rfl rfl
                refine wp_cv (b := 598) (As := [.int (iI 22), .int (iI 0)]) (r := []) hc rfl (by rw [cm_172]; rfl) rfl (Nat.le_of_ble_eq_true rfl) (show 598 < 621 by decide) (by rw [cm_172]; rfl) (ev_mono hE19_ (by omega)) ?_
                have hF19q : FR b c s s19_ l l1_ := hF11q.tr hF19_ (Int.le_refl c)
                show mm_wp _ _ (90, [some (.ref 598), some (.int (iI (bI (k y1_.1 = 27)))), some (.int (iI b9)), some (.int (iI g9)), some (.int (iI 0)), some (.int (iI 1))], [], MX L t s19_ l1_) _
                refine wi_i2 hc rfl rfl ?_
                refine wi_is1 (L' := [some (.ref 598), some (.int (iI (bI (k y1_.1 = 27)))), some (.int (iI 1)), some (.int (iI g9)), some (.int (iI 0)), some (.int (iI 1))]) hc rfl (Nat.le_of_ble_eq_true rfl) rfl ?_
                refine wi_i1 hc rfl rfl ?_
                refine wi_bne hc rfl (fun h63_ => (by exfalso; omega)) (fun h63_ => ?_)
                refine wi_i2 hc rfl rfl ?_
                refine wi_zeq hc rfl ⟨by decide, by decide⟩ (fun q => absurd q (by decide)) (fun _ => ?_)
                refine wi_ic hc rfl ?_
                refine wi_go hc rfl ?_
                refine wi_is1 (L' := [some (.ref 598), some (.int (iI (bI (k y1_.1 = 27)))), some (.int (iI 1)), some (.int (iI 1)), some (.int (iI 0)), some (.int (iI 1))]) hc rfl (Nat.le_of_ble_eq_true rfl) rfl ?_
                refine wi_i1 hc rfl rfl ?_
                refine wi_zeq hc rfl ⟨by decide, by decide⟩ (fun q => absurd q (by decide)) (fun _ => ?_)
                refine wi_a1 hc rfl rfl ?_
                have hnx20_ : y1_.1 + 1 < tn := GTX_nx hG (by omega) (by omega) (by omega)
                obtain ⟨s20_, l20_, hE20_, hM20_, hF20_⟩ := nx_166 (d := 0) (L := L) (t := t) (c := c) hG hM19_ (by show y1_.1 + 1 < tn; exact GTX_nx hG (by omega) (by omega) (by omega))
                refine wp_cv (b := 598) (As := []) (r := []) hc rfl (by rw [cm_166]; rfl) rfl (Nat.le_of_ble_eq_true rfl) (show 598 < 621 by decide) (by rw [cm_166]; rfl) (ev_mono hE20_ (by omega)) ?_
                have hF20q : FR b c s s20_ l l20_ := hF19q.tr hF20_ (Int.le_refl c)
                show mm_wp _ _ (116, [some (.ref 598), some (.int (iI (bI (k y1_.1 = 27)))), some (.int (iI 1)), some (.int (iI 1)), some (.int (iI 0)), some (.int (iI 1))], [], MX L t s20_ l20_) _
                refine wi_go hc rfl ?_
                have e9 : ¬ k y1_.1 = 27 := by omega
                exact ih (302 - (y1_.1 + 1)).toNat (by omega) (rpNx (rpPut (10026) (rpPut (10027) y1_))) Q1_ v1_ s20_ l20_ false true _ 1 1 n5 (some (.int (iI 0))) (some (.int (iI 1))) (Nat.le_refl _) hM20_ hF20q (by rw [bI_f e9, bI_f (by decide)]) (bI_t rfl).symm (Or.inr rfl) (fun e => absurd e (by decide)) (fun _ => hR2) (fun _ => by show 602 ≤ y1_.1 + 1 + 2 * (n5 : Int); omega) (fun _ => by rw [bI_f e9]; show (y1_.2.2 + 1) + 1 + 0 + 1 ≤ y1_.1 + 1; omega) (by show c ≤ (y1_.2.2 + 1) + 1; omega) (by show 0 ≤ (y1_.2.2 + 1) + 1; omega)
      · skip
        refine wi_i2 hc rfl rfl ?_
        refine wi_ri hc rfl (by rw [cm_186]; rfl) ?_
        have hr9 : r = (f1_, y1_) := by rw [← hR, hy1_, rpB_n (r := (f1_, y1_)) h2_]
        subst hr9
        exact ⟨s1_, l1_, rfl, MRs.nn hC1_ h2_ rfl hF1 (Int.le_refl c)⟩
  exact loop6_ (302 - z.1).toNat z P w s l false false 0 0 1 301 none none (Nat.le_refl _) h FR.rf (bI_f (by decide)).symm (bI_f (by decide)).symm (Or.inr rfl) (fun e => absurd e (by decide)) (fun _ => hr) (fun _ => by show 602 ≤ z.1 + 2 * ((301 : Nat) : Int); have := h.2.1.1; omega) (fun _ => by omega) hcc hI.1
