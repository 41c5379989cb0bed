/-! TROUBLE on both sides. -/
def mutu (c : Int → Int → Int) (N a b : Int) : Prop := (0 ≤ a ∧ a < b ∧ b < N) ∧ c a b = 1 ∧ c b a = 1
def isTb (c : Int → Int → Int) (N v : Int) : Prop := (∃ a b : Int, mutu c N a b ∧ v = 2 ^ a.toNat + 2 ^ b.toNat) ∧ ∀ a b : Int, mutu c N a b → v ≤ 2 ^ a.toNat + 2 ^ b.toNat
noncomputable def trbA (c : Int → Int → Int) (N : Int) : Int := @ite Int (∃ v, isTb c N v) (Classical.propDecidable _) (Classical.epsilon fun v => isTb c N v) (-1)
theorem trbA_of {c : Int → Int → Int} {N v : Int} (h : isTb c N v) : trbA c N = v := by
  have hx : ∃ v, isTb c N v := ⟨v, h⟩
  have hs : isTb c N (Classical.epsilon fun v => isTb c N v) := Classical.epsilon_spec hx
  unfold trbA
  rw [@if_pos _ (Classical.propDecidable _) hx]
  obtain ⟨a, b, h1, h2⟩ := h.1
  obtain ⟨a', b', g1, g2⟩ := hs.1
  have := h.2 a' b' g1
  have := hs.2 a b h1
  omega
theorem trbA_no {c : Int → Int → Int} {N : Int} (h : ∀ a b : Int, ¬ mutu c N a b) : trbA c N = -1 := by
  unfold trbA
  rw [@if_neg _ (Classical.propDecidable _) (fun ⟨v, ⟨a, b, q, _⟩, _⟩ => h a b q)]
theorem or_pw {a b : Int} (a0 : 0 ≤ a) (ab : a < b) : orI (1 * 2 ^ a.toNat) (1 * 2 ^ b.toNat) = 2 ^ a.toNat + 2 ^ b.toNat := by
  unfold orI
  rw [Int.one_mul, Int.one_mul, p2c, p2c, Int.toNat_natCast, Int.toNat_natCast, Nat.or_comm]
  have h := Nat.two_pow_add_eq_or_of_lt (b := 2 ^ a.toNat) (i := b.toNat) (Nat.pow_lt_pow_right (by decide) (by omega)) 1
  rw [Nat.mul_one] at h
  rw [← h]
  omega
theorem pw_mono {a b : Int} (a0 : 0 ≤ a) (ab : a ≤ b) : (2 : Int) ^ a.toNat ≤ 2 ^ b.toNat := by
  rw [p2c, p2c]
  exact_mod_cast Nat.pow_le_pow_right (by decide) (by omega)
theorem pw_dbl {a : Int} (a0 : 0 ≤ a) : (2 : Int) ^ (a + 1).toNat = 2 * 2 ^ a.toNat := by
  rw [show (a + 1).toNat = a.toNat + 1 by omega, Int.pow_succ]
  omega
theorem pw_pos (a : Int) : (1 : Int) ≤ 2 ^ a.toNat := by
  rw [p2c]
  exact_mod_cast Nat.two_pow_pos _
theorem allb : ∀ N, N < 11 → (List.range N).all (fun x => (2 ^ N - 1) / 2 ^ x % 2 == 1) = true := by decide +kernel
theorem allb_I {N x : Int} (N1 : N ≤ 10) (x0 : 0 ≤ x) (x1 : x < N) : ((2 : Int) ^ N.toNat - 1) / 2 ^ x.toNat % 2 = 1 := by
  have h := List.all_eq_true.mp (allb N.toNat (by omega)) x.toNat (List.mem_range.mpr (by omega))
  rw [beq_iff_eq] at h
  have hp := Nat.two_pow_pos N.toNat
  have e : (2 : Int) ^ N.toNat - 1 = ((2 ^ N.toNat - 1 : Nat) : Int) := by rw [p2c]; omega
  rw [e, p2c, dvc]
  exact_mod_cast h
theorem two_bl : ∀ b, b < 10 → (List.range b).all (fun a => blN (2 ^ a + 2 ^ b) 10 == [a, b]) = true := by decide +kernel
theorem bl_two : ∀ x, x < 1024 → (blN x 10).length = 2 → x = 2 ^ (blN x 10).getD 0 0 + 2 ^ (blN x 10).getD 1 0 := by decide +kernel
theorem two_S {a b : Int} (a0 : 0 ≤ a) (ab : a < b) (b1 : b < 10) : elF (2 ^ a.toNat + 2 ^ b.toNat) 0 = a ∧ elF (2 ^ a.toNat + 2 ^ b.toNat) 1 = b ∧ mS (2 ^ a.toNat + 2 ^ b.toNat) = 2 := by
  have h := List.all_eq_true.mp (two_bl b.toNat (by omega)) a.toNat (List.mem_range.mpr (by omega))
  rw [beq_iff_eq] at h
  have e : ((2 : Int) ^ a.toNat + 2 ^ b.toNat).toNat = 2 ^ a.toNat + 2 ^ b.toNat := by
    rw [p2c, p2c, ← Int.natCast_add, Int.toNat_natCast]
  unfold elF mS
  rw [e, h]
  refine ⟨?_, ?_, rfl⟩
  · show ((a.toNat : Nat) : Int) = a
    omega
  · show ((b.toNat : Nat) : Int) = b
    omega
theorem S_two {S : Int} (S0 : 0 ≤ S) (S1 : S < 1024) (h : mS S = 2) : S = 2 ^ (elF S 0).toNat + 2 ^ (elF S 1).toNat := by
  have := bl_two S.toNat (by omega) h
  unfold elF
  rw [Int.toNat_natCast, Int.toNat_natCast, p2c, p2c]
  show S = ((2 ^ (blN S.toNat 10).getD 0 0 : Nat) : Int) + ((2 ^ (blN S.toNat 10).getD 1 0 : Nat) : Int)
  omega
/-- a set of two: it never rests just if they change both ways -/
theorem hn_two {c : Int → Int → Int} (h01 : ∀ x y, c x y = 0 ∨ c x y = 1) {S N : Int} (S0 : 0 ≤ S) (S1 : S < 1024) (hN : S < 2 ^ N.toNat) (h : mS S = 2) : cgO c S (mS S) (-1) (fct (mS S)) ≠ 0 ↔ mutu c N (elF S 0) (elF S 1) := by
  have r0 := elF_r (S := S) (m := mS S) rfl (a := 0) (by decide) (by omega)
  have r1 := elF_r (S := S) (m := mS S) rfl (a := 1) (by decide) (by omega)
  have mo := elF_mono (S := S) (m := mS S) rfl (a := 0) (b := 1) (by decide) (by decide) (by omega)
  have hb := elF_bit (S := S) (m := mS S) S0 rfl (a := 1) (by decide) (by omega)
  have hbn := set_bit S0 hN hb
  constructor
  · intro q
    rcases Classical.em (mutu c N (elF S 0) (elF S 1)) with z | z
    · exact z
    · exfalso
      have hn : noMu (cE c S) (mS S) := by
        intro a b a0 a1 b0 b1 hab ⟨g1, g2⟩
        rw [h] at a1 b1
        have a1 : a < 2 := a1
        have b1 : b < 2 := b1
        refine z ⟨⟨r0.1, mo, by omega⟩, ?_⟩
        rcases (by omega : (a = 0 ∧ b = 1) ∨ (a = 1 ∧ b = 0)) with ⟨x, y⟩ | ⟨x, y⟩
        · rw [x, y] at g1 g2; exact ⟨g1, g2⟩
        · rw [x, y] at g1 g2; exact ⟨g2, g1⟩
      refine q ((cgO_0 _).mpr (fun j hj => noMu_rest (by omega) hn (by omega) (by omega)))
  · intro q e
    rw [h] at e
    have hj := (cgO_0 (fct 2)).mp e 0 (by decide)
    exact hj (mu_never q.2.1 q.2.2 0 (by decide) (by decide))
theorem hn_no {c : Int → Int → Int} {S N : Int} (S0 : 0 ≤ S) (hN : S < 2 ^ N.toNat) (hm : mS S < 7) (h : ∀ a b : Int, ¬ mutu c N a b) : cgO c S (mS S) (-1) (fct (mS S)) = 0 := by
  refine (cgO_0 _).mpr (fun j hj => noMu_rest hm ?_ (by omega) (by omega))
  intro a b a0 a1 b0 b1 hab ⟨g1, g2⟩
  have ra := elF_r (S := S) (m := mS S) rfl a0 a1
  have rb := elF_r (S := S) (m := mS S) rfl b0 b1
  have ba := set_bit S0 hN (elF_bit (S := S) (m := mS S) S0 rfl a0 a1)
  have bb := set_bit S0 hN (elF_bit (S := S) (m := mS S) S0 rfl b0 b1)
  rcases (by omega : a < b ∨ b < a) with z | z
  · have mo := elF_mono (S := S) (m := mS S) rfl a0 z b1
    exact h (elF S a) (elF S b) ⟨⟨ra.1, mo, by omega⟩, g1, g2⟩
  · have mo := elF_mono (S := S) (m := mS S) rfl b0 z a1
    exact h (elF S b) (elF S a) ⟨⟨rb.1, mo, by omega⟩, g2, g1⟩
theorem sp_111 {d L t : Nat} {s l : Nat → Int → Int} {A T : Int → Int} (hJ : JC s A T) (hK : KA A T) : ∃ s1, mm_Ev mm_ct mm_CM (d + 6) 111 [.ref 0] (MX L t s l) (some (.int (iI (trbA (cF A T) (A 0)))), MX L t s1 l) ∧ (∀ c, c ≠ 578 ∧ c ≠ 579 ∧ c ≠ 592 → s1 c = s c) ∧ JC s1 A T := by
  have hc : (mm_CM 111).2.2.2.2.2.2.2 = mm_cf cd_111 := by rw [cm_111]; rfl
  refine ev_xs ?_
  refine ev_to (mx := 3) (by rw [cm_111]; decide) (by rw [cm_111]; rfl) (by show 1 ≤ _; decide) ?_
  show mm_wp _ _ (0, [some (.ref 0), none, none], [], MX L t s l) (fun res => ∃ s1, res = (some (.int (iI (trbA (cF A T) (A 0)))), MX L t s1 l) ∧ (∀ c, c ≠ 578 ∧ c ≠ 579 ∧ c ≠ 592 → s1 c = s c) ∧ JC s1 A T)
  have hV := hK.1
  have hB := hK.2.1
  have g0 := hB.1
  have hpw := pw_10 g0.1 g0.2
  refine wi_a1 hc rfl rfl ?_
  refine wi_gr (w := 590) hc rfl rfl (by decide) (Nat.le_of_ble_eq_true rfl) rfl ?_
  refine wi_a1 hc rfl rfl ?_
  refine wi_gr (w := 1) hc rfl rfl (by decide) (Nat.le_of_ble_eq_true rfl) rfl ?_
  refine wi_a1 hc rfl rfl ?_
  refine wi_gr (w := 577) hc rfl rfl (by decide) (Nat.le_of_ble_eq_true rfl) rfl ?_
  refine wi_ic hc rfl ?_
  refine wi_a1 hc rfl rfl ?_
  refine wi_gr (w := 1) hc rfl rfl (by decide) (Nat.le_of_ble_eq_true rfl) rfl ?_
  refine wi_gfv (kz := 8) rfl hc rfl rfl (by decide) (Nat.le_of_ble_eq_true rfl) rfl (v := A 0) (lb_books hJ.1) ?_
  refine wi_shl (2 ^ (A 0).toNat) rfl hc rfl (by omega) (by omega) ?_
  refine wi_ic hc rfl ?_
  refine wi_sub hc rfl ?_
  have ese : (1 * (2 ^ (A 0).toNat)) - 1 = (2 : Int) ^ (A 0).toNat - 1 := by omega
  rw [ese]
  obtain ⟨s1_, hE1_, hF1_, hJ1_, hC1_⟩ := sp_16 (d := 0) (L := L) (t := t) (l := l) hJ hK (set := 2 ^ (A 0).toNat - 1) (by omega) (by omega)
  refine wp_cv (b := 590) (As := [.ref 1, .ref 577, .int (iI (2 ^ (A 0).toNat - 1))]) (r := []) hc rfl (by rw [cm_16]; rfl) rfl (Nat.le_of_ble_eq_true rfl) (show 590 < 621 by decide) (by rw [cm_16]; rfl) (ev_mono hE1_ (by omega)) ?_
  show mm_wp _ _ (26, [some (.ref 0), none, none], [], MX L t s1_ l) _
  refine wi_ic hc rfl ?_
  refine wi_is1 (L' := [some (.ref 0), some (.int (iI 1)), none]) hc rfl (Nat.le_of_ble_eq_true rfl) rfl ?_
  have loop28_ : ∀ h : Int, h ≤ A 0 + 1 → 1 ≤ h → (h ≤ A 0 ∨ h = 1) → (∀ a b : Int, b < h → ¬ mutu (cF A T) (A 0) a b) → ∀ o2 : Option Value, mm_wp (mm_Ev mm_ct mm_CM (d + 5)) 111 (28, [some (.ref 0), some (.int (iI h)), o2], [], MX L t s1_ l) (fun res => ∃ s1, res = (some (.int (iI (trbA (cF A T) (A 0)))), MX L t s1 l) ∧ (∀ c, c ≠ 578 ∧ c ≠ 579 ∧ c ≠ 592 → s1 c = s c) ∧ JC s1 A T) := by
    refine up_ind ?_
    intro h hh9 ihh h0 h1 hno o2
    refine wi_i1 hc rfl rfl ?_
    refine wi_a1 hc rfl rfl ?_
    refine wi_gr (w := 1) hc rfl rfl (by decide) (Nat.le_of_ble_eq_true rfl) rfl ?_
    refine wi_gfv (kz := 8) rfl hc rfl rfl (by decide) (Nat.le_of_ble_eq_true rfl) rfl (v := A 0) (lb_books hJ1_.1) ?_
    refine wi_cge hc rfl ⟨by omega, by omega⟩ ⟨by omega, by omega⟩ (fun h1_ => ?_) (fun h1_ => ?_)
    · refine wi_ic hc rfl ?_
      refine wi_ri hc rfl (by rw [cm_111]; rfl) ?_
      rw [trbA_no (fun a b q => hno a b (by have := q.1; omega) q)]
      exact ⟨s1_, rfl, fun c hc9_ => hF1_ c (by omega), hJ1_⟩
    · refine wi_ic hc rfl ?_
      refine wi_is1 (L' := [some (.ref 0), some (.int (iI h)), some (.int (iI 0))]) hc rfl (Nat.le_of_ble_eq_true rfl) rfl ?_
      have loop41_ : ∀ e : Int, e ≤ h → 0 ≤ e → (∀ a : Int, a < e → ¬ mutu (cF A T) (A 0) a h) → mm_wp (mm_Ev mm_ct mm_CM (d + 5)) 111 (41, [some (.ref 0), some (.int (iI h)), some (.int (iI e))], [], MX L t s1_ l) (fun res => ∃ s1, res = (some (.int (iI (trbA (cF A T) (A 0)))), MX L t s1 l) ∧ (∀ c, c ≠ 578 ∧ c ≠ 579 ∧ c ≠ 592 → s1 c = s c) ∧ JC s1 A T) := by
        refine up_ind ?_
        intro e he9 ihe e0 hnl
        refine wi_i1 hc rfl rfl ?_
        refine wi_i1 hc rfl rfl ?_
        refine wi_cge hc rfl ⟨by omega, by omega⟩ ⟨by omega, by omega⟩ (fun h2_ => ?_) (fun h2_ => ?_)
        · refine wi_inc (L' := [some (.ref 0), some (.int (iI (h + 1))), some (.int (iI e))]) hc rfl rfl rfl ?_
          refine wi_go hc rfl ?_
          refine ihh (by omega) (by omega) (by omega) (fun a b b1 q => ?_) _
          rcases (by omega : b < h ∨ b = h) with z9 | z9
          · exact hno a b z9 q
          · rw [z9] at q; exact hnl a (by have := q.1; omega) q
        · refine wi_a1 hc rfl rfl ?_
          refine wi_gr (w := 590) hc rfl rfl (by decide) (Nat.le_of_ble_eq_true rfl) rfl ?_
          refine wi_i1 hc rfl rfl ?_
          refine wi_i1 hc rfl rfl ?_
          refine wp_cv (b := 590) (As := [.int (iI e), .int (iI h)]) (r := []) hc rfl (by rw [cm_17]; rfl) rfl (Nat.le_of_ble_eq_true rfl) (show 590 < 621 by decide) (by rw [cm_17]; rfl) (ev_mono (sp_17c (d := 0) hC1_ (x := e) (y := h) (by omega) (by omega) (by omega) (by omega) (allb_I g0.2 (by omega) (by omega)) (allb_I g0.2 (by omega) (by omega))) (by omega)) ?_
          have hceh_ := cF_01 A T e h
          show mm_wp _ _ (55, [some (.ref 0), some (.int (iI h)), some (.int (iI e))], [.int (iI (cF A T e h))], MX L t s1_ l) _
          refine wi_zeq hc rfl ⟨by omega, by omega⟩ (fun h3_ => ?_) (fun h3_ => ?_)
          · refine wi_inc (L' := [some (.ref 0), some (.int (iI h)), some (.int (iI (e + 1)))]) hc rfl rfl rfl ?_
            refine wi_go hc rfl ?_
            refine ihe (by omega) (by omega) (fun a a1 q => ?_)
            rcases (by omega : a < e ∨ a = e) with z9 | z9
            · exact hnl a z9 q
            · rw [z9] at q; have y1 := q.2.1; have y2 := q.2.2; omega
          · refine wi_a1 hc rfl rfl ?_
            refine wi_gr (w := 590) hc rfl rfl (by decide) (Nat.le_of_ble_eq_true rfl) rfl ?_
            refine wi_i1 hc rfl rfl ?_
            refine wi_i1 hc rfl rfl ?_
            refine wp_cv (b := 590) (As := [.int (iI h), .int (iI e)]) (r := []) hc rfl (by rw [cm_17]; rfl) rfl (Nat.le_of_ble_eq_true rfl) (show 590 < 621 by decide) (by rw [cm_17]; rfl) (ev_mono (sp_17c (d := 0) hC1_ (x := h) (y := e) (by omega) (by omega) (by omega) (by omega) (allb_I g0.2 (by omega) (by omega)) (allb_I g0.2 (by omega) (by omega))) (by omega)) ?_
            have hche_ := cF_01 A T h e
            show mm_wp _ _ (67, [some (.ref 0), some (.int (iI h)), some (.int (iI e))], [.int (iI (cF A T h e))], MX L t s1_ l) _
            refine wi_zeq hc rfl ⟨by omega, by omega⟩ (fun h4_ => ?_) (fun h4_ => ?_)
            · refine wi_inc (L' := [some (.ref 0), some (.int (iI h)), some (.int (iI (e + 1)))]) hc rfl rfl rfl ?_
              refine wi_go hc rfl ?_
              refine ihe (by omega) (by omega) (fun a a1 q => ?_)
              rcases (by omega : a < e ∨ a = e) with z9 | z9
              · exact hnl a z9 q
              · rw [z9] at q; have y1 := q.2.1; have y2 := q.2.2; omega
            · refine wi_ic hc rfl ?_
              refine wi_i1 hc rfl rfl ?_
              refine wi_shl (2 ^ e.toNat) rfl hc rfl (by omega) (by omega) ?_
              refine wi_ic hc rfl ?_
              refine wi_i1 hc rfl rfl ?_
              refine wi_shl (2 ^ h.toNat) rfl hc rfl (by omega) (by omega) ?_
              have pe := pw_pos e
              have ph := pw_pos h
              refine wi_or hc rfl (by omega) (by omega) ?_
              refine wi_ri hc rfl (by rw [cm_111]; rfl) ?_
              have hR : trbA (cF A T) (A 0) = orI (1 * (2 ^ e.toNat)) (1 * (2 ^ h.toNat)) := by
                rw [or_pw e0 (by omega)]
                refine trbA_of ⟨⟨e, h, ⟨⟨e0, by omega, by omega⟩, by omega, by omega⟩, rfl⟩, fun a b q => ?_⟩
                have q1 := q.1
                rcases (by omega : b < h ∨ b = h ∨ h < b) with z9 | z9 | z9
                · exact absurd q (hno a b z9)
                · have ha : e ≤ a := by
                    rcases (by omega : e ≤ a ∨ a < e) with y | y
                    · exact y
                    · rw [z9] at q; exact absurd q (hnl a y)
                  have := pw_mono e0 ha
                  rw [z9]
                  omega
                · have y1 := pw_mono (show 0 ≤ h + 1 by omega) (show h + 1 ≤ b by omega)
                  have y2 := pw_dbl (show 0 ≤ h by omega)
                  have y3 := pw_mono e0 (show e ≤ h by omega)
                  have y4 := pw_pos a
                  omega
              rw [hR]
              exact ⟨s1_, rfl, fun c hc9_ => hF1_ c (by omega), hJ1_⟩
      exact loop41_ 0 (by omega) (by omega) (fun a a1 q => by have := q.1; omega)
  exact loop28_ 1 (by omega) (by omega) (by omega) (fun a b b1 q => by have := q.1; omega) _
theorem sp_264 {d L t : Nat} {s l : Nat → Int → Int} {A T : Int → Int} (hJ : JM s A T) (hK : KA A T) : ∃ s1 l1, mm_Ev mm_ct mm_CM (d + 8) 264 [.ref 598] (MX L t s l) (some (.int (iI (trbA (cF A T) (A 0)))), MX L t s1 l1) ∧ (∀ c, c ≠ 598 ∧ c ≠ 604 ∧ c ≠ 606 ∧ c ≠ 607 ∧ c ≠ 610 ∧ c ≠ 611 ∧ c ≠ 612 ∧ c ≠ 613 ∧ c ≠ 614 → s1 c = s c) ∧ (∀ c, c ≠ 605 → l1 c = l c) ∧ (∀ k, k ≠ 34 → k ≠ 35 → s1 598 k = s 598 k) ∧ JM s1 A T := by
  have hc : (mm_CM 264).2.2.2.2.2.2.2 = mm_cf cd_264 := by rw [cm_264]; rfl
  refine ev_xsl ?_
  refine ev_to (mx := 3) (by rw [cm_264]; decide) (by rw [cm_264]; rfl) (by show 1 ≤ _; decide) ?_
  show mm_wp _ _ (0, [some (.ref 598), none, none], [], MX L t s l) (fun res => ∃ s1 l1, res = (some (.int (iI (trbA (cF A T) (A 0)))), MX L t s1 l1) ∧ (∀ c, c ≠ 598 ∧ c ≠ 604 ∧ c ≠ 606 ∧ c ≠ 607 ∧ c ≠ 610 ∧ c ≠ 611 ∧ c ≠ 612 ∧ c ≠ 613 ∧ c ≠ 614 → s1 c = s c) ∧ (∀ c, c ≠ 605 → l1 c = l c) ∧ (∀ k, k ≠ 34 → k ≠ 35 → s1 598 k = s 598 k) ∧ JM s1 A T)
  have hV := hK.1
  have hB := hK.2.1
  have g0 := hB.1
  have hpw := pw_10 g0.1 g0.2
  refine wi_a1 hc rfl rfl ?_
  obtain ⟨s1_, l1_, hE1_, hF1_, hG1_, hJ1_, hC1_⟩ := sp_239 (d := 0) (L := L) (t := t) (l := l) hJ hK
  refine wp_cv (b := 598) (As := []) (r := []) hc rfl (by rw [cm_239]; rfl) rfl (Nat.le_of_ble_eq_true rfl) (show 598 < 621 by decide) (by rw [cm_239]; rfl) (ev_mono hE1_ (by omega)) ?_
  show mm_wp _ _ (4, [some (.ref 598), none, none], [], MX L t s1_ l1_) _
  refine wi_ic hc rfl ?_
  refine wi_is1 (L' := [some (.ref 598), some (.int (iI 2)), none]) hc rfl (Nat.le_of_ble_eq_true rfl) rfl ?_
  have loop6_ : ∀ n : Int, n ≤ 6 → 2 ≤ n → ∀ (o2 : Option Value) (s2 : Nat → Int → Int), (∀ c, c ≠ 598 ∧ c ≠ 604 ∧ c ≠ 606 ∧ c ≠ 607 ∧ c ≠ 610 ∧ c ≠ 611 ∧ c ≠ 612 ∧ c ≠ 613 ∧ c ≠ 614 → s2 c = s c) → (∀ k, k ≠ 34 → k ≠ 35 → s2 598 k = s 598 k) → JM s2 A T → CHm s2 (cF A T) (A 0) → (2 < n → ∀ a b : Int, ¬ mutu (cF A T) (A 0) a b) → mm_wp (mm_Ev mm_ct mm_CM (d + 7)) 264 (6, [some (.ref 598), some (.int (iI n)), o2], [], MX L t s2 l1_) (fun res => ∃ s1 l1, res = (some (.int (iI (trbA (cF A T) (A 0)))), MX L t s1 l1) ∧ (∀ c, c ≠ 598 ∧ c ≠ 604 ∧ c ≠ 606 ∧ c ≠ 607 ∧ c ≠ 610 ∧ c ≠ 611 ∧ c ≠ 612 ∧ c ≠ 613 ∧ c ≠ 614 → s1 c = s c) ∧ (∀ c, c ≠ 605 → l1 c = l c) ∧ (∀ k, k ≠ 34 → k ≠ 35 → s1 598 k = s 598 k) ∧ JM s1 A T) := by
    refine up_ind ?_
    intro n hn9 ihn n0 o2 s2 hF2 hk2 hJ2 hC2 hnm
    refine wi_i1 hc rfl rfl ?_
    refine wi_ic hc rfl ?_
    refine wi_cgt hc rfl ⟨by omega, by omega⟩ ⟨by decide, by decide⟩ (fun h1_ => ?_) (fun h1_ => ?_)
    · refine wi_ic hc rfl ?_
      refine wi_ri hc rfl (by rw [cm_264]; rfl) ?_
      rw [trbA_no (hnm (by omega))]
      exact ⟨s2, l1_, rfl, hF2, fun c hc9_ => hG1_ c (by omega), hk2, hJ2⟩
    · refine wi_ic hc rfl ?_
      refine wi_is1 (L' := [some (.ref 598), some (.int (iI n)), some (.int (iI 0))]) hc rfl (Nat.le_of_ble_eq_true rfl) rfl ?_
      have loop13_ : ∀ S : Int, S ≤ 2 ^ (A 0).toNat → 0 ≤ S → ∀ (s3 : Nat → Int → Int), (∀ c, c ≠ 598 ∧ c ≠ 604 ∧ c ≠ 606 ∧ c ≠ 607 ∧ c ≠ 610 ∧ c ≠ 611 ∧ c ≠ 612 ∧ c ≠ 613 ∧ c ≠ 614 → s3 c = s c) → (∀ k, k ≠ 34 → k ≠ 35 → s3 598 k = s 598 k) → JM s3 A T → CHm s3 (cF A T) (A 0) → (n = 2 → ∀ a b : Int, mutu (cF A T) (A 0) a b → S ≤ 2 ^ a.toNat + 2 ^ b.toNat) → mm_wp (mm_Ev mm_ct mm_CM (d + 7)) 264 (13, [some (.ref 598), some (.int (iI n)), some (.int (iI S))], [], MX L t s3 l1_) (fun res => ∃ s1 l1, res = (some (.int (iI (trbA (cF A T) (A 0)))), MX L t s1 l1) ∧ (∀ c, c ≠ 598 ∧ c ≠ 604 ∧ c ≠ 606 ∧ c ≠ 607 ∧ c ≠ 610 ∧ c ≠ 611 ∧ c ≠ 612 ∧ c ≠ 613 ∧ c ≠ 614 → s1 c = s c) ∧ (∀ c, c ≠ 605 → l1 c = l c) ∧ (∀ k, k ≠ 34 → k ≠ 35 → s1 598 k = s 598 k) ∧ JM s1 A T) := by
        refine up_ind ?_
        intro S hS9 ihS S0 s3 hF3 hk3 hJ3 hC3 hmin
        refine wi_i1 hc rfl rfl ?_
        refine wi_ic hc rfl ?_
        refine wi_a1 hc rfl rfl ?_
        refine wi_gr (w := 599) hc rfl rfl (by decide) (Nat.le_of_ble_eq_true rfl) rfl ?_
        refine wi_ic hc rfl ?_
        refine wi_ildv (N := 3642) hc rfl rfl (by decide) (by decide) (by omega) (by omega) (v := A 0) (congrFun (hJ3.1) _) ?_
        refine wi_shl (2 ^ (A 0).toNat) rfl hc rfl (by omega) (by omega) ?_
        refine wi_cge hc rfl ⟨by omega, by omega⟩ ⟨by omega, by omega⟩ (fun h2_ => ?_) (fun h2_ => ?_)
        · refine wi_inc (L' := [some (.ref 598), some (.int (iI (n + 1))), some (.int (iI S))]) hc rfl rfl rfl ?_
          refine wi_go hc rfl ?_
          refine ihn (by omega) (by omega) _ s3 hF3 hk3 hJ3 hC3 (fun _ a b q => ?_)
          rcases (by omega : n = 2 ∨ 2 < n) with z9 | z9
          · have y1 := hmin z9 a b q
            have q1 := q.1
            have y2 := pw_mono (show 0 ≤ b + 1 by omega) (show b + 1 ≤ A 0 by omega)
            have y3 := pw_dbl (show 0 ≤ b by omega)
            have y5 := pw_mono q1.1 (show a ≤ a + 1 by omega)
            have y6 := pw_dbl (show 0 ≤ a by omega)
            have y7 := pw_mono (show 0 ≤ a + 1 by omega) (show a + 1 ≤ b by omega)
            have y8 := pw_pos a
            omega
          · exact hnm z9 a b q
        · have hpr := popI_r S
          refine wi_i1 hc rfl rfl ?_
          refine wp_cs (As := [.int (iI S)]) (r := []) hc rfl (by rw [cm_150]; rfl) rfl (Nat.le_of_ble_eq_true rfl) (ev_mono (sp_150 (d := 0) ⟨by omega, by omega⟩) (by omega)) ?_
          show mm_wp _ _ (29, [some (.ref 598), some (.int (iI n)), some (.int (iI S))], [.int (iI (popI S))], MX L t s3 l1_) _
          refine wi_i1 hc rfl rfl ?_
          refine wi_ceq hc rfl ⟨by omega, by omega⟩ ⟨by omega, by omega⟩ (fun h3_ => ?_) (fun h3_ => ?_)
          · refine wi_a1 hc rfl rfl ?_
            refine wi_i1 hc rfl rfl ?_
            have hmp := mS_7 S0 (by omega : S < 1024) (by omega)
            have hmn : ((mS S : Nat) : Int) = n := by omega
            have hm7 := hmp.1
            obtain ⟨s2_, hE2_, hF2_, hk2_, hJ2_, hO2_, hM2_, hL2_, hC2_⟩ := sp_255 (d := 0) (L := L) (t := t) (l := l1_) hJ3 hK S0 (by omega) hm7 hC3
            refine wp_cv (b := 598) (As := [.int (iI S)]) (r := []) hc rfl (by rw [cm_255]; rfl) rfl (Nat.le_of_ble_eq_true rfl) (show 598 < 621 by decide) (by rw [cm_255]; rfl) (ev_mono hE2_ (by omega)) ?_
            show mm_wp _ _ (41, [some (.ref 598), some (.int (iI n)), some (.int (iI S))], [], MX L t s2_ l1_) _
            refine wi_a1 hc rfl rfl ?_
            refine wp_cv (b := 598) (As := []) (r := []) hc rfl (by rw [cm_263]; rfl) rfl (Nat.le_of_ble_eq_true rfl) (show 598 < 621 by decide) (by rw [cm_263]; rfl) (ev_mono (sp_263 (d := 0) hm7 hO2_ hL2_) (by omega)) ?_
            show mm_wp _ _ (45, [some (.ref 598), some (.int (iI n)), some (.int (iI S))], [.int (iI (bI (cgO (cF A T) S (mS S) (-1) (fct (mS S)) ≠ 0)))], MX L t s2_ l1_) _
            refine wi_beq hc rfl (fun h4_ => ?_) (fun h4_ => ?_)
            · have h9_ : ¬ cgO (cF A T) S (mS S) (-1) (fct (mS S)) ≠ 0 := by assumption
              refine wi_inc (L' := [some (.ref 598), some (.int (iI n)), some (.int (iI (S + 1)))]) hc rfl rfl rfl ?_
              refine wi_go hc rfl ?_
              refine ihS (by omega) (by omega) s2_ (fun c hc9_ => (hF2_ c (by omega)).trans (hF3 c (by omega))) (fun k9 a b => (hk2_ k9 a b).trans (hk3 k9 a b)) hJ2_ hC2_ (fun z9 a b q => ?_)
              have y1 := hmin z9 a b q
              rcases (by omega : S + 1 ≤ 2 ^ a.toNat + 2 ^ b.toNat ∨ S = 2 ^ a.toNat + 2 ^ b.toNat) with y | y
              · exact y
              · exfalso
                have q1 := q.1
                have tS := two_S q1.1 q1.2.1 (by omega)
                rw [← y] at tS
                refine h9_ ((hn_two (N := A 0) (cF_01 A T) S0 (by omega) (by omega) tS.2.2).mpr ?_)
                rw [tS.1, tS.2.1]
                exact q
            · have h9_ : cgO (cF A T) S (mS S) (-1) (fct (mS S)) ≠ 0 := by assumption
              refine wi_i1 hc rfl rfl ?_
              refine wi_ri hc rfl (by rw [cm_264]; rfl) ?_
              have hR : trbA (cF A T) (A 0) = S := by
                rcases (by omega : n = 2 ∨ 2 < n) with z9 | z9
                · have hmu := (hn_two (cF_01 A T) S0 (by omega) (by omega : S < 2 ^ (A 0).toNat) (by omega)).mp h9_
                  exact trbA_of ⟨⟨_, _, hmu, S_two S0 (by omega) (by omega)⟩, hmin z9⟩
                · exact absurd (hn_no S0 (by omega : S < 2 ^ (A 0).toNat) hm7 (hnm z9)) h9_
              rw [hR]
              exact ⟨s2_, l1_, rfl, fun c hc9_ => (hF2_ c (by omega)).trans (hF3 c (by omega)), fun c hc9_ => hG1_ c (by omega), fun k9 a b => (hk2_ k9 a b).trans (hk3 k9 a b), hJ2_⟩
          · refine wi_go hc rfl ?_
            refine wi_inc (L' := [some (.ref 598), some (.int (iI n)), some (.int (iI (S + 1)))]) hc rfl rfl rfl ?_
            refine wi_go hc rfl ?_
            refine ihS (by omega) (by omega) s3 hF3 hk3 hJ3 hC3 (fun z9 a b q => ?_)
            have y1 := hmin z9 a b q
            rcases (by omega : S + 1 ≤ 2 ^ a.toNat + 2 ^ b.toNat ∨ S = 2 ^ a.toNat + 2 ^ b.toNat) with y | y
            · exact y
            · exfalso
              have q1 := q.1
              have tS := two_S q1.1 q1.2.1 (by omega)
              rw [← y] at tS
              have hml := popI_len S0 (by omega)
              have e9 : (((blN S.toNat 10).length : Nat) : Int) = 2 := by have := tS.2.2; unfold mS at this; omega
              omega
      exact loop13_ 0 (by omega) (by omega) s2 hF2 hk2 hJ2 hC2 (fun _ a b q => by have y1 := pw_pos a; have y2 := pw_pos b; omega)
  exact loop6_ 2 (by omega) (by omega) _ s1_ (fun c hc9_ => hF1_ c (by omega)) (fun k _ _ => congrFun (hF1_ 598 (by decide)) k) hJ1_ hC1_ (fun q => by omega)
