/-! The model's clause. -/
def MON (x : Int) (G : Int → Int) : Prop := x = 2 * bI (0 ≤ rcHas G 1 0) + 4 * bI (0 ≤ rcHas G 2 0) + 8 * bI (0 ≤ rcHas G 3 0)
def MCf (b : Int) (s s1 l l1 : Nat → Int → Int) : Prop := (∀ q, q ≠ 598 → q ≠ 601 → q ≠ 603 → s1 q = s q) ∧ (∀ q, ¬ (7 ≤ q ∧ q ≤ 10) → q ≠ 14 → ¬ (17 ≤ q ∧ q ≤ 21) → s1 598 q = s 598 q) ∧ (∀ j, j < b → s1 601 j = s 601 j) ∧ (∀ q, q ≠ 598 → l1 q = l q) ∧ ∀ q, q ≠ 11 → l1 598 q = l 598 q
def MCr (f : Int → Int) (n : Int) (k pl nm : Int → Int) (tn b : Int) (s s1 l l1 : Nat → Int → Int) (r : rcR) : Prop := ∃ (y : rpS) (Q : List Int) (o' w' : Int), y.1 = r.2.1.1 ∧ MSt f n k pl nm tn b s1 l1 y Q o' w' ∧ (r.1 = 0 → y = r.2.1 ∧ o' = 0 ∧ MG b (s1 601) r.2.2 ∧ MON (s1 598 21) r.2.2) ∧ MCf b s s1 l l1
theorem has_ent {nm G : Int → Int} {so : Int} {z y : rpS} (h0 : 0 ≤ G 0) {so' : Int} (h1 : 1 ≤ so') : bI (0 ≤ rcHas (rcEnt nm G so z y) so' 0) = if so = so' then 1 else bI (0 ≤ rcHas G so' 0) := by
  rw [rcHas_ent h0]
  by_cases q : so = so'
  · rw [if_pos q]
    apply bI_t
    split
    · assumption
    · rw [if_pos ⟨q, Or.inl (by omega)⟩]; exact h0
  · rw [if_neg q]
    have e : ∀ (p r : Prop) [Decidable p] [Decidable r], (p ↔ r) → bI p = bI r := fun p r _ _ h => by
      by_cases g : p
      · rw [bI_t g, bI_t (h.mp g)]
      · rw [bI_f g, bI_f (fun q => g (h.mpr q))]
    apply e
    split
    · exact Iff.rfl
    · rename_i g
      rw [if_neg (fun c => q c.1)]
      exact ⟨fun c => absurd c (by decide), fun c => absurd c g⟩
section MCP
variable {f : Int → Int} {n : Int} {k pl nm G : Int → Int} {tn b : Int} {s s1 s2 l l1 l2 : Nat → Int → Int} {z y : rpS} {P : List Int} {o w lo v ix so : Int}
theorem MSt.s20 {q : Int} (hq : q = 20 ∨ q = 21) (h : MSt f n k pl nm tn b s l z P o w) : MSt f n k pl nm tn b (up s 598 q v) l z P o w := by
  obtain ⟨⟨a1, a2, a3⟩, ⟨t1, t2, t3, t4⟩, hc, hp, ho, hw⟩ := id h
  have e : ∀ j, j ≠ 20 → j ≠ 21 → up s 598 q v 598 j = s 598 j := fun j j0 j1 => up_k (by omega)
  refine ⟨⟨(up_cc (by decide)).trans a1, (e 4 (by decide) (by decide)).trans a2, (e 12 (by decide) (by decide)).trans a3⟩, ⟨t1, (e 8 (by decide) (by decide)).trans t2, (e 7 (by decide) (by decide)).trans t3, by rw [e 9 (by decide) (by decide), e 10 (by decide) (by decide)]; exact t4⟩, ?_, ?_, (e 18 (by decide) (by decide)).trans ho, (e 19 (by decide) (by decide)).trans hw⟩
  · rw [e 14 (by decide) (by decide), up_cc (by decide)]; exact hc
  · rw [e 17 (by decide) (by decide), up_cc (by decide)]; exact hp
theorem MCf.rf : MCf b s s l l := ⟨fun _ _ _ _ => rfl, fun _ _ _ _ => rfl, fun _ _ => rfl, fun _ _ => rfl, fun _ _ => rfl⟩
theorem MCf.tr (h : MCf b s s1 l l1) (g : MCf b s1 s2 l1 l2) : MCf b s s2 l l2 := ⟨fun q a1 a2 a3 => (g.1 q a1 a2 a3).trans (h.1 q a1 a2 a3), fun q a1 a2 a3 => (g.2.1 q a1 a2 a3).trans (h.2.1 q a1 a2 a3), fun j a => (g.2.2.1 j a).trans (h.2.2.1 j a), fun q a => (g.2.2.2.1 q a).trans (h.2.2.2.1 q a), fun q a => (g.2.2.2.2 q a).trans (h.2.2.2.2 q a)⟩
theorem FN.c (h : FN lo s s1 l l1) (hl : b ≤ lo) : MCf b s s1 l l1 := ⟨h.1, fun q a1 a2 a3 => h.2.1 q a1 a2 (by omega), fun j a => h.2.2.1 j (by omega), h.2.2.2⟩
theorem MCf.u {q : Int} (hq : q = 20 ∨ q = 21) : MCf b s (up s 598 q v) l l := ⟨fun q a1 a2 a3 => up_cc a1, fun q a1 a2 a3 => up_k (by omega), fun j a => by rw [up_cc (by decide)], fun _ _ => rfl, fun _ _ => rfl⟩
theorem MCf.w9 (hl : b ≤ ix) : MCf b s (up s 601 ix v) l l := ⟨fun q a1 a2 a3 => up_cc a2, fun q a1 a2 a3 => by rw [up_cc (by decide)], fun j a => up_k (by omega), fun _ _ => rfl, fun _ _ => rfl⟩
/-- a clause more in the row -/
theorem MG.add {T T1 : Int → Int} (h : MG b T G) (hc : G 0 < 24) (hso : 0 ≤ so ∧ so ≤ 9) (hlo : ∀ j, j ≠ b → j < b + 1 + 4 * G 0 → T1 j = T j) (hb : T1 b = G 0 + 1) (ha : T1 (b + 1 + 4 * G 0) = so) (hN : NB nm (b + 1 + 4 * G 0) so z y T1) : MG b T1 (rcEnt nm G so z y) := by
  obtain ⟨h1, ⟨h0, h24⟩, h3⟩ := h
  refine ⟨by rw [rcEnt_0]; exact hb, by rw [rcEnt_0]; omega, fun q q0 q1 => ?_⟩
  rw [rcEnt_0] at q1
  rcases (by omega : q < G 0 ∨ q = G 0) with g | g
  · rw [rcEnt_lo (by omega) (by omega), rcEnt_lo (by omega) (by omega), rcEnt_lo (by omega) (by omega), rcEnt_lo (by omega) (by omega), hlo _ (by omega) (by omega), hlo _ (by omega) (by omega), hlo _ (by omega) (by omega), hlo _ (by omega) (by omega)]
    exact h3 q q0 g
  · subst g
    obtain ⟨n1, n2, n3⟩ := hN
    rw [rcEnt_1 h0, rcEnt_2 h0, rcEnt_3 h0, rcEnt_4 h0]
    refine ⟨ha, fun e => ?_, fun e => ?_, fun e => ?_⟩
    · rw [show b + 2 + 4 * G 0 = b + 1 + 4 * G 0 + 1 by omega]; exact n1 e
    · rw [show b + 3 + 4 * G 0 = b + 1 + 4 * G 0 + 2 by omega]; exact n2 e
    · rw [show b + 4 + 4 * G 0 = b + 1 + 4 * G 0 + 3 by omega]; exact n3 e
theorem MON.add {x : Int} (h : MON x G) (h0 : 0 ≤ G 0) (hs : 1 ≤ so ∧ so ≤ 3 → ¬ 0 ≤ rcHas G so 0) {x1 : Int} (hx : x1 = x + (if so = 1 then 2 else if so = 2 then 4 else if so = 3 then 8 else 0)) : MON x1 (rcEnt nm G so z y) := by
  unfold MON at h ⊢
  rw [has_ent h0 (by decide), has_ent h0 (by decide), has_ent h0 (by decide), hx, h]
  by_cases e1 : so = 1
  · have := bI_f (hs (by omega)); rw [e1] at this
    rw [if_pos e1, if_pos e1, if_neg (by omega), if_neg (by omega), this]; omega
  · by_cases e2 : so = 2
    · have := bI_f (hs (by omega)); rw [e2] at this
      rw [if_neg e1, if_pos e2, if_neg (by omega), if_pos e2, if_neg (by omega), this]; omega
    · by_cases e3 : so = 3
      · have := bI_f (hs (by omega)); rw [e3] at this
        rw [if_neg e1, if_neg e2, if_pos e3, if_neg e1, if_neg e2, if_pos e3, this]; omega
      · rw [if_neg e1, if_neg e2, if_neg e3, if_neg e1, if_neg e2, if_neg e3]; omega
end MCP
theorem mc_195_x {d L t : Nat} {s l : Nat → Int → Int} {f : Int → Int} {n : Int} {kd k pl nm : Int → Int} {tn b : Int} {z : rpS} {P : List Int} {w : Int} (hG : GTX f n kd k pl nm tn) (h : MSt f n k pl nm tn b s l z P 0 w) (b0 : 0 ≤ b ∧ b ≤ 2115) (hI : 0 ≤ z.2.2 ∧ z.2.2 ≤ z.1) {G : Int → Int} (hGm : MG b (s 601) G) (hGb : GTb G z.2.2) (hON : MON (s 598 21) G) {r : rcR} (hr : rcCl k nm z G = r) (hs9 : soO (k z.1) = -1) : ∃ s1 l1, mm_Ev mm_ct mm_CM (d + 13) 195 [.ref 598] (MX L t s l) (some (.int (iI r.1)), MX L t s1 l1) ∧ MCr f n k pl nm tn b s s1 l l1 r := by
  have hc : (mm_CM 195).2.2.2.2.2.2.2 = mm_cf cd_195 := by rw [cm_195]; rfl
  refine ev_xsl ?_
  refine ev_to (mx := 6) (by rw [cm_195]; decide) (by rw [cm_195]; rfl) (by show 1 ≤ _; decide) ?_
  show mm_wp _ _ (0, [some (.ref 598), none, none, none, none, none], [], MX L t s l) (fun res => ∃ s1 l1, res = (some (.int (iI r.1)), MX L t s1 l1) ∧ MCr f n k pl nm tn b s s1 l l1 r)
  obtain ⟨q9, hq9⟩ : ∃ q9, s 598 9 = q9 := ⟨_, rfl⟩
  obtain ⟨u9, hu9⟩ : ∃ u9, s 598 10 = u9 := ⟨_, rfl⟩
  obtain ⟨w9, hw9⟩ : ∃ w9, l 598 11 = w9 := ⟨_, rfl⟩
  have hk9 := MSt.tk h
  rw [hq9, hu9, hw9] at hk9
  have ha9 := tkR_a hk9
  unfold tkA at ha9
  have htn := hG.2.2.2.1
  have hz1 := h.2.1.1
  have hkr := hG.2.2.2.2.2.2 z.1
  have hk43 := GTX_43 hG
  have hG0 := hGm.2.1
  obtain ⟨x21, hx21⟩ : ∃ x, s 598 21 = x := ⟨_, rfl⟩
  rw [hx21] at hON
  have hON0 := hON
  unfold MON at hON
  have hb1 := bI_01 (0 ≤ rcHas G 1 0)
  have hb2 := bI_01 (0 ≤ rcHas G 2 0)
  have hb3 := bI_01 (0 ≤ rcHas G 3 0)
  refine wi_a1 hc rfl rfl ?_
  have hSo : mm_Ev mm_ct mm_CM (0 + 3) 187 [.ref 598] (MX L t s l) (some (.int (iI (soO (k z.1)))), MX L t s l) := sp_187 hk9 hq9 hw9
  rw [hs9] at hSo
  refine wp_cv (b := 598) (As := []) (r := []) hc rfl (by rw [cm_187]; rfl) rfl (Nat.le_of_ble_eq_true rfl) (show 598 < 621 by decide) (by rw [cm_187]; rfl) (ev_mono hSo (by omega)) ?_
  show mm_wp _ _ (4, [some (.ref 598), none, none, none, none, none], [.int (iI (-1))], MX L t s l) _
  refine wi_is1 (L' := [some (.ref 598), some (.int (iI (-1))), none, none, none, none]) hc rfl (Nat.le_of_ble_eq_true rfl) rfl ?_
  refine wi_i1 hc rfl rfl ?_
  refine wi_zge hc rfl ⟨by decide, by decide⟩ (fun q => absurd q (by decide)) (fun _ => ?_)
  refine wi_ic hc rfl ?_
  refine wi_ri hc rfl (by rw [cm_195]; rfl) ?_
  have hr9 : r = (1, z, G) := by rw [← hr, rcCl_1 (by omega)]
  subst hr9
  exact ⟨s, l, rfl, z, P, 0, w, rfl, h, fun e => absurd (show (1 : Int) = 0 from e) (by decide), MCf.rf⟩
theorem rpF_Bo {k nm G : Int → Int} {so : Int} {z y : rpS} {f : Int} (h : rcBody k nm G so z = (f, y)) : 0 ≤ f ∧ f ≤ 5 := by
  have key : rpF (rcBody k nm G so z) := by
    unfold rcBody
    split
    · refine rpF_B rpF_Fig (fun y => ?_)
      split
      · exact rpF_c (by decide)
      · exact rpF_Ei _ _ _ _
    · split
      · exact rpF_Ei _ _ _ _
      · split
        · exact rpF_Sum (rpF_One _) _
        · split
          · exact rpF_Fig
          · split
            · exact rpF_Fig
            · split
              · exact rpF_B rpF_Fig (fun y => rpF_B rpF_Wd (fun _ => rpF_Fig))
              · split
                · exact rpF_Fig
                · split
                  · exact rpF_B rpF_Fig (fun y => rpF_B rpF_Wd (fun _ => rpF_B rpF_Fig (fun _ => rpF_B rpF_Wd (fun _ => rpF_Fig))))
                  · exact rpF_c (by decide)
  rw [h] at key
  exact key
theorem mc_195_0 {d L t : Nat} {s l : Nat → Int → Int} {f : Int → Int} {n : Int} {kd k pl nm : Int → Int} {tn b : Int} {z : rpS} {P : List Int} {w : Int} (hG : GTX f n kd k pl nm tn) (h : MSt f n k pl nm tn b s l z P 0 w) (b0 : 0 ≤ b ∧ b ≤ 2115) (hI : 0 ≤ z.2.2 ∧ z.2.2 ≤ z.1) {G : Int → Int} (hGm : MG b (s 601) G) (hGb : GTb G z.2.2) (hON : MON (s 598 21) G) {r : rcR} (hr : rcCl k nm z G = r) (hs9 : soO (k z.1) = 0) : ∃ s1 l1, mm_Ev mm_ct mm_CM (d + 13) 195 [.ref 598] (MX L t s l) (some (.int (iI r.1)), MX L t s1 l1) ∧ MCr f n k pl nm tn b s s1 l l1 r := by
  have hc : (mm_CM 195).2.2.2.2.2.2.2 = mm_cf cd_195 := by rw [cm_195]; rfl
  refine ev_xsl ?_
  refine ev_to (mx := 6) (by rw [cm_195]; decide) (by rw [cm_195]; rfl) (by show 1 ≤ _; decide) ?_
  show mm_wp _ _ (0, [some (.ref 598), none, none, none, none, none], [], MX L t s l) (fun res => ∃ s1 l1, res = (some (.int (iI r.1)), MX L t s1 l1) ∧ MCr f n k pl nm tn b s s1 l l1 r)
  obtain ⟨q9, hq9⟩ : ∃ q9, s 598 9 = q9 := ⟨_, rfl⟩
  obtain ⟨u9, hu9⟩ : ∃ u9, s 598 10 = u9 := ⟨_, rfl⟩
  obtain ⟨w9, hw9⟩ : ∃ w9, l 598 11 = w9 := ⟨_, rfl⟩
  have hk9 := MSt.tk h
  rw [hq9, hu9, hw9] at hk9
  have ha9 := tkR_a hk9
  unfold tkA at ha9
  have htn := hG.2.2.2.1
  have hz1 := h.2.1.1
  have hkr := hG.2.2.2.2.2.2 z.1
  have hk43 := GTX_43 hG
  have hG0 := hGm.2.1
  obtain ⟨x21, hx21⟩ : ∃ x, s 598 21 = x := ⟨_, rfl⟩
  rw [hx21] at hON
  have hON0 := hON
  unfold MON at hON
  have hb1 := bI_01 (0 ≤ rcHas G 1 0)
  have hb2 := bI_01 (0 ≤ rcHas G 2 0)
  have hb3 := bI_01 (0 ≤ rcHas G 3 0)
  refine wi_a1 hc rfl rfl ?_
  have hSo : mm_Ev mm_ct mm_CM (0 + 3) 187 [.ref 598] (MX L t s l) (some (.int (iI (soO (k z.1)))), MX L t s l) := sp_187 hk9 hq9 hw9
  rw [hs9] at hSo
  refine wp_cv (b := 598) (As := []) (r := []) hc rfl (by rw [cm_187]; rfl) rfl (Nat.le_of_ble_eq_true rfl) (show 598 < 621 by decide) (by rw [cm_187]; rfl) (ev_mono hSo (by omega)) ?_
  show mm_wp _ _ (4, [some (.ref 598), none, none, none, none, none], [.int (iI 0)], MX L t s l) _
  refine wi_is1 (L' := [some (.ref 598), some (.int (iI 0)), none, none, none, none]) hc rfl (Nat.le_of_ble_eq_true rfl) rfl ?_
  refine wi_i1 hc rfl rfl ?_
  refine wi_zge hc rfl ⟨by decide, by decide⟩ (fun _ => ?_) (fun q => absurd q (by decide))
  refine wi_i1 hc rfl rfl ?_
  refine wi_ic hc rfl ?_
  refine wi_ic hc rfl ?_
  have hIn : mm_Ev mm_ct mm_CM (0 + 1) 148 [.int (iI 0), .int (iI 1), .int (iI 3)] (MX L t s l) (some (.int (iI (bI ((1 : Int) ≤ 0 ∧ (0 : Int) ≤ 3)))), MX L t s l) := sp_148 ⟨by decide, by decide⟩ ⟨by decide, by decide⟩ ⟨by decide, by decide⟩
  rw [bI_f (p := (1 : Int) ≤ 0 ∧ (0 : Int) ≤ 3) (by decide)] at hIn
  refine wp_cs (As := [.int (iI 0), .int (iI 1), .int (iI 3)]) (r := []) hc rfl (by rw [cm_148]; rfl) rfl (Nat.le_of_ble_eq_true rfl) (ev_mono hIn (by omega)) ?_
  show mm_wp _ _ (17, [some (.ref 598), some (.int (iI 0)), none, none, none, none], [.int (iI 0)], MX L t s l) _
  refine wi_is1 (L' := [some (.ref 598), some (.int (iI 0)), some (.int (iI 0)), none, none, none]) hc rfl (Nat.le_of_ble_eq_true rfl) rfl ?_
  refine wi_i1 hc rfl rfl ?_
  refine wi_zeq hc rfl ⟨by decide, by decide⟩ (fun _ => ?_) (fun q => absurd q (by decide))
  refine wi_a1 hc rfl rfl ?_
  refine wi_gr (w := 601) hc rfl rfl (by decide) (Nat.le_of_ble_eq_true rfl) rfl ?_
  refine wi_a1 hc rfl rfl ?_
  refine wi_gfv (kz := 12) rfl hc rfl rfl (by decide) (Nat.le_of_ble_eq_true rfl) rfl (v := b) (MSt.rb h) ?_
  refine wi_ildv (N := 2820) hc rfl rfl (by decide) (by decide) (by omega) (by omega) (v := G 0) (hGm.1) ?_
  refine wi_is1 (L' := [some (.ref 598), some (.int (iI 0)), some (.int (iI 0)), some (.int (iI (G 0))), none, none]) hc rfl (Nat.le_of_ble_eq_true rfl) rfl ?_
  refine wi_i1 hc rfl rfl ?_
  refine wi_bi hc rfl rfl ?_
  refine wi_cne hc rfl ⟨by omega, by omega⟩ ⟨by decide, by decide⟩ (fun h3_ => ?_) (fun h3_ => ?_)
  · refine wi_i1 hc rfl rfl ?_
    refine wi_zeq hc rfl ⟨by decide, by decide⟩ (fun _ => ?_) (fun q => absurd q (by decide))
    refine wi_a1 hc rfl rfl ?_
    refine wi_i1 hc rfl rfl ?_
    refine wi_pf (kz := 20) rfl hc rfl rfl (by decide) (Nat.le_of_ble_eq_true rfl) rfl (Nat.le_of_ble_eq_true rfl) ⟨rfl, rfl⟩ rfl ?_
    obtain ⟨s1_, es1_⟩ : ∃ q, q = up s 598 20 0 := ⟨_, rfl⟩
    rw [← es1_]
    refine wi_a1 hc rfl rfl ?_
    have hMs1_ : MSt f n k pl nm tn b s1_ l z P 0 w := by rw [es1_]; exact h.s20 (by decide)
    have hFs1_ : MCf b s s1_ l l := (show MCf b s s l l from MCf.rf).tr (by rw [es1_]; exact MCf.u (by decide))
    have hnx9 := GTX_nx hG hz1.1 hz1.2 (by rcases soO_s (k z.1) with ⟨e, -⟩ | ⟨-, -, -, e⟩ <;> omega)
    obtain ⟨sx, lx, hEx, hMx, hFx⟩ := nx_166 (d := 0) (L := L) (t := t) (c := 0) hG hMs1_ hnx9
    refine wp_cv (b := 598) (As := []) (r := []) hc rfl (by rw [cm_166]; rfl) rfl (Nat.le_of_ble_eq_true rfl) (show 598 < 621 by decide) (by rw [cm_166]; rfl) (ev_mono hEx (by omega)) ?_
    have hCx : MCf b s sx l lx := hFs1_.tr ((hFx.fn9 (lo := b + 97) (by omega)).c (by omega))
    have h20 : sx 598 20 = 0 := by rw [hFx.2.1 20 (by decide) (by decide) (by decide), es1_, up_at]
    have h21 : sx 598 21 = x21 + 0 := by rw [hFx.2.1 21 (by decide) (by decide) (by decide), es1_, up_k (by decide), hx21]; omega
    have h601 : ∀ j, j < b + 97 → sx 601 j = s 601 j := fun j a => by rw [hFx.2.2.1 j (by omega), es1_, up_cc (by decide)]
    have hGx : MG b (sx 601) G := hGm.f rfl (fun j a => h601 j (by omega))
    show mm_wp _ _ (80, [some (.ref 598), some (.int (iI 0)), some (.int (iI 0)), some (.int (iI (G 0))), none, none], [], MX L t sx lx) _
    refine wi_a1 hc rfl rfl ?_
    refine wi_gfv (kz := 12) rfl hc rfl rfl (by decide) (Nat.le_of_ble_eq_true rfl) rfl (v := b) (MSt.rb hMx) ?_
    refine wi_ic hc rfl ?_
    refine wi_add hc rfl ?_
    refine wi_ic hc rfl ?_
    refine wi_i1 hc rfl rfl ?_
    refine wi_mul hc rfl ?_
    refine wi_add hc rfl ?_
    refine wi_is2 (L' := [some (.ref 598), some (.int (iI 0)), some (.int (iI 0)), some (.int (iI (G 0))), some (.int (iI ((b + 1) + (4 * (G 0))))), none]) hc rfl (Nat.le_of_ble_eq_true rfl) rfl ?_
    refine wi_a1 hc rfl rfl ?_
    refine wi_i1 hc rfl rfl ?_
    refine wi_i2 hc rfl rfl ?_
    obtain ⟨f1, y1, hy1⟩ : ∃ f y, rcBody k nm G 0 (rpNx z) = (f, y) := ⟨_, _, rfl⟩
    have hF1 : 0 ≤ f1 ∧ f1 ≤ 5 := rpF_Bo hy1
    obtain ⟨sy, ly, hEy, hRy, hNy⟩ := bd_194_0 (d := 0) (L := L) (t := t) hG hMx b0 ⟨by show 0 ≤ z.2.2; omega, by show z.2.2 ≤ z.1 + 1; omega⟩ (a9 := (b + 1) + (4 * (G 0))) ⟨by omega, by omega⟩ hGx (fun q q0 q1 => ⟨(hGb.2.2 q q0 q1).1.1, (hGb.2.2 q q0 q1).1.2, (hGb.2.2 q q0 q1).2.1⟩) h20 hy1
    refine wp_cv (b := 598) (As := [.int (iI 0), .int (iI ((b + 1) + (4 * (G 0))))]) (r := []) hc rfl (by rw [cm_194]; rfl) rfl (Nat.le_of_ble_eq_true rfl) (show 598 < 621 by decide) (by rw [cm_194]; rfl) (ev_mono hEy (by omega)) ?_
    obtain ⟨yy, Q1, o1, w1, hx1, hx2, hx3, hx4⟩ := hRy
    show mm_wp _ _ (99, [some (.ref 598), some (.int (iI 0)), some (.int (iI 0)), some (.int (iI (G 0))), some (.int (iI ((b + 1) + (4 * (G 0))))), none], [.int (iI f1)], MX L t sy ly) _
    refine wi_is2 (L' := [some (.ref 598), some (.int (iI 0)), some (.int (iI 0)), some (.int (iI (G 0))), some (.int (iI ((b + 1) + (4 * (G 0))))), some (.int (iI f1))]) hc rfl (Nat.le_of_ble_eq_true rfl) rfl ?_
    refine wi_i2 hc rfl rfl ?_
    refine wi_zeq hc rfl ⟨by omega, by omega⟩ (fun h5_ => ?_) (fun h5_ => ?_)
    · have e9 : f1 = 0 := h5_
      subst e9
      obtain ⟨hx5, hx6⟩ := hx3 rfl
      rw [hx5, hx6] at hx2
      have hx2 : MSt f n k pl nm tn b sy ly y1 Q1 0 w1 := hx2
      have hNy := hNy rfl
      obtain ⟨q8, hq8⟩ : ∃ q, sy 598 9 = q := ⟨_, rfl⟩
      have hk8 := MSt.tk hx2
      rw [hq8] at hk8
      have ha8 := tkR_a hk8
      unfold tkA at ha8
      have hz8 := hx2.2.1.1
      have hkr8 := hG.2.2.2.2.2.2 y1.1
      refine wi_a1 hc rfl rfl ?_
      refine wi_gr (w := 601) hc rfl rfl (by decide) (Nat.le_of_ble_eq_true rfl) rfl ?_
      refine wi_i2 hc rfl rfl ?_
      refine wi_i1 hc rfl rfl ?_
      refine wi_ist (N := 2820) hc rfl rfl (by decide) (by decide) (by omega) (by omega) ?_
      obtain ⟨s2_, es2_⟩ : ∃ q, q = up sy 601 ((b + 1) + (4 * (G 0))) 0 := ⟨_, rfl⟩
      rw [← es2_]
      refine wi_a1 hc rfl rfl ?_
      refine wi_gr (w := 601) hc rfl rfl (by decide) (Nat.le_of_ble_eq_true rfl) rfl ?_
      refine wi_a1 hc rfl rfl ?_
      refine wi_gfv (kz := 12) rfl hc rfl rfl (by decide) (Nat.le_of_ble_eq_true rfl) rfl (v := b) (((congrFun (congrFun es2_ _) _).trans (up_c (by decide))).trans (MSt.rb hx2)) ?_
      refine wi_dup2 hc rfl ?_
      refine wi_ildv (N := 2820) hc rfl rfl (by decide) (by decide) (by omega) (by omega) (v := G 0) (((congrFun (congrFun es2_ _) _).trans (up_k (by omega))).trans ((hx4.2.2.1 b (by omega)).trans hGx.1)) ?_
      refine wi_ic hc rfl ?_
      refine wi_add hc rfl ?_
      refine wi_ist (N := 2820) hc rfl rfl (by decide) (by decide) (by omega) (by omega) ?_
      obtain ⟨s3_, es3_⟩ : ∃ q, q = up s2_ 601 b ((G 0) + 1) := ⟨_, rfl⟩
      rw [← es3_]
      have hMc : MSt f n k pl nm tn b s3_ ly y1 Q1 0 w1 := by rw [es3_]; exact MSt.nw (by rw [es2_]; exact hx2.nw (by omega)) (by omega)
      have hCc : MCf b s s3_ l ly := (hCx.tr (hx4.c (by omega))).tr ((show MCf b sy s2_ ly ly by rw [es2_]; exact MCf.w9 (by omega)).tr (by rw [es3_]; exact MCf.w9 (Int.le_refl _)))
      have hT9 : ∀ j, s3_ 601 j = if j = b then G 0 + 1 else if j = (b + 1) + (4 * (G 0)) then 0 else sy 601 j := fun j => by rw [es3_, up_ite, es2_, up_ite]
      have h21c : s3_ 598 21 = x21 + 0 := by rw [es3_, up_cc (by decide), es2_, up_cc (by decide), hx4.2.1 21 (by decide) (by decide) (by decide)]; exact h21
      refine wi_a1 hc rfl rfl ?_
      refine wi_gfv (kz := 9) rfl hc rfl rfl (by decide) (Nat.le_of_ble_eq_true rfl) rfl (v := q8) ((by rw [es3_, up_cc (by decide), es2_, up_cc (by decide)]; exact hq8 : s3_ 598 9 = q8)) ?_
      refine wi_bi hc rfl rfl ?_
      refine wi_ceq hc rfl ⟨by omega, by omega⟩ ⟨by decide, by decide⟩ (fun h6_ => ?_) (fun h6_ => ?_)
      · refine wi_a1 hc rfl rfl ?_
        have hnx8 := GTX_nx hG hz8.1 hz8.2 (by omega)
        obtain ⟨sz, lz, hEz, hMz, hFz⟩ := nx_166 (d := 0) (L := L) (t := t) (c := 0) hG hMc hnx8
        refine wp_cv (b := 598) (As := []) (r := []) hc rfl (by rw [cm_166]; rfl) rfl (Nat.le_of_ble_eq_true rfl) (show 598 < 621 by decide) (by rw [cm_166]; rfl) (ev_mono hEz (by omega)) ?_
        have hCz : MCf b s sz l lz := hCc.tr ((hFz.fn9 (lo := b + 97) (by omega)).c (by omega))
        show mm_wp _ _ (145, [some (.ref 598), some (.int (iI 0)), some (.int (iI 0)), some (.int (iI (G 0))), some (.int (iI ((b + 1) + (4 * (G 0))))), some (.int (iI 0))], [], MX L t sz lz) _
        refine wi_ic hc rfl ?_
        refine wi_ri hc rfl (by rw [cm_195]; rfl) ?_
        have hR9 : rpB (rpB (rcNum k nm G 0 (rpNx z)) (rcMore k nm 0)) (rcWd k 39) = (0, rpNx y1) := by
          rw [← rcBody_s (by decide), hy1]
          rw [rpB_z, rcWd, if_pos (by omega)]
        have hr9 := rcCl_go hs9 (by decide) (fun e => absurd e.1 (by decide)) (by omega) hR9
        rw [hr] at hr9
        subst hr9
        have hT8 : ∀ j, j < b + 97 → sz 601 j = if j = b then G 0 + 1 else if j = (b + 1) + (4 * (G 0)) then 0 else sy 601 j := fun j a => by rw [hFz.2.2.1 j (by omega), hT9]
        refine ⟨sz, lz, rfl, rpNx y1, Q1, 0, w1, rfl, hMz, fun _ => ⟨rfl, rfl, ?_, ?_⟩, hCz⟩
        · refine hGm.add (so := 0) (z := rpNx z) (y := rpNx y1) (by omega) ⟨by decide, by decide⟩ (fun j j0 j1 => ?_) (by rw [hT8 b (by omega), if_pos rfl]) (by rw [hT8 _ (by omega), if_neg (by omega), if_pos rfl]) ?_
          · rw [hT8 j (by omega), if_neg j0, if_neg (by omega), hx4.2.2.1 j (by omega), h601 j (by omega)]
          · obtain ⟨n1, n2, n3⟩ := hNy
            refine ⟨fun e => ?_, fun e => ?_, fun e => ?_⟩
            · rw [hT8 _ (by omega), if_neg (by omega), if_neg (by omega)]; exact n1 e
            · rw [hT8 _ (by omega), if_neg (by omega), if_neg (by omega)]; exact n2 e
            · rw [hT8 _ (by omega), if_neg (by omega), if_neg (by omega)]; exact n3 e
        · refine hON0.add hG0.1 (fun e => absurd e (by decide)) ?_
          rw [hFz.2.1 21 (by decide) (by decide) (by decide), h21c]
          rfl
      · refine wi_ic hc rfl ?_
        refine wi_ri hc rfl (by rw [cm_195]; rfl) ?_
        have hR9 : rpB (rpB (rcNum k nm G 0 (rpNx z)) (rcMore k nm 0)) (rcWd k 39) = (1, y1) := by
          rw [← rcBody_s (by decide), hy1]
          rw [rpB_z, rcWd, if_neg (by omega)]
        have hr9 := rcCl_go hs9 (by decide) (fun e => absurd e.1 (by decide)) (by omega) hR9
        rw [hr] at hr9
        subst hr9
        exact ⟨s3_, ly, rfl, y1, Q1, 0, w1, rfl, hMc, fun e => absurd (show (1 : Int) = 0 from e) (by decide), hCc⟩
    · skip
      refine wi_i2 hc rfl rfl ?_
      refine wi_ri hc rfl (by rw [cm_195]; rfl) ?_
      have hR9 : rpB (rpB (rcNum k nm G 0 (rpNx z)) (rcMore k nm 0)) (rcWd k 39) = (f1, y1) := by
        rw [← rcBody_s (by decide), hy1]
        exact rpB_n (r := (f1, y1)) h5_
      have hr9 := rcCl_go hs9 (by decide) (fun e => absurd e.1 (by decide)) (by omega) hR9
      rw [hr] at hr9
      subst hr9
      exact ⟨sy, ly, rfl, yy, Q1, o1, w1, hx1, hx2, fun e => absurd e h5_, hCx.tr (hx4.c (by omega))⟩
  · refine wi_bi hc rfl rfl ?_
    refine wi_ri hc rfl (by rw [cm_195]; rfl) ?_
    have hr9 : r = (6, z, G) := by rw [← hr, rcCl_6 hs9 (by decide) (fun e => absurd e.1 (by decide)) (by omega)]
    subst hr9
    exact ⟨s, l, rfl, z, P, 0, w, rfl, h, fun e => absurd (show (6 : Int) = 0 from e) (by decide), MCf.rf⟩
theorem mc_195_1 {d L t : Nat} {s l : Nat → Int → Int} {f : Int → Int} {n : Int} {kd k pl nm : Int → Int} {tn b : Int} {z : rpS} {P : List Int} {w : Int} (hG : GTX f n kd k pl nm tn) (h : MSt f n k pl nm tn b s l z P 0 w) (b0 : 0 ≤ b ∧ b ≤ 2115) (hI : 0 ≤ z.2.2 ∧ z.2.2 ≤ z.1) {G : Int → Int} (hGm : MG b (s 601) G) (hGb : GTb G z.2.2) (hON : MON (s 598 21) G) {r : rcR} (hr : rcCl k nm z G = r) (hs9 : soO (k z.1) = 1) : ∃ s1 l1, mm_Ev mm_ct mm_CM (d + 13) 195 [.ref 598] (MX L t s l) (some (.int (iI r.1)), MX L t s1 l1) ∧ MCr f n k pl nm tn b s s1 l l1 r := by
  have hc : (mm_CM 195).2.2.2.2.2.2.2 = mm_cf cd_195 := by rw [cm_195]; rfl
  refine ev_xsl ?_
  refine ev_to (mx := 6) (by rw [cm_195]; decide) (by rw [cm_195]; rfl) (by show 1 ≤ _; decide) ?_
  show mm_wp _ _ (0, [some (.ref 598), none, none, none, none, none], [], MX L t s l) (fun res => ∃ s1 l1, res = (some (.int (iI r.1)), MX L t s1 l1) ∧ MCr f n k pl nm tn b s s1 l l1 r)
  obtain ⟨q9, hq9⟩ : ∃ q9, s 598 9 = q9 := ⟨_, rfl⟩
  obtain ⟨u9, hu9⟩ : ∃ u9, s 598 10 = u9 := ⟨_, rfl⟩
  obtain ⟨w9, hw9⟩ : ∃ w9, l 598 11 = w9 := ⟨_, rfl⟩
  have hk9 := MSt.tk h
  rw [hq9, hu9, hw9] at hk9
  have ha9 := tkR_a hk9
  unfold tkA at ha9
  have htn := hG.2.2.2.1
  have hz1 := h.2.1.1
  have hkr := hG.2.2.2.2.2.2 z.1
  have hk43 := GTX_43 hG
  have hG0 := hGm.2.1
  obtain ⟨x21, hx21⟩ : ∃ x, s 598 21 = x := ⟨_, rfl⟩
  rw [hx21] at hON
  have hON0 := hON
  unfold MON at hON
  have hb1 := bI_01 (0 ≤ rcHas G 1 0)
  have hb2 := bI_01 (0 ≤ rcHas G 2 0)
  have hb3 := bI_01 (0 ≤ rcHas G 3 0)
  refine wi_a1 hc rfl rfl ?_
  have hSo : mm_Ev mm_ct mm_CM (0 + 3) 187 [.ref 598] (MX L t s l) (some (.int (iI (soO (k z.1)))), MX L t s l) := sp_187 hk9 hq9 hw9
  rw [hs9] at hSo
  refine wp_cv (b := 598) (As := []) (r := []) hc rfl (by rw [cm_187]; rfl) rfl (Nat.le_of_ble_eq_true rfl) (show 598 < 621 by decide) (by rw [cm_187]; rfl) (ev_mono hSo (by omega)) ?_
  show mm_wp _ _ (4, [some (.ref 598), none, none, none, none, none], [.int (iI 1)], MX L t s l) _
  refine wi_is1 (L' := [some (.ref 598), some (.int (iI 1)), none, none, none, none]) hc rfl (Nat.le_of_ble_eq_true rfl) rfl ?_
  refine wi_i1 hc rfl rfl ?_
  refine wi_zge hc rfl ⟨by decide, by decide⟩ (fun _ => ?_) (fun q => absurd q (by decide))
  refine wi_i1 hc rfl rfl ?_
  refine wi_ic hc rfl ?_
  refine wi_ic hc rfl ?_
  have hIn : mm_Ev mm_ct mm_CM (0 + 1) 148 [.int (iI 1), .int (iI 1), .int (iI 3)] (MX L t s l) (some (.int (iI (bI ((1 : Int) ≤ 1 ∧ (1 : Int) ≤ 3)))), MX L t s l) := sp_148 ⟨by decide, by decide⟩ ⟨by decide, by decide⟩ ⟨by decide, by decide⟩
  rw [bI_t (p := (1 : Int) ≤ 1 ∧ (1 : Int) ≤ 3) (by decide)] at hIn
  refine wp_cs (As := [.int (iI 1), .int (iI 1), .int (iI 3)]) (r := []) hc rfl (by rw [cm_148]; rfl) rfl (Nat.le_of_ble_eq_true rfl) (ev_mono hIn (by omega)) ?_
  show mm_wp _ _ (17, [some (.ref 598), some (.int (iI 1)), none, none, none, none], [.int (iI 1)], MX L t s l) _
  refine wi_is1 (L' := [some (.ref 598), some (.int (iI 1)), some (.int (iI 1)), none, none, none]) hc rfl (Nat.le_of_ble_eq_true rfl) rfl ?_
  refine wi_i1 hc rfl rfl ?_
  refine wi_zeq hc rfl ⟨by decide, by decide⟩ (fun q => absurd q (by decide)) (fun _ => ?_)
  refine wi_a1 hc rfl rfl ?_
  refine wi_gfv (kz := 21) rfl hc rfl rfl (by decide) (Nat.le_of_ble_eq_true rfl) rfl (v := x21) (hx21) ?_
  refine wi_i1 hc rfl rfl ?_
  refine wi_shr 2 rfl hc rfl ⟨by omega, by omega⟩ (by omega) (by omega) ?_
  refine wi_ic hc rfl ?_
  refine wi_msk 1 2 rfl (by decide) (by decide) hc rfl ?_
  refine wi_ic hc rfl ?_
  refine wi_cne hc rfl ⟨by omega, by omega⟩ ⟨by decide, by decide⟩ (fun h3_ => ?_) (fun h3_ => ?_)
  · have hn4 : ¬ 0 ≤ rcHas G 1 0 := fun e => by have := bI_t e; omega
    refine wi_a1 hc rfl rfl ?_
    refine wi_gr (w := 601) hc rfl rfl (by decide) (Nat.le_of_ble_eq_true rfl) rfl ?_
    refine wi_a1 hc rfl rfl ?_
    refine wi_gfv (kz := 12) rfl hc rfl rfl (by decide) (Nat.le_of_ble_eq_true rfl) rfl (v := b) (MSt.rb h) ?_
    refine wi_ildv (N := 2820) hc rfl rfl (by decide) (by decide) (by omega) (by omega) (v := G 0) (hGm.1) ?_
    refine wi_is1 (L' := [some (.ref 598), some (.int (iI 1)), some (.int (iI 1)), some (.int (iI (G 0))), none, none]) hc rfl (Nat.le_of_ble_eq_true rfl) rfl ?_
    refine wi_i1 hc rfl rfl ?_
    refine wi_bi hc rfl rfl ?_
    refine wi_cne hc rfl ⟨by omega, by omega⟩ ⟨by decide, by decide⟩ (fun h4_ => ?_) (fun h4_ => ?_)
    · refine wi_i1 hc rfl rfl ?_
      refine wi_zeq hc rfl ⟨by decide, by decide⟩ (fun q => absurd q (by decide)) (fun _ => ?_)
      refine wi_a1 hc rfl rfl ?_
      refine wi_dupr hc rfl ?_
      refine wi_gfv (kz := 21) rfl hc rfl rfl (by decide) (Nat.le_of_ble_eq_true rfl) rfl (v := x21) (hx21) ?_
      refine wi_ic hc rfl ?_
      refine wi_i1 hc rfl rfl ?_
      refine wi_shl 2 rfl hc rfl (by omega) (by omega) ?_
      refine wi_or hc rfl (by omega) (by omega) ?_
      rw [show orI x21 (1 * 2) = x21 + 2 by
        rcases (by omega : x21 = 0 ∨ x21 = 4 ∨ x21 = 8 ∨ x21 = 12) with e | e | e | e <;> (rw [e]; rfl)]
      refine wi_pf (kz := 21) rfl hc rfl rfl (by decide) (Nat.le_of_ble_eq_true rfl) rfl (Nat.le_of_ble_eq_true rfl) ⟨rfl, rfl⟩ rfl ?_
      obtain ⟨s1_, es1_⟩ : ∃ q, q = up s 598 21 (x21 + 2) := ⟨_, rfl⟩
      rw [← es1_]
      refine wi_a1 hc rfl rfl ?_
      refine wi_i1 hc rfl rfl ?_
      refine wi_pf (kz := 20) rfl hc rfl rfl (by decide) (Nat.le_of_ble_eq_true rfl) rfl (Nat.le_of_ble_eq_true rfl) ⟨rfl, rfl⟩ rfl ?_
      obtain ⟨s2_, es2_⟩ : ∃ q, q = up s1_ 598 20 1 := ⟨_, rfl⟩
      rw [← es2_]
      refine wi_a1 hc rfl rfl ?_
      have hMs1_ : MSt f n k pl nm tn b s1_ l z P 0 w := by rw [es1_]; exact h.s20 (by decide)
      have hFs1_ : MCf b s s1_ l l := (show MCf b s s l l from MCf.rf).tr (by rw [es1_]; exact MCf.u (by decide))
      have hMs2_ : MSt f n k pl nm tn b s2_ l z P 0 w := by rw [es2_]; exact hMs1_.s20 (by decide)
      have hFs2_ : MCf b s s2_ l l := (show MCf b s s1_ l l from hFs1_).tr (by rw [es2_]; exact MCf.u (by decide))
      have hnx9 := GTX_nx hG hz1.1 hz1.2 (by rcases soO_s (k z.1) with ⟨e, -⟩ | ⟨-, -, -, e⟩ <;> omega)
      obtain ⟨sx, lx, hEx, hMx, hFx⟩ := nx_166 (d := 0) (L := L) (t := t) (c := 0) hG hMs2_ hnx9
      refine wp_cv (b := 598) (As := []) (r := []) hc rfl (by rw [cm_166]; rfl) rfl (Nat.le_of_ble_eq_true rfl) (show 598 < 621 by decide) (by rw [cm_166]; rfl) (ev_mono hEx (by omega)) ?_
      have hCx : MCf b s sx l lx := hFs2_.tr ((hFx.fn9 (lo := b + 97) (by omega)).c (by omega))
      have h20 : sx 598 20 = 1 := by rw [hFx.2.1 20 (by decide) (by decide) (by decide), es2_, up_at]
      have h21 : sx 598 21 = x21 + 2 := by rw [hFx.2.1 21 (by decide) (by decide) (by decide), es2_, up_k (by decide), es1_, up_at]
      have h601 : ∀ j, j < b + 97 → sx 601 j = s 601 j := fun j a => by rw [hFx.2.2.1 j (by omega), es2_, up_cc (by decide), es1_, up_cc (by decide)]
      have hGx : MG b (sx 601) G := hGm.f rfl (fun j a => h601 j (by omega))
      show mm_wp _ _ (80, [some (.ref 598), some (.int (iI 1)), some (.int (iI 1)), some (.int (iI (G 0))), none, none], [], MX L t sx lx) _
      refine wi_a1 hc rfl rfl ?_
      refine wi_gfv (kz := 12) rfl hc rfl rfl (by decide) (Nat.le_of_ble_eq_true rfl) rfl (v := b) (MSt.rb hMx) ?_
      refine wi_ic hc rfl ?_
      refine wi_add hc rfl ?_
      refine wi_ic hc rfl ?_
      refine wi_i1 hc rfl rfl ?_
      refine wi_mul hc rfl ?_
      refine wi_add hc rfl ?_
      refine wi_is2 (L' := [some (.ref 598), some (.int (iI 1)), some (.int (iI 1)), some (.int (iI (G 0))), some (.int (iI ((b + 1) + (4 * (G 0))))), none]) hc rfl (Nat.le_of_ble_eq_true rfl) rfl ?_
      refine wi_a1 hc rfl rfl ?_
      refine wi_i1 hc rfl rfl ?_
      refine wi_i2 hc rfl rfl ?_
      obtain ⟨f1, y1, hy1⟩ : ∃ f y, rcBody k nm G 1 (rpNx z) = (f, y) := ⟨_, _, rfl⟩
      have hF1 : 0 ≤ f1 ∧ f1 ≤ 5 := rpF_Bo hy1
      obtain ⟨sy, ly, hEy, hRy, hNy⟩ := bd_194_1 (d := 0) (L := L) (t := t) hG hMx b0 ⟨by show 0 ≤ z.2.2; omega, by show z.2.2 ≤ z.1 + 1; omega⟩ (a9 := (b + 1) + (4 * (G 0))) ⟨by omega, by omega⟩ hGx (fun q q0 q1 => ⟨(hGb.2.2 q q0 q1).1.1, (hGb.2.2 q q0 q1).1.2, (hGb.2.2 q q0 q1).2.1⟩) h20 hy1
      refine wp_cv (b := 598) (As := [.int (iI 1), .int (iI ((b + 1) + (4 * (G 0))))]) (r := []) hc rfl (by rw [cm_194]; rfl) rfl (Nat.le_of_ble_eq_true rfl) (show 598 < 621 by decide) (by rw [cm_194]; rfl) (ev_mono hEy (by omega)) ?_
      obtain ⟨yy, Q1, o1, w1, hx1, hx2, hx3, hx4⟩ := hRy
      show mm_wp _ _ (99, [some (.ref 598), some (.int (iI 1)), some (.int (iI 1)), some (.int (iI (G 0))), some (.int (iI ((b + 1) + (4 * (G 0))))), none], [.int (iI f1)], MX L t sy ly) _
      refine wi_is2 (L' := [some (.ref 598), some (.int (iI 1)), some (.int (iI 1)), some (.int (iI (G 0))), some (.int (iI ((b + 1) + (4 * (G 0))))), some (.int (iI f1))]) hc rfl (Nat.le_of_ble_eq_true rfl) rfl ?_
      refine wi_i2 hc rfl rfl ?_
      refine wi_zeq hc rfl ⟨by omega, by omega⟩ (fun h6_ => ?_) (fun h6_ => ?_)
      · have e9 : f1 = 0 := h6_
        subst e9
        obtain ⟨hx5, hx6⟩ := hx3 rfl
        rw [hx5, hx6] at hx2
        have hx2 : MSt f n k pl nm tn b sy ly y1 Q1 0 w1 := hx2
        have hNy := hNy rfl
        obtain ⟨q8, hq8⟩ : ∃ q, sy 598 9 = q := ⟨_, rfl⟩
        have hk8 := MSt.tk hx2
        rw [hq8] at hk8
        have ha8 := tkR_a hk8
        unfold tkA at ha8
        have hz8 := hx2.2.1.1
        have hkr8 := hG.2.2.2.2.2.2 y1.1
        refine wi_a1 hc rfl rfl ?_
        refine wi_gr (w := 601) hc rfl rfl (by decide) (Nat.le_of_ble_eq_true rfl) rfl ?_
        refine wi_i2 hc rfl rfl ?_
        refine wi_i1 hc rfl rfl ?_
        refine wi_ist (N := 2820) hc rfl rfl (by decide) (by decide) (by omega) (by omega) ?_
        obtain ⟨s3_, es3_⟩ : ∃ q, q = up sy 601 ((b + 1) + (4 * (G 0))) 1 := ⟨_, rfl⟩
        rw [← es3_]
        refine wi_a1 hc rfl rfl ?_
        refine wi_gr (w := 601) hc rfl rfl (by decide) (Nat.le_of_ble_eq_true rfl) rfl ?_
        refine wi_a1 hc rfl rfl ?_
        refine wi_gfv (kz := 12) rfl hc rfl rfl (by decide) (Nat.le_of_ble_eq_true rfl) rfl (v := b) (((congrFun (congrFun es3_ _) _).trans (up_c (by decide))).trans (MSt.rb hx2)) ?_
        refine wi_dup2 hc rfl ?_
        refine wi_ildv (N := 2820) hc rfl rfl (by decide) (by decide) (by omega) (by omega) (v := G 0) (((congrFun (congrFun es3_ _) _).trans (up_k (by omega))).trans ((hx4.2.2.1 b (by omega)).trans hGx.1)) ?_
        refine wi_ic hc rfl ?_
        refine wi_add hc rfl ?_
        refine wi_ist (N := 2820) hc rfl rfl (by decide) (by decide) (by omega) (by omega) ?_
        obtain ⟨s4_, es4_⟩ : ∃ q, q = up s3_ 601 b ((G 0) + 1) := ⟨_, rfl⟩
        rw [← es4_]
        have hMc : MSt f n k pl nm tn b s4_ ly y1 Q1 0 w1 := by rw [es4_]; exact MSt.nw (by rw [es3_]; exact hx2.nw (by omega)) (by omega)
        have hCc : MCf b s s4_ l ly := (hCx.tr (hx4.c (by omega))).tr ((show MCf b sy s3_ ly ly by rw [es3_]; exact MCf.w9 (by omega)).tr (by rw [es4_]; exact MCf.w9 (Int.le_refl _)))
        have hT9 : ∀ j, s4_ 601 j = if j = b then G 0 + 1 else if j = (b + 1) + (4 * (G 0)) then 1 else sy 601 j := fun j => by rw [es4_, up_ite, es3_, up_ite]
        have h21c : s4_ 598 21 = x21 + 2 := by rw [es4_, up_cc (by decide), es3_, up_cc (by decide), hx4.2.1 21 (by decide) (by decide) (by decide)]; exact h21
        refine wi_a1 hc rfl rfl ?_
        refine wi_gfv (kz := 9) rfl hc rfl rfl (by decide) (Nat.le_of_ble_eq_true rfl) rfl (v := q8) ((by rw [es4_, up_cc (by decide), es3_, up_cc (by decide)]; exact hq8 : s4_ 598 9 = q8)) ?_
        refine wi_bi hc rfl rfl ?_
        refine wi_ceq hc rfl ⟨by omega, by omega⟩ ⟨by decide, by decide⟩ (fun h7_ => ?_) (fun h7_ => ?_)
        · refine wi_a1 hc rfl rfl ?_
          have hnx8 := GTX_nx hG hz8.1 hz8.2 (by omega)
          obtain ⟨sz, lz, hEz, hMz, hFz⟩ := nx_166 (d := 0) (L := L) (t := t) (c := 0) hG hMc hnx8
          refine wp_cv (b := 598) (As := []) (r := []) hc rfl (by rw [cm_166]; rfl) rfl (Nat.le_of_ble_eq_true rfl) (show 598 < 621 by decide) (by rw [cm_166]; rfl) (ev_mono hEz (by omega)) ?_
          have hCz : MCf b s sz l lz := hCc.tr ((hFz.fn9 (lo := b + 97) (by omega)).c (by omega))
          show mm_wp _ _ (145, [some (.ref 598), some (.int (iI 1)), some (.int (iI 1)), some (.int (iI (G 0))), some (.int (iI ((b + 1) + (4 * (G 0))))), some (.int (iI 0))], [], MX L t sz lz) _
          refine wi_ic hc rfl ?_
          refine wi_ri hc rfl (by rw [cm_195]; rfl) ?_
          have hR9 : rpB (rpB (rcNum k nm G 1 (rpNx z)) (rcMore k nm 1)) (rcWd k 39) = (0, rpNx y1) := by
            rw [← rcBody_s (by decide), hy1]
            rw [rpB_z, rcWd, if_pos (by omega)]
          have hr9 := rcCl_go hs9 (by decide) (fun e => hn4 e.2) (by omega) hR9
          rw [hr] at hr9
          subst hr9
          have hT8 : ∀ j, j < b + 97 → sz 601 j = if j = b then G 0 + 1 else if j = (b + 1) + (4 * (G 0)) then 1 else sy 601 j := fun j a => by rw [hFz.2.2.1 j (by omega), hT9]
          refine ⟨sz, lz, rfl, rpNx y1, Q1, 0, w1, rfl, hMz, fun _ => ⟨rfl, rfl, ?_, ?_⟩, hCz⟩
          · refine hGm.add (so := 1) (z := rpNx z) (y := rpNx y1) (by omega) ⟨by decide, by decide⟩ (fun j j0 j1 => ?_) (by rw [hT8 b (by omega), if_pos rfl]) (by rw [hT8 _ (by omega), if_neg (by omega), if_pos rfl]) ?_
            · rw [hT8 j (by omega), if_neg j0, if_neg (by omega), hx4.2.2.1 j (by omega), h601 j (by omega)]
            · obtain ⟨n1, n2, n3⟩ := hNy
              refine ⟨fun e => ?_, fun e => ?_, fun e => ?_⟩
              · rw [hT8 _ (by omega), if_neg (by omega), if_neg (by omega)]; exact n1 e
              · rw [hT8 _ (by omega), if_neg (by omega), if_neg (by omega)]; exact n2 e
              · rw [hT8 _ (by omega), if_neg (by omega), if_neg (by omega)]; exact n3 e
          · refine hON0.add hG0.1 (fun e => hn4) ?_
            rw [hFz.2.1 21 (by decide) (by decide) (by decide), h21c]
            rfl
        · refine wi_ic hc rfl ?_
          refine wi_ri hc rfl (by rw [cm_195]; rfl) ?_
          have hR9 : rpB (rpB (rcNum k nm G 1 (rpNx z)) (rcMore k nm 1)) (rcWd k 39) = (1, y1) := by
            rw [← rcBody_s (by decide), hy1]
            rw [rpB_z, rcWd, if_neg (by omega)]
          have hr9 := rcCl_go hs9 (by decide) (fun e => hn4 e.2) (by omega) hR9
          rw [hr] at hr9
          subst hr9
          exact ⟨s4_, ly, rfl, y1, Q1, 0, w1, rfl, hMc, fun e => absurd (show (1 : Int) = 0 from e) (by decide), hCc⟩
      · skip
        refine wi_i2 hc rfl rfl ?_
        refine wi_ri hc rfl (by rw [cm_195]; rfl) ?_
        have hR9 : rpB (rpB (rcNum k nm G 1 (rpNx z)) (rcMore k nm 1)) (rcWd k 39) = (f1, y1) := by
          rw [← rcBody_s (by decide), hy1]
          exact rpB_n (r := (f1, y1)) h6_
        have hr9 := rcCl_go hs9 (by decide) (fun e => hn4 e.2) (by omega) hR9
        rw [hr] at hr9
        subst hr9
        exact ⟨sy, ly, rfl, yy, Q1, o1, w1, hx1, hx2, fun e => absurd e h6_, hCx.tr (hx4.c (by omega))⟩
    · refine wi_bi hc rfl rfl ?_
      refine wi_ri hc rfl (by rw [cm_195]; rfl) ?_
      have hr9 : r = (6, z, G) := by rw [← hr, rcCl_6 hs9 (by decide) (fun e => hn4 e.2) (by omega)]
      subst hr9
      exact ⟨s, l, rfl, z, P, 0, w, rfl, h, fun e => absurd (show (6 : Int) = 0 from e) (by decide), MCf.rf⟩
  · have hy4 : 0 ≤ rcHas G 1 0 := Classical.byContradiction (fun e => by have := bI_f e; omega)
    refine wi_ic hc rfl ?_
    refine wi_ri hc rfl (by rw [cm_195]; rfl) ?_
    have hr9 : r = (4, z, G) := by rw [← hr, rcCl_4 hs9 (by decide) hy4]
    subst hr9
    exact ⟨s, l, rfl, z, P, 0, w, rfl, h, fun e => absurd (show (4 : Int) = 0 from e) (by decide), MCf.rf⟩
theorem mc_195_2 {d L t : Nat} {s l : Nat → Int → Int} {f : Int → Int} {n : Int} {kd k pl nm : Int → Int} {tn b : Int} {z : rpS} {P : List Int} {w : Int} (hG : GTX f n kd k pl nm tn) (h : MSt f n k pl nm tn b s l z P 0 w) (b0 : 0 ≤ b ∧ b ≤ 2115) (hI : 0 ≤ z.2.2 ∧ z.2.2 ≤ z.1) {G : Int → Int} (hGm : MG b (s 601) G) (hGb : GTb G z.2.2) (hON : MON (s 598 21) G) {r : rcR} (hr : rcCl k nm z G = r) (hs9 : soO (k z.1) = 2) : ∃ s1 l1, mm_Ev mm_ct mm_CM (d + 13) 195 [.ref 598] (MX L t s l) (some (.int (iI r.1)), MX L t s1 l1) ∧ MCr f n k pl nm tn b s s1 l l1 r := by
  have hc : (mm_CM 195).2.2.2.2.2.2.2 = mm_cf cd_195 := by rw [cm_195]; rfl
  refine ev_xsl ?_
  refine ev_to (mx := 6) (by rw [cm_195]; decide) (by rw [cm_195]; rfl) (by show 1 ≤ _; decide) ?_
  show mm_wp _ _ (0, [some (.ref 598), none, none, none, none, none], [], MX L t s l) (fun res => ∃ s1 l1, res = (some (.int (iI r.1)), MX L t s1 l1) ∧ MCr f n k pl nm tn b s s1 l l1 r)
  obtain ⟨q9, hq9⟩ : ∃ q9, s 598 9 = q9 := ⟨_, rfl⟩
  obtain ⟨u9, hu9⟩ : ∃ u9, s 598 10 = u9 := ⟨_, rfl⟩
  obtain ⟨w9, hw9⟩ : ∃ w9, l 598 11 = w9 := ⟨_, rfl⟩
  have hk9 := MSt.tk h
  rw [hq9, hu9, hw9] at hk9
  have ha9 := tkR_a hk9
  unfold tkA at ha9
  have htn := hG.2.2.2.1
  have hz1 := h.2.1.1
  have hkr := hG.2.2.2.2.2.2 z.1
  have hk43 := GTX_43 hG
  have hG0 := hGm.2.1
  obtain ⟨x21, hx21⟩ : ∃ x, s 598 21 = x := ⟨_, rfl⟩
  rw [hx21] at hON
  have hON0 := hON
  unfold MON at hON
  have hb1 := bI_01 (0 ≤ rcHas G 1 0)
  have hb2 := bI_01 (0 ≤ rcHas G 2 0)
  have hb3 := bI_01 (0 ≤ rcHas G 3 0)
  refine wi_a1 hc rfl rfl ?_
  have hSo : mm_Ev mm_ct mm_CM (0 + 3) 187 [.ref 598] (MX L t s l) (some (.int (iI (soO (k z.1)))), MX L t s l) := sp_187 hk9 hq9 hw9
  rw [hs9] at hSo
  refine wp_cv (b := 598) (As := []) (r := []) hc rfl (by rw [cm_187]; rfl) rfl (Nat.le_of_ble_eq_true rfl) (show 598 < 621 by decide) (by rw [cm_187]; rfl) (ev_mono hSo (by omega)) ?_
  show mm_wp _ _ (4, [some (.ref 598), none, none, none, none, none], [.int (iI 2)], MX L t s l) _
  refine wi_is1 (L' := [some (.ref 598), some (.int (iI 2)), none, none, none, none]) hc rfl (Nat.le_of_ble_eq_true rfl) rfl ?_
  refine wi_i1 hc rfl rfl ?_
  refine wi_zge hc rfl ⟨by decide, by decide⟩ (fun _ => ?_) (fun q => absurd q (by decide))
  refine wi_i1 hc rfl rfl ?_
  refine wi_ic hc rfl ?_
  refine wi_ic hc rfl ?_
  have hIn : mm_Ev mm_ct mm_CM (0 + 1) 148 [.int (iI 2), .int (iI 1), .int (iI 3)] (MX L t s l) (some (.int (iI (bI ((1 : Int) ≤ 2 ∧ (2 : Int) ≤ 3)))), MX L t s l) := sp_148 ⟨by decide, by decide⟩ ⟨by decide, by decide⟩ ⟨by decide, by decide⟩
  rw [bI_t (p := (1 : Int) ≤ 2 ∧ (2 : Int) ≤ 3) (by decide)] at hIn
  refine wp_cs (As := [.int (iI 2), .int (iI 1), .int (iI 3)]) (r := []) hc rfl (by rw [cm_148]; rfl) rfl (Nat.le_of_ble_eq_true rfl) (ev_mono hIn (by omega)) ?_
  show mm_wp _ _ (17, [some (.ref 598), some (.int (iI 2)), none, none, none, none], [.int (iI 1)], MX L t s l) _
  refine wi_is1 (L' := [some (.ref 598), some (.int (iI 2)), some (.int (iI 1)), none, none, none]) hc rfl (Nat.le_of_ble_eq_true rfl) rfl ?_
  refine wi_i1 hc rfl rfl ?_
  refine wi_zeq hc rfl ⟨by decide, by decide⟩ (fun q => absurd q (by decide)) (fun _ => ?_)
  refine wi_a1 hc rfl rfl ?_
  refine wi_gfv (kz := 21) rfl hc rfl rfl (by decide) (Nat.le_of_ble_eq_true rfl) rfl (v := x21) (hx21) ?_
  refine wi_i1 hc rfl rfl ?_
  refine wi_shr 4 rfl hc rfl ⟨by omega, by omega⟩ (by omega) (by omega) ?_
  refine wi_ic hc rfl ?_
  refine wi_msk 1 2 rfl (by decide) (by decide) hc rfl ?_
  refine wi_ic hc rfl ?_
  refine wi_cne hc rfl ⟨by omega, by omega⟩ ⟨by decide, by decide⟩ (fun h3_ => ?_) (fun h3_ => ?_)
  · have hn4 : ¬ 0 ≤ rcHas G 2 0 := fun e => by have := bI_t e; omega
    refine wi_a1 hc rfl rfl ?_
    refine wi_gr (w := 601) hc rfl rfl (by decide) (Nat.le_of_ble_eq_true rfl) rfl ?_
    refine wi_a1 hc rfl rfl ?_
    refine wi_gfv (kz := 12) rfl hc rfl rfl (by decide) (Nat.le_of_ble_eq_true rfl) rfl (v := b) (MSt.rb h) ?_
    refine wi_ildv (N := 2820) hc rfl rfl (by decide) (by decide) (by omega) (by omega) (v := G 0) (hGm.1) ?_
    refine wi_is1 (L' := [some (.ref 598), some (.int (iI 2)), some (.int (iI 1)), some (.int (iI (G 0))), none, none]) hc rfl (Nat.le_of_ble_eq_true rfl) rfl ?_
    refine wi_i1 hc rfl rfl ?_
    refine wi_bi hc rfl rfl ?_
    refine wi_cne hc rfl ⟨by omega, by omega⟩ ⟨by decide, by decide⟩ (fun h4_ => ?_) (fun h4_ => ?_)
    · refine wi_i1 hc rfl rfl ?_
      refine wi_zeq hc rfl ⟨by decide, by decide⟩ (fun q => absurd q (by decide)) (fun _ => ?_)
      refine wi_a1 hc rfl rfl ?_
      refine wi_dupr hc rfl ?_
      refine wi_gfv (kz := 21) rfl hc rfl rfl (by decide) (Nat.le_of_ble_eq_true rfl) rfl (v := x21) (hx21) ?_
      refine wi_ic hc rfl ?_
      refine wi_i1 hc rfl rfl ?_
      refine wi_shl 4 rfl hc rfl (by omega) (by omega) ?_
      refine wi_or hc rfl (by omega) (by omega) ?_
      rw [show orI x21 (1 * 4) = x21 + 4 by
        rcases (by omega : x21 = 0 ∨ x21 = 2 ∨ x21 = 8 ∨ x21 = 10) with e | e | e | e <;> (rw [e]; rfl)]
      refine wi_pf (kz := 21) rfl hc rfl rfl (by decide) (Nat.le_of_ble_eq_true rfl) rfl (Nat.le_of_ble_eq_true rfl) ⟨rfl, rfl⟩ rfl ?_
      obtain ⟨s1_, es1_⟩ : ∃ q, q = up s 598 21 (x21 + 4) := ⟨_, rfl⟩
      rw [← es1_]
      refine wi_a1 hc rfl rfl ?_
      refine wi_i1 hc rfl rfl ?_
      refine wi_pf (kz := 20) rfl hc rfl rfl (by decide) (Nat.le_of_ble_eq_true rfl) rfl (Nat.le_of_ble_eq_true rfl) ⟨rfl, rfl⟩ rfl ?_
      obtain ⟨s2_, es2_⟩ : ∃ q, q = up s1_ 598 20 2 := ⟨_, rfl⟩
      rw [← es2_]
      refine wi_a1 hc rfl rfl ?_
      have hMs1_ : MSt f n k pl nm tn b s1_ l z P 0 w := by rw [es1_]; exact h.s20 (by decide)
      have hFs1_ : MCf b s s1_ l l := (show MCf b s s l l from MCf.rf).tr (by rw [es1_]; exact MCf.u (by decide))
      have hMs2_ : MSt f n k pl nm tn b s2_ l z P 0 w := by rw [es2_]; exact hMs1_.s20 (by decide)
      have hFs2_ : MCf b s s2_ l l := (show MCf b s s1_ l l from hFs1_).tr (by rw [es2_]; exact MCf.u (by decide))
      have hnx9 := GTX_nx hG hz1.1 hz1.2 (by rcases soO_s (k z.1) with ⟨e, -⟩ | ⟨-, -, -, e⟩ <;> omega)
      obtain ⟨sx, lx, hEx, hMx, hFx⟩ := nx_166 (d := 0) (L := L) (t := t) (c := 0) hG hMs2_ hnx9
      refine wp_cv (b := 598) (As := []) (r := []) hc rfl (by rw [cm_166]; rfl) rfl (Nat.le_of_ble_eq_true rfl) (show 598 < 621 by decide) (by rw [cm_166]; rfl) (ev_mono hEx (by omega)) ?_
      have hCx : MCf b s sx l lx := hFs2_.tr ((hFx.fn9 (lo := b + 97) (by omega)).c (by omega))
      have h20 : sx 598 20 = 2 := by rw [hFx.2.1 20 (by decide) (by decide) (by decide), es2_, up_at]
      have h21 : sx 598 21 = x21 + 4 := by rw [hFx.2.1 21 (by decide) (by decide) (by decide), es2_, up_k (by decide), es1_, up_at]
      have h601 : ∀ j, j < b + 97 → sx 601 j = s 601 j := fun j a => by rw [hFx.2.2.1 j (by omega), es2_, up_cc (by decide), es1_, up_cc (by decide)]
      have hGx : MG b (sx 601) G := hGm.f rfl (fun j a => h601 j (by omega))
      show mm_wp _ _ (80, [some (.ref 598), some (.int (iI 2)), some (.int (iI 1)), some (.int (iI (G 0))), none, none], [], MX L t sx lx) _
      refine wi_a1 hc rfl rfl ?_
      refine wi_gfv (kz := 12) rfl hc rfl rfl (by decide) (Nat.le_of_ble_eq_true rfl) rfl (v := b) (MSt.rb hMx) ?_
      refine wi_ic hc rfl ?_
      refine wi_add hc rfl ?_
      refine wi_ic hc rfl ?_
      refine wi_i1 hc rfl rfl ?_
      refine wi_mul hc rfl ?_
      refine wi_add hc rfl ?_
      refine wi_is2 (L' := [some (.ref 598), some (.int (iI 2)), some (.int (iI 1)), some (.int (iI (G 0))), some (.int (iI ((b + 1) + (4 * (G 0))))), none]) hc rfl (Nat.le_of_ble_eq_true rfl) rfl ?_
      refine wi_a1 hc rfl rfl ?_
      refine wi_i1 hc rfl rfl ?_
      refine wi_i2 hc rfl rfl ?_
      obtain ⟨f1, y1, hy1⟩ : ∃ f y, rcBody k nm G 2 (rpNx z) = (f, y) := ⟨_, _, rfl⟩
      have hF1 : 0 ≤ f1 ∧ f1 ≤ 5 := rpF_Bo hy1
      obtain ⟨sy, ly, hEy, hRy, hNy⟩ := bd_194_2 (d := 0) (L := L) (t := t) hG hMx b0 ⟨by show 0 ≤ z.2.2; omega, by show z.2.2 ≤ z.1 + 1; omega⟩ (a9 := (b + 1) + (4 * (G 0))) ⟨by omega, by omega⟩ hGx (fun q q0 q1 => ⟨(hGb.2.2 q q0 q1).1.1, (hGb.2.2 q q0 q1).1.2, (hGb.2.2 q q0 q1).2.1⟩) h20 hy1
      refine wp_cv (b := 598) (As := [.int (iI 2), .int (iI ((b + 1) + (4 * (G 0))))]) (r := []) hc rfl (by rw [cm_194]; rfl) rfl (Nat.le_of_ble_eq_true rfl) (show 598 < 621 by decide) (by rw [cm_194]; rfl) (ev_mono hEy (by omega)) ?_
      obtain ⟨yy, Q1, o1, w1, hx1, hx2, hx3, hx4⟩ := hRy
      show mm_wp _ _ (99, [some (.ref 598), some (.int (iI 2)), some (.int (iI 1)), some (.int (iI (G 0))), some (.int (iI ((b + 1) + (4 * (G 0))))), none], [.int (iI f1)], MX L t sy ly) _
      refine wi_is2 (L' := [some (.ref 598), some (.int (iI 2)), some (.int (iI 1)), some (.int (iI (G 0))), some (.int (iI ((b + 1) + (4 * (G 0))))), some (.int (iI f1))]) hc rfl (Nat.le_of_ble_eq_true rfl) rfl ?_
      refine wi_i2 hc rfl rfl ?_
      refine wi_zeq hc rfl ⟨by omega, by omega⟩ (fun h6_ => ?_) (fun h6_ => ?_)
      · have e9 : f1 = 0 := h6_
        subst e9
        obtain ⟨hx5, hx6⟩ := hx3 rfl
        rw [hx5, hx6] at hx2
        have hx2 : MSt f n k pl nm tn b sy ly y1 Q1 0 w1 := hx2
        have hNy := hNy rfl
        obtain ⟨q8, hq8⟩ : ∃ q, sy 598 9 = q := ⟨_, rfl⟩
        have hk8 := MSt.tk hx2
        rw [hq8] at hk8
        have ha8 := tkR_a hk8
        unfold tkA at ha8
        have hz8 := hx2.2.1.1
        have hkr8 := hG.2.2.2.2.2.2 y1.1
        refine wi_a1 hc rfl rfl ?_
        refine wi_gr (w := 601) hc rfl rfl (by decide) (Nat.le_of_ble_eq_true rfl) rfl ?_
        refine wi_i2 hc rfl rfl ?_
        refine wi_i1 hc rfl rfl ?_
        refine wi_ist (N := 2820) hc rfl rfl (by decide) (by decide) (by omega) (by omega) ?_
        obtain ⟨s3_, es3_⟩ : ∃ q, q = up sy 601 ((b + 1) + (4 * (G 0))) 2 := ⟨_, rfl⟩
        rw [← es3_]
        refine wi_a1 hc rfl rfl ?_
        refine wi_gr (w := 601) hc rfl rfl (by decide) (Nat.le_of_ble_eq_true rfl) rfl ?_
        refine wi_a1 hc rfl rfl ?_
        refine wi_gfv (kz := 12) rfl hc rfl rfl (by decide) (Nat.le_of_ble_eq_true rfl) rfl (v := b) (((congrFun (congrFun es3_ _) _).trans (up_c (by decide))).trans (MSt.rb hx2)) ?_
        refine wi_dup2 hc rfl ?_
        refine wi_ildv (N := 2820) hc rfl rfl (by decide) (by decide) (by omega) (by omega) (v := G 0) (((congrFun (congrFun es3_ _) _).trans (up_k (by omega))).trans ((hx4.2.2.1 b (by omega)).trans hGx.1)) ?_
        refine wi_ic hc rfl ?_
        refine wi_add hc rfl ?_
        refine wi_ist (N := 2820) hc rfl rfl (by decide) (by decide) (by omega) (by omega) ?_
        obtain ⟨s4_, es4_⟩ : ∃ q, q = up s3_ 601 b ((G 0) + 1) := ⟨_, rfl⟩
        rw [← es4_]
        have hMc : MSt f n k pl nm tn b s4_ ly y1 Q1 0 w1 := by rw [es4_]; exact MSt.nw (by rw [es3_]; exact hx2.nw (by omega)) (by omega)
        have hCc : MCf b s s4_ l ly := (hCx.tr (hx4.c (by omega))).tr ((show MCf b sy s3_ ly ly by rw [es3_]; exact MCf.w9 (by omega)).tr (by rw [es4_]; exact MCf.w9 (Int.le_refl _)))
        have hT9 : ∀ j, s4_ 601 j = if j = b then G 0 + 1 else if j = (b + 1) + (4 * (G 0)) then 2 else sy 601 j := fun j => by rw [es4_, up_ite, es3_, up_ite]
        have h21c : s4_ 598 21 = x21 + 4 := by rw [es4_, up_cc (by decide), es3_, up_cc (by decide), hx4.2.1 21 (by decide) (by decide) (by decide)]; exact h21
        refine wi_a1 hc rfl rfl ?_
        refine wi_gfv (kz := 9) rfl hc rfl rfl (by decide) (Nat.le_of_ble_eq_true rfl) rfl (v := q8) ((by rw [es4_, up_cc (by decide), es3_, up_cc (by decide)]; exact hq8 : s4_ 598 9 = q8)) ?_
        refine wi_bi hc rfl rfl ?_
        refine wi_ceq hc rfl ⟨by omega, by omega⟩ ⟨by decide, by decide⟩ (fun h7_ => ?_) (fun h7_ => ?_)
        · refine wi_a1 hc rfl rfl ?_
          have hnx8 := GTX_nx hG hz8.1 hz8.2 (by omega)
          obtain ⟨sz, lz, hEz, hMz, hFz⟩ := nx_166 (d := 0) (L := L) (t := t) (c := 0) hG hMc hnx8
          refine wp_cv (b := 598) (As := []) (r := []) hc rfl (by rw [cm_166]; rfl) rfl (Nat.le_of_ble_eq_true rfl) (show 598 < 621 by decide) (by rw [cm_166]; rfl) (ev_mono hEz (by omega)) ?_
          have hCz : MCf b s sz l lz := hCc.tr ((hFz.fn9 (lo := b + 97) (by omega)).c (by omega))
          show mm_wp _ _ (145, [some (.ref 598), some (.int (iI 2)), some (.int (iI 1)), some (.int (iI (G 0))), some (.int (iI ((b + 1) + (4 * (G 0))))), some (.int (iI 0))], [], MX L t sz lz) _
          refine wi_ic hc rfl ?_
          refine wi_ri hc rfl (by rw [cm_195]; rfl) ?_
          have hR9 : rpB (rpB (rcNum k nm G 2 (rpNx z)) (rcMore k nm 2)) (rcWd k 39) = (0, rpNx y1) := by
            rw [← rcBody_s (by decide), hy1]
            rw [rpB_z, rcWd, if_pos (by omega)]
          have hr9 := rcCl_go hs9 (by decide) (fun e => hn4 e.2) (by omega) hR9
          rw [hr] at hr9
          subst hr9
          have hT8 : ∀ j, j < b + 97 → sz 601 j = if j = b then G 0 + 1 else if j = (b + 1) + (4 * (G 0)) then 2 else sy 601 j := fun j a => by rw [hFz.2.2.1 j (by omega), hT9]
          refine ⟨sz, lz, rfl, rpNx y1, Q1, 0, w1, rfl, hMz, fun _ => ⟨rfl, rfl, ?_, ?_⟩, hCz⟩
          · refine hGm.add (so := 2) (z := rpNx z) (y := rpNx y1) (by omega) ⟨by decide, by decide⟩ (fun j j0 j1 => ?_) (by rw [hT8 b (by omega), if_pos rfl]) (by rw [hT8 _ (by omega), if_neg (by omega), if_pos rfl]) ?_
            · rw [hT8 j (by omega), if_neg j0, if_neg (by omega), hx4.2.2.1 j (by omega), h601 j (by omega)]
            · obtain ⟨n1, n2, n3⟩ := hNy
              refine ⟨fun e => ?_, fun e => ?_, fun e => ?_⟩
              · rw [hT8 _ (by omega), if_neg (by omega), if_neg (by omega)]; exact n1 e
              · rw [hT8 _ (by omega), if_neg (by omega), if_neg (by omega)]; exact n2 e
              · rw [hT8 _ (by omega), if_neg (by omega), if_neg (by omega)]; exact n3 e
          · refine hON0.add hG0.1 (fun e => hn4) ?_
            rw [hFz.2.1 21 (by decide) (by decide) (by decide), h21c]
            rfl
        · refine wi_ic hc rfl ?_
          refine wi_ri hc rfl (by rw [cm_195]; rfl) ?_
          have hR9 : rpB (rpB (rcNum k nm G 2 (rpNx z)) (rcMore k nm 2)) (rcWd k 39) = (1, y1) := by
            rw [← rcBody_s (by decide), hy1]
            rw [rpB_z, rcWd, if_neg (by omega)]
          have hr9 := rcCl_go hs9 (by decide) (fun e => hn4 e.2) (by omega) hR9
          rw [hr] at hr9
          subst hr9
          exact ⟨s4_, ly, rfl, y1, Q1, 0, w1, rfl, hMc, fun e => absurd (show (1 : Int) = 0 from e) (by decide), hCc⟩
      · skip
        refine wi_i2 hc rfl rfl ?_
        refine wi_ri hc rfl (by rw [cm_195]; rfl) ?_
        have hR9 : rpB (rpB (rcNum k nm G 2 (rpNx z)) (rcMore k nm 2)) (rcWd k 39) = (f1, y1) := by
          rw [← rcBody_s (by decide), hy1]
          exact rpB_n (r := (f1, y1)) h6_
        have hr9 := rcCl_go hs9 (by decide) (fun e => hn4 e.2) (by omega) hR9
        rw [hr] at hr9
        subst hr9
        exact ⟨sy, ly, rfl, yy, Q1, o1, w1, hx1, hx2, fun e => absurd e h6_, hCx.tr (hx4.c (by omega))⟩
    · refine wi_bi hc rfl rfl ?_
      refine wi_ri hc rfl (by rw [cm_195]; rfl) ?_
      have hr9 : r = (6, z, G) := by rw [← hr, rcCl_6 hs9 (by decide) (fun e => hn4 e.2) (by omega)]
      subst hr9
      exact ⟨s, l, rfl, z, P, 0, w, rfl, h, fun e => absurd (show (6 : Int) = 0 from e) (by decide), MCf.rf⟩
  · have hy4 : 0 ≤ rcHas G 2 0 := Classical.byContradiction (fun e => by have := bI_f e; omega)
    refine wi_ic hc rfl ?_
    refine wi_ri hc rfl (by rw [cm_195]; rfl) ?_
    have hr9 : r = (4, z, G) := by rw [← hr, rcCl_4 hs9 (by decide) hy4]
    subst hr9
    exact ⟨s, l, rfl, z, P, 0, w, rfl, h, fun e => absurd (show (4 : Int) = 0 from e) (by decide), MCf.rf⟩
theorem mc_195_3 {d L t : Nat} {s l : Nat → Int → Int} {f : Int → Int} {n : Int} {kd k pl nm : Int → Int} {tn b : Int} {z : rpS} {P : List Int} {w : Int} (hG : GTX f n kd k pl nm tn) (h : MSt f n k pl nm tn b s l z P 0 w) (b0 : 0 ≤ b ∧ b ≤ 2115) (hI : 0 ≤ z.2.2 ∧ z.2.2 ≤ z.1) {G : Int → Int} (hGm : MG b (s 601) G) (hGb : GTb G z.2.2) (hON : MON (s 598 21) G) {r : rcR} (hr : rcCl k nm z G = r) (hs9 : soO (k z.1) = 3) : ∃ s1 l1, mm_Ev mm_ct mm_CM (d + 13) 195 [.ref 598] (MX L t s l) (some (.int (iI r.1)), MX L t s1 l1) ∧ MCr f n k pl nm tn b s s1 l l1 r := by
  have hc : (mm_CM 195).2.2.2.2.2.2.2 = mm_cf cd_195 := by rw [cm_195]; rfl
  refine ev_xsl ?_
  refine ev_to (mx := 6) (by rw [cm_195]; decide) (by rw [cm_195]; rfl) (by show 1 ≤ _; decide) ?_
  show mm_wp _ _ (0, [some (.ref 598), none, none, none, none, none], [], MX L t s l) (fun res => ∃ s1 l1, res = (some (.int (iI r.1)), MX L t s1 l1) ∧ MCr f n k pl nm tn b s s1 l l1 r)
  obtain ⟨q9, hq9⟩ : ∃ q9, s 598 9 = q9 := ⟨_, rfl⟩
  obtain ⟨u9, hu9⟩ : ∃ u9, s 598 10 = u9 := ⟨_, rfl⟩
  obtain ⟨w9, hw9⟩ : ∃ w9, l 598 11 = w9 := ⟨_, rfl⟩
  have hk9 := MSt.tk h
  rw [hq9, hu9, hw9] at hk9
  have ha9 := tkR_a hk9
  unfold tkA at ha9
  have htn := hG.2.2.2.1
  have hz1 := h.2.1.1
  have hkr := hG.2.2.2.2.2.2 z.1
  have hk43 := GTX_43 hG
  have hG0 := hGm.2.1
  obtain ⟨x21, hx21⟩ : ∃ x, s 598 21 = x := ⟨_, rfl⟩
  rw [hx21] at hON
  have hON0 := hON
  unfold MON at hON
  have hb1 := bI_01 (0 ≤ rcHas G 1 0)
  have hb2 := bI_01 (0 ≤ rcHas G 2 0)
  have hb3 := bI_01 (0 ≤ rcHas G 3 0)
  refine wi_a1 hc rfl rfl ?_
  have hSo : mm_Ev mm_ct mm_CM (0 + 3) 187 [.ref 598] (MX L t s l) (some (.int (iI (soO (k z.1)))), MX L t s l) := sp_187 hk9 hq9 hw9
  rw [hs9] at hSo
  refine wp_cv (b := 598) (As := []) (r := []) hc rfl (by rw [cm_187]; rfl) rfl (Nat.le_of_ble_eq_true rfl) (show 598 < 621 by decide) (by rw [cm_187]; rfl) (ev_mono hSo (by omega)) ?_
  show mm_wp _ _ (4, [some (.ref 598), none, none, none, none, none], [.int (iI 3)], MX L t s l) _
  refine wi_is1 (L' := [some (.ref 598), some (.int (iI 3)), none, none, none, none]) hc rfl (Nat.le_of_ble_eq_true rfl) rfl ?_
  refine wi_i1 hc rfl rfl ?_
  refine wi_zge hc rfl ⟨by decide, by decide⟩ (fun _ => ?_) (fun q => absurd q (by decide))
  refine wi_i1 hc rfl rfl ?_
  refine wi_ic hc rfl ?_
  refine wi_ic hc rfl ?_
  have hIn : mm_Ev mm_ct mm_CM (0 + 1) 148 [.int (iI 3), .int (iI 1), .int (iI 3)] (MX L t s l) (some (.int (iI (bI ((1 : Int) ≤ 3 ∧ (3 : Int) ≤ 3)))), MX L t s l) := sp_148 ⟨by decide, by decide⟩ ⟨by decide, by decide⟩ ⟨by decide, by decide⟩
  rw [bI_t (p := (1 : Int) ≤ 3 ∧ (3 : Int) ≤ 3) (by decide)] at hIn
  refine wp_cs (As := [.int (iI 3), .int (iI 1), .int (iI 3)]) (r := []) hc rfl (by rw [cm_148]; rfl) rfl (Nat.le_of_ble_eq_true rfl) (ev_mono hIn (by omega)) ?_
  show mm_wp _ _ (17, [some (.ref 598), some (.int (iI 3)), none, none, none, none], [.int (iI 1)], MX L t s l) _
  refine wi_is1 (L' := [some (.ref 598), some (.int (iI 3)), some (.int (iI 1)), none, none, none]) hc rfl (Nat.le_of_ble_eq_true rfl) rfl ?_
  refine wi_i1 hc rfl rfl ?_
  refine wi_zeq hc rfl ⟨by decide, by decide⟩ (fun q => absurd q (by decide)) (fun _ => ?_)
  refine wi_a1 hc rfl rfl ?_
  refine wi_gfv (kz := 21) rfl hc rfl rfl (by decide) (Nat.le_of_ble_eq_true rfl) rfl (v := x21) (hx21) ?_
  refine wi_i1 hc rfl rfl ?_
  refine wi_shr 8 rfl hc rfl ⟨by omega, by omega⟩ (by omega) (by omega) ?_
  refine wi_ic hc rfl ?_
  refine wi_msk 1 2 rfl (by decide) (by decide) hc rfl ?_
  refine wi_ic hc rfl ?_
  refine wi_cne hc rfl ⟨by omega, by omega⟩ ⟨by decide, by decide⟩ (fun h3_ => ?_) (fun h3_ => ?_)
  · have hn4 : ¬ 0 ≤ rcHas G 3 0 := fun e => by have := bI_t e; omega
    refine wi_a1 hc rfl rfl ?_
    refine wi_gr (w := 601) hc rfl rfl (by decide) (Nat.le_of_ble_eq_true rfl) rfl ?_
    refine wi_a1 hc rfl rfl ?_
    refine wi_gfv (kz := 12) rfl hc rfl rfl (by decide) (Nat.le_of_ble_eq_true rfl) rfl (v := b) (MSt.rb h) ?_
    refine wi_ildv (N := 2820) hc rfl rfl (by decide) (by decide) (by omega) (by omega) (v := G 0) (hGm.1) ?_
    refine wi_is1 (L' := [some (.ref 598), some (.int (iI 3)), some (.int (iI 1)), some (.int (iI (G 0))), none, none]) hc rfl (Nat.le_of_ble_eq_true rfl) rfl ?_
    refine wi_i1 hc rfl rfl ?_
    refine wi_bi hc rfl rfl ?_
    refine wi_cne hc rfl ⟨by omega, by omega⟩ ⟨by decide, by decide⟩ (fun h4_ => ?_) (fun h4_ => ?_)
    · refine wi_i1 hc rfl rfl ?_
      refine wi_zeq hc rfl ⟨by decide, by decide⟩ (fun q => absurd q (by decide)) (fun _ => ?_)
      refine wi_a1 hc rfl rfl ?_
      refine wi_dupr hc rfl ?_
      refine wi_gfv (kz := 21) rfl hc rfl rfl (by decide) (Nat.le_of_ble_eq_true rfl) rfl (v := x21) (hx21) ?_
      refine wi_ic hc rfl ?_
      refine wi_i1 hc rfl rfl ?_
      refine wi_shl 8 rfl hc rfl (by omega) (by omega) ?_
      refine wi_or hc rfl (by omega) (by omega) ?_
      rw [show orI x21 (1 * 8) = x21 + 8 by
        rcases (by omega : x21 = 0 ∨ x21 = 2 ∨ x21 = 4 ∨ x21 = 6) with e | e | e | e <;> (rw [e]; rfl)]
      refine wi_pf (kz := 21) rfl hc rfl rfl (by decide) (Nat.le_of_ble_eq_true rfl) rfl (Nat.le_of_ble_eq_true rfl) ⟨rfl, rfl⟩ rfl ?_
      obtain ⟨s1_, es1_⟩ : ∃ q, q = up s 598 21 (x21 + 8) := ⟨_, rfl⟩
      rw [← es1_]
      refine wi_a1 hc rfl rfl ?_
      refine wi_i1 hc rfl rfl ?_
      refine wi_pf (kz := 20) rfl hc rfl rfl (by decide) (Nat.le_of_ble_eq_true rfl) rfl (Nat.le_of_ble_eq_true rfl) ⟨rfl, rfl⟩ rfl ?_
      obtain ⟨s2_, es2_⟩ : ∃ q, q = up s1_ 598 20 3 := ⟨_, rfl⟩
      rw [← es2_]
      refine wi_a1 hc rfl rfl ?_
      have hMs1_ : MSt f n k pl nm tn b s1_ l z P 0 w := by rw [es1_]; exact h.s20 (by decide)
      have hFs1_ : MCf b s s1_ l l := (show MCf b s s l l from MCf.rf).tr (by rw [es1_]; exact MCf.u (by decide))
      have hMs2_ : MSt f n k pl nm tn b s2_ l z P 0 w := by rw [es2_]; exact hMs1_.s20 (by decide)
      have hFs2_ : MCf b s s2_ l l := (show MCf b s s1_ l l from hFs1_).tr (by rw [es2_]; exact MCf.u (by decide))
      have hnx9 := GTX_nx hG hz1.1 hz1.2 (by rcases soO_s (k z.1) with ⟨e, -⟩ | ⟨-, -, -, e⟩ <;> omega)
      obtain ⟨sx, lx, hEx, hMx, hFx⟩ := nx_166 (d := 0) (L := L) (t := t) (c := 0) hG hMs2_ hnx9
      refine wp_cv (b := 598) (As := []) (r := []) hc rfl (by rw [cm_166]; rfl) rfl (Nat.le_of_ble_eq_true rfl) (show 598 < 621 by decide) (by rw [cm_166]; rfl) (ev_mono hEx (by omega)) ?_
      have hCx : MCf b s sx l lx := hFs2_.tr ((hFx.fn9 (lo := b + 97) (by omega)).c (by omega))
      have h20 : sx 598 20 = 3 := by rw [hFx.2.1 20 (by decide) (by decide) (by decide), es2_, up_at]
      have h21 : sx 598 21 = x21 + 8 := by rw [hFx.2.1 21 (by decide) (by decide) (by decide), es2_, up_k (by decide), es1_, up_at]
      have h601 : ∀ j, j < b + 97 → sx 601 j = s 601 j := fun j a => by rw [hFx.2.2.1 j (by omega), es2_, up_cc (by decide), es1_, up_cc (by decide)]
      have hGx : MG b (sx 601) G := hGm.f rfl (fun j a => h601 j (by omega))
      show mm_wp _ _ (80, [some (.ref 598), some (.int (iI 3)), some (.int (iI 1)), some (.int (iI (G 0))), none, none], [], MX L t sx lx) _
      refine wi_a1 hc rfl rfl ?_
      refine wi_gfv (kz := 12) rfl hc rfl rfl (by decide) (Nat.le_of_ble_eq_true rfl) rfl (v := b) (MSt.rb hMx) ?_
      refine wi_ic hc rfl ?_
      refine wi_add hc rfl ?_
      refine wi_ic hc rfl ?_
      refine wi_i1 hc rfl rfl ?_
      refine wi_mul hc rfl ?_
      refine wi_add hc rfl ?_
      refine wi_is2 (L' := [some (.ref 598), some (.int (iI 3)), some (.int (iI 1)), some (.int (iI (G 0))), some (.int (iI ((b + 1) + (4 * (G 0))))), none]) hc rfl (Nat.le_of_ble_eq_true rfl) rfl ?_
      refine wi_a1 hc rfl rfl ?_
      refine wi_i1 hc rfl rfl ?_
      refine wi_i2 hc rfl rfl ?_
      obtain ⟨f1, y1, hy1⟩ : ∃ f y, rcBody k nm G 3 (rpNx z) = (f, y) := ⟨_, _, rfl⟩
      have hF1 : 0 ≤ f1 ∧ f1 ≤ 5 := rpF_Bo hy1
      obtain ⟨sy, ly, hEy, hRy, hNy⟩ := bd_194_3 (d := 0) (L := L) (t := t) hG hMx b0 ⟨by show 0 ≤ z.2.2; omega, by show z.2.2 ≤ z.1 + 1; omega⟩ (a9 := (b + 1) + (4 * (G 0))) ⟨by omega, by omega⟩ hGx (fun q q0 q1 => ⟨(hGb.2.2 q q0 q1).1.1, (hGb.2.2 q q0 q1).1.2, (hGb.2.2 q q0 q1).2.1⟩) hy1
      refine wp_cv (b := 598) (As := [.int (iI 3), .int (iI ((b + 1) + (4 * (G 0))))]) (r := []) hc rfl (by rw [cm_194]; rfl) rfl (Nat.le_of_ble_eq_true rfl) (show 598 < 621 by decide) (by rw [cm_194]; rfl) (ev_mono hEy (by omega)) ?_
      obtain ⟨yy, Q1, o1, w1, hx1, hx2, hx3, hx4⟩ := hRy
      show mm_wp _ _ (99, [some (.ref 598), some (.int (iI 3)), some (.int (iI 1)), some (.int (iI (G 0))), some (.int (iI ((b + 1) + (4 * (G 0))))), none], [.int (iI f1)], MX L t sy ly) _
      refine wi_is2 (L' := [some (.ref 598), some (.int (iI 3)), some (.int (iI 1)), some (.int (iI (G 0))), some (.int (iI ((b + 1) + (4 * (G 0))))), some (.int (iI f1))]) hc rfl (Nat.le_of_ble_eq_true rfl) rfl ?_
      refine wi_i2 hc rfl rfl ?_
      refine wi_zeq hc rfl ⟨by omega, by omega⟩ (fun h6_ => ?_) (fun h6_ => ?_)
      · have e9 : f1 = 0 := h6_
        subst e9
        obtain ⟨hx5, hx6⟩ := hx3 rfl
        rw [hx5, hx6] at hx2
        have hx2 : MSt f n k pl nm tn b sy ly y1 Q1 0 w1 := hx2
        have hNy := hNy rfl
        obtain ⟨q8, hq8⟩ : ∃ q, sy 598 9 = q := ⟨_, rfl⟩
        have hk8 := MSt.tk hx2
        rw [hq8] at hk8
        have ha8 := tkR_a hk8
        unfold tkA at ha8
        have hz8 := hx2.2.1.1
        have hkr8 := hG.2.2.2.2.2.2 y1.1
        refine wi_a1 hc rfl rfl ?_
        refine wi_gr (w := 601) hc rfl rfl (by decide) (Nat.le_of_ble_eq_true rfl) rfl ?_
        refine wi_i2 hc rfl rfl ?_
        refine wi_i1 hc rfl rfl ?_
        refine wi_ist (N := 2820) hc rfl rfl (by decide) (by decide) (by omega) (by omega) ?_
        obtain ⟨s3_, es3_⟩ : ∃ q, q = up sy 601 ((b + 1) + (4 * (G 0))) 3 := ⟨_, rfl⟩
        rw [← es3_]
        refine wi_a1 hc rfl rfl ?_
        refine wi_gr (w := 601) hc rfl rfl (by decide) (Nat.le_of_ble_eq_true rfl) rfl ?_
        refine wi_a1 hc rfl rfl ?_
        refine wi_gfv (kz := 12) rfl hc rfl rfl (by decide) (Nat.le_of_ble_eq_true rfl) rfl (v := b) (((congrFun (congrFun es3_ _) _).trans (up_c (by decide))).trans (MSt.rb hx2)) ?_
        refine wi_dup2 hc rfl ?_
        refine wi_ildv (N := 2820) hc rfl rfl (by decide) (by decide) (by omega) (by omega) (v := G 0) (((congrFun (congrFun es3_ _) _).trans (up_k (by omega))).trans ((hx4.2.2.1 b (by omega)).trans hGx.1)) ?_
        refine wi_ic hc rfl ?_
        refine wi_add hc rfl ?_
        refine wi_ist (N := 2820) hc rfl rfl (by decide) (by decide) (by omega) (by omega) ?_
        obtain ⟨s4_, es4_⟩ : ∃ q, q = up s3_ 601 b ((G 0) + 1) := ⟨_, rfl⟩
        rw [← es4_]
        have hMc : MSt f n k pl nm tn b s4_ ly y1 Q1 0 w1 := by rw [es4_]; exact MSt.nw (by rw [es3_]; exact hx2.nw (by omega)) (by omega)
        have hCc : MCf b s s4_ l ly := (hCx.tr (hx4.c (by omega))).tr ((show MCf b sy s3_ ly ly by rw [es3_]; exact MCf.w9 (by omega)).tr (by rw [es4_]; exact MCf.w9 (Int.le_refl _)))
        have hT9 : ∀ j, s4_ 601 j = if j = b then G 0 + 1 else if j = (b + 1) + (4 * (G 0)) then 3 else sy 601 j := fun j => by rw [es4_, up_ite, es3_, up_ite]
        have h21c : s4_ 598 21 = x21 + 8 := by rw [es4_, up_cc (by decide), es3_, up_cc (by decide), hx4.2.1 21 (by decide) (by decide) (by decide)]; exact h21
        refine wi_a1 hc rfl rfl ?_
        refine wi_gfv (kz := 9) rfl hc rfl rfl (by decide) (Nat.le_of_ble_eq_true rfl) rfl (v := q8) ((by rw [es4_, up_cc (by decide), es3_, up_cc (by decide)]; exact hq8 : s4_ 598 9 = q8)) ?_
        refine wi_bi hc rfl rfl ?_
        refine wi_ceq hc rfl ⟨by omega, by omega⟩ ⟨by decide, by decide⟩ (fun h7_ => ?_) (fun h7_ => ?_)
        · refine wi_a1 hc rfl rfl ?_
          have hnx8 := GTX_nx hG hz8.1 hz8.2 (by omega)
          obtain ⟨sz, lz, hEz, hMz, hFz⟩ := nx_166 (d := 0) (L := L) (t := t) (c := 0) hG hMc hnx8
          refine wp_cv (b := 598) (As := []) (r := []) hc rfl (by rw [cm_166]; rfl) rfl (Nat.le_of_ble_eq_true rfl) (show 598 < 621 by decide) (by rw [cm_166]; rfl) (ev_mono hEz (by omega)) ?_
          have hCz : MCf b s sz l lz := hCc.tr ((hFz.fn9 (lo := b + 97) (by omega)).c (by omega))
          show mm_wp _ _ (145, [some (.ref 598), some (.int (iI 3)), some (.int (iI 1)), some (.int (iI (G 0))), some (.int (iI ((b + 1) + (4 * (G 0))))), some (.int (iI 0))], [], MX L t sz lz) _
          refine wi_ic hc rfl ?_
          refine wi_ri hc rfl (by rw [cm_195]; rfl) ?_
          have hR9 : rpB (rpB (rcNum k nm G 3 (rpNx z)) (rcMore k nm 3)) (rcWd k 39) = (0, rpNx y1) := by
            rw [← rcBody_s (by decide), hy1]
            rw [rpB_z, rcWd, if_pos (by omega)]
          have hr9 := rcCl_go hs9 (by decide) (fun e => hn4 e.2) (by omega) hR9
          rw [hr] at hr9
          subst hr9
          have hT8 : ∀ j, j < b + 97 → sz 601 j = if j = b then G 0 + 1 else if j = (b + 1) + (4 * (G 0)) then 3 else sy 601 j := fun j a => by rw [hFz.2.2.1 j (by omega), hT9]
          refine ⟨sz, lz, rfl, rpNx y1, Q1, 0, w1, rfl, hMz, fun _ => ⟨rfl, rfl, ?_, ?_⟩, hCz⟩
          · refine hGm.add (so := 3) (z := rpNx z) (y := rpNx y1) (by omega) ⟨by decide, by decide⟩ (fun j j0 j1 => ?_) (by rw [hT8 b (by omega), if_pos rfl]) (by rw [hT8 _ (by omega), if_neg (by omega), if_pos rfl]) ?_
            · rw [hT8 j (by omega), if_neg j0, if_neg (by omega), hx4.2.2.1 j (by omega), h601 j (by omega)]
            · obtain ⟨n1, n2, n3⟩ := hNy
              refine ⟨fun e => ?_, fun e => ?_, fun e => ?_⟩
              · rw [hT8 _ (by omega), if_neg (by omega), if_neg (by omega)]; exact n1 e
              · rw [hT8 _ (by omega), if_neg (by omega), if_neg (by omega)]; exact n2 e
              · rw [hT8 _ (by omega), if_neg (by omega), if_neg (by omega)]; exact n3 e
          · refine hON0.add hG0.1 (fun e => hn4) ?_
            rw [hFz.2.1 21 (by decide) (by decide) (by decide), h21c]
            rfl
        · refine wi_ic hc rfl ?_
          refine wi_ri hc rfl (by rw [cm_195]; rfl) ?_
          have hR9 : rpB (rpB (rcNum k nm G 3 (rpNx z)) (rcMore k nm 3)) (rcWd k 39) = (1, y1) := by
            rw [← rcBody_s (by decide), hy1]
            rw [rpB_z, rcWd, if_neg (by omega)]
          have hr9 := rcCl_go hs9 (by decide) (fun e => hn4 e.2) (by omega) hR9
          rw [hr] at hr9
          subst hr9
          exact ⟨s4_, ly, rfl, y1, Q1, 0, w1, rfl, hMc, fun e => absurd (show (1 : Int) = 0 from e) (by decide), hCc⟩
      · skip
        refine wi_i2 hc rfl rfl ?_
        refine wi_ri hc rfl (by rw [cm_195]; rfl) ?_
        have hR9 : rpB (rpB (rcNum k nm G 3 (rpNx z)) (rcMore k nm 3)) (rcWd k 39) = (f1, y1) := by
          rw [← rcBody_s (by decide), hy1]
          exact rpB_n (r := (f1, y1)) h6_
        have hr9 := rcCl_go hs9 (by decide) (fun e => hn4 e.2) (by omega) hR9
        rw [hr] at hr9
        subst hr9
        exact ⟨sy, ly, rfl, yy, Q1, o1, w1, hx1, hx2, fun e => absurd e h6_, hCx.tr (hx4.c (by omega))⟩
    · refine wi_bi hc rfl rfl ?_
      refine wi_ri hc rfl (by rw [cm_195]; rfl) ?_
      have hr9 : r = (6, z, G) := by rw [← hr, rcCl_6 hs9 (by decide) (fun e => hn4 e.2) (by omega)]
      subst hr9
      exact ⟨s, l, rfl, z, P, 0, w, rfl, h, fun e => absurd (show (6 : Int) = 0 from e) (by decide), MCf.rf⟩
  · have hy4 : 0 ≤ rcHas G 3 0 := Classical.byContradiction (fun e => by have := bI_f e; omega)
    refine wi_ic hc rfl ?_
    refine wi_ri hc rfl (by rw [cm_195]; rfl) ?_
    have hr9 : r = (4, z, G) := by rw [← hr, rcCl_4 hs9 (by decide) hy4]
    subst hr9
    exact ⟨s, l, rfl, z, P, 0, w, rfl, h, fun e => absurd (show (4 : Int) = 0 from e) (by decide), MCf.rf⟩
theorem mc_195_4 {d L t : Nat} {s l : Nat → Int → Int} {f : Int → Int} {n : Int} {kd k pl nm : Int → Int} {tn b : Int} {z : rpS} {P : List Int} {w : Int} (hG : GTX f n kd k pl nm tn) (h : MSt f n k pl nm tn b s l z P 0 w) (b0 : 0 ≤ b ∧ b ≤ 2115) (hI : 0 ≤ z.2.2 ∧ z.2.2 ≤ z.1) {G : Int → Int} (hGm : MG b (s 601) G) (hGb : GTb G z.2.2) (hON : MON (s 598 21) G) {r : rcR} (hr : rcCl k nm z G = r) (hs9 : soO (k z.1) = 4) : ∃ s1 l1, mm_Ev mm_ct mm_CM (d + 13) 195 [.ref 598] (MX L t s l) (some (.int (iI r.1)), MX L t s1 l1) ∧ MCr f n k pl nm tn b s s1 l l1 r := by
  have hc : (mm_CM 195).2.2.2.2.2.2.2 = mm_cf cd_195 := by rw [cm_195]; rfl
  refine ev_xsl ?_
  refine ev_to (mx := 6) (by rw [cm_195]; decide) (by rw [cm_195]; rfl) (by show 1 ≤ _; decide) ?_
  show mm_wp _ _ (0, [some (.ref 598), none, none, none, none, none], [], MX L t s l) (fun res => ∃ s1 l1, res = (some (.int (iI r.1)), MX L t s1 l1) ∧ MCr f n k pl nm tn b s s1 l l1 r)
  obtain ⟨q9, hq9⟩ : ∃ q9, s 598 9 = q9 := ⟨_, rfl⟩
  obtain ⟨u9, hu9⟩ : ∃ u9, s 598 10 = u9 := ⟨_, rfl⟩
  obtain ⟨w9, hw9⟩ : ∃ w9, l 598 11 = w9 := ⟨_, rfl⟩
  have hk9 := MSt.tk h
  rw [hq9, hu9, hw9] at hk9
  have ha9 := tkR_a hk9
  unfold tkA at ha9
  have htn := hG.2.2.2.1
  have hz1 := h.2.1.1
  have hkr := hG.2.2.2.2.2.2 z.1
  have hk43 := GTX_43 hG
  have hG0 := hGm.2.1
  obtain ⟨x21, hx21⟩ : ∃ x, s 598 21 = x := ⟨_, rfl⟩
  rw [hx21] at hON
  have hON0 := hON
  unfold MON at hON
  have hb1 := bI_01 (0 ≤ rcHas G 1 0)
  have hb2 := bI_01 (0 ≤ rcHas G 2 0)
  have hb3 := bI_01 (0 ≤ rcHas G 3 0)
  refine wi_a1 hc rfl rfl ?_
  have hSo : mm_Ev mm_ct mm_CM (0 + 3) 187 [.ref 598] (MX L t s l) (some (.int (iI (soO (k z.1)))), MX L t s l) := sp_187 hk9 hq9 hw9
  rw [hs9] at hSo
  refine wp_cv (b := 598) (As := []) (r := []) hc rfl (by rw [cm_187]; rfl) rfl (Nat.le_of_ble_eq_true rfl) (show 598 < 621 by decide) (by rw [cm_187]; rfl) (ev_mono hSo (by omega)) ?_
  show mm_wp _ _ (4, [some (.ref 598), none, none, none, none, none], [.int (iI 4)], MX L t s l) _
  refine wi_is1 (L' := [some (.ref 598), some (.int (iI 4)), none, none, none, none]) hc rfl (Nat.le_of_ble_eq_true rfl) rfl ?_
  refine wi_i1 hc rfl rfl ?_
  refine wi_zge hc rfl ⟨by decide, by decide⟩ (fun _ => ?_) (fun q => absurd q (by decide))
  refine wi_i1 hc rfl rfl ?_
  refine wi_ic hc rfl ?_
  refine wi_ic hc rfl ?_
  have hIn : mm_Ev mm_ct mm_CM (0 + 1) 148 [.int (iI 4), .int (iI 1), .int (iI 3)] (MX L t s l) (some (.int (iI (bI ((1 : Int) ≤ 4 ∧ (4 : Int) ≤ 3)))), MX L t s l) := sp_148 ⟨by decide, by decide⟩ ⟨by decide, by decide⟩ ⟨by decide, by decide⟩
  rw [bI_f (p := (1 : Int) ≤ 4 ∧ (4 : Int) ≤ 3) (by decide)] at hIn
  refine wp_cs (As := [.int (iI 4), .int (iI 1), .int (iI 3)]) (r := []) hc rfl (by rw [cm_148]; rfl) rfl (Nat.le_of_ble_eq_true rfl) (ev_mono hIn (by omega)) ?_
  show mm_wp _ _ (17, [some (.ref 598), some (.int (iI 4)), none, none, none, none], [.int (iI 0)], MX L t s l) _
  refine wi_is1 (L' := [some (.ref 598), some (.int (iI 4)), some (.int (iI 0)), none, none, none]) hc rfl (Nat.le_of_ble_eq_true rfl) rfl ?_
  refine wi_i1 hc rfl rfl ?_
  refine wi_zeq hc rfl ⟨by decide, by decide⟩ (fun _ => ?_) (fun q => absurd q (by decide))
  refine wi_a1 hc rfl rfl ?_
  refine wi_gr (w := 601) hc rfl rfl (by decide) (Nat.le_of_ble_eq_true rfl) rfl ?_
  refine wi_a1 hc rfl rfl ?_
  refine wi_gfv (kz := 12) rfl hc rfl rfl (by decide) (Nat.le_of_ble_eq_true rfl) rfl (v := b) (MSt.rb h) ?_
  refine wi_ildv (N := 2820) hc rfl rfl (by decide) (by decide) (by omega) (by omega) (v := G 0) (hGm.1) ?_
  refine wi_is1 (L' := [some (.ref 598), some (.int (iI 4)), some (.int (iI 0)), some (.int (iI (G 0))), none, none]) hc rfl (Nat.le_of_ble_eq_true rfl) rfl ?_
  refine wi_i1 hc rfl rfl ?_
  refine wi_bi hc rfl rfl ?_
  refine wi_cne hc rfl ⟨by omega, by omega⟩ ⟨by decide, by decide⟩ (fun h3_ => ?_) (fun h3_ => ?_)
  · refine wi_i1 hc rfl rfl ?_
    refine wi_zeq hc rfl ⟨by decide, by decide⟩ (fun _ => ?_) (fun q => absurd q (by decide))
    refine wi_a1 hc rfl rfl ?_
    refine wi_i1 hc rfl rfl ?_
    refine wi_pf (kz := 20) rfl hc rfl rfl (by decide) (Nat.le_of_ble_eq_true rfl) rfl (Nat.le_of_ble_eq_true rfl) ⟨rfl, rfl⟩ rfl ?_
    obtain ⟨s1_, es1_⟩ : ∃ q, q = up s 598 20 4 := ⟨_, rfl⟩
    rw [← es1_]
    refine wi_a1 hc rfl rfl ?_
    have hMs1_ : MSt f n k pl nm tn b s1_ l z P 0 w := by rw [es1_]; exact h.s20 (by decide)
    have hFs1_ : MCf b s s1_ l l := (show MCf b s s l l from MCf.rf).tr (by rw [es1_]; exact MCf.u (by decide))
    have hnx9 := GTX_nx hG hz1.1 hz1.2 (by rcases soO_s (k z.1) with ⟨e, -⟩ | ⟨-, -, -, e⟩ <;> omega)
    obtain ⟨sx, lx, hEx, hMx, hFx⟩ := nx_166 (d := 0) (L := L) (t := t) (c := 0) hG hMs1_ hnx9
    refine wp_cv (b := 598) (As := []) (r := []) hc rfl (by rw [cm_166]; rfl) rfl (Nat.le_of_ble_eq_true rfl) (show 598 < 621 by decide) (by rw [cm_166]; rfl) (ev_mono hEx (by omega)) ?_
    have hCx : MCf b s sx l lx := hFs1_.tr ((hFx.fn9 (lo := b + 97) (by omega)).c (by omega))
    have h20 : sx 598 20 = 4 := by rw [hFx.2.1 20 (by decide) (by decide) (by decide), es1_, up_at]
    have h21 : sx 598 21 = x21 + 0 := by rw [hFx.2.1 21 (by decide) (by decide) (by decide), es1_, up_k (by decide), hx21]; omega
    have h601 : ∀ j, j < b + 97 → sx 601 j = s 601 j := fun j a => by rw [hFx.2.2.1 j (by omega), es1_, up_cc (by decide)]
    have hGx : MG b (sx 601) G := hGm.f rfl (fun j a => h601 j (by omega))
    show mm_wp _ _ (80, [some (.ref 598), some (.int (iI 4)), some (.int (iI 0)), some (.int (iI (G 0))), none, none], [], MX L t sx lx) _
    refine wi_a1 hc rfl rfl ?_
    refine wi_gfv (kz := 12) rfl hc rfl rfl (by decide) (Nat.le_of_ble_eq_true rfl) rfl (v := b) (MSt.rb hMx) ?_
    refine wi_ic hc rfl ?_
    refine wi_add hc rfl ?_
    refine wi_ic hc rfl ?_
    refine wi_i1 hc rfl rfl ?_
    refine wi_mul hc rfl ?_
    refine wi_add hc rfl ?_
    refine wi_is2 (L' := [some (.ref 598), some (.int (iI 4)), some (.int (iI 0)), some (.int (iI (G 0))), some (.int (iI ((b + 1) + (4 * (G 0))))), none]) hc rfl (Nat.le_of_ble_eq_true rfl) rfl ?_
    refine wi_a1 hc rfl rfl ?_
    refine wi_i1 hc rfl rfl ?_
    refine wi_i2 hc rfl rfl ?_
    obtain ⟨f1, y1, hy1⟩ : ∃ f y, rcBody k nm G 4 (rpNx z) = (f, y) := ⟨_, _, rfl⟩
    have hF1 : 0 ≤ f1 ∧ f1 ≤ 5 := rpF_Bo hy1
    obtain ⟨sy, ly, hEy, hRy, hNy⟩ := bd_194_4 (d := 0) (L := L) (t := t) hG hMx b0 ⟨by show 0 ≤ z.2.2; omega, by show z.2.2 ≤ z.1 + 1; omega⟩ (a9 := (b + 1) + (4 * (G 0))) ⟨by omega, by omega⟩ hGx (fun q q0 q1 => ⟨(hGb.2.2 q q0 q1).1.1, (hGb.2.2 q q0 q1).1.2, (hGb.2.2 q q0 q1).2.1⟩) hy1
    refine wp_cv (b := 598) (As := [.int (iI 4), .int (iI ((b + 1) + (4 * (G 0))))]) (r := []) hc rfl (by rw [cm_194]; rfl) rfl (Nat.le_of_ble_eq_true rfl) (show 598 < 621 by decide) (by rw [cm_194]; rfl) (ev_mono hEy (by omega)) ?_
    obtain ⟨yy, Q1, o1, w1, hx1, hx2, hx3, hx4⟩ := hRy
    show mm_wp _ _ (99, [some (.ref 598), some (.int (iI 4)), some (.int (iI 0)), some (.int (iI (G 0))), some (.int (iI ((b + 1) + (4 * (G 0))))), none], [.int (iI f1)], MX L t sy ly) _
    refine wi_is2 (L' := [some (.ref 598), some (.int (iI 4)), some (.int (iI 0)), some (.int (iI (G 0))), some (.int (iI ((b + 1) + (4 * (G 0))))), some (.int (iI f1))]) hc rfl (Nat.le_of_ble_eq_true rfl) rfl ?_
    refine wi_i2 hc rfl rfl ?_
    refine wi_zeq hc rfl ⟨by omega, by omega⟩ (fun h5_ => ?_) (fun h5_ => ?_)
    · have e9 : f1 = 0 := h5_
      subst e9
      obtain ⟨hx5, hx6⟩ := hx3 rfl
      rw [hx5, hx6] at hx2
      have hx2 : MSt f n k pl nm tn b sy ly y1 Q1 0 w1 := hx2
      have hNy := hNy rfl
      obtain ⟨q8, hq8⟩ : ∃ q, sy 598 9 = q := ⟨_, rfl⟩
      have hk8 := MSt.tk hx2
      rw [hq8] at hk8
      have ha8 := tkR_a hk8
      unfold tkA at ha8
      have hz8 := hx2.2.1.1
      have hkr8 := hG.2.2.2.2.2.2 y1.1
      refine wi_a1 hc rfl rfl ?_
      refine wi_gr (w := 601) hc rfl rfl (by decide) (Nat.le_of_ble_eq_true rfl) rfl ?_
      refine wi_i2 hc rfl rfl ?_
      refine wi_i1 hc rfl rfl ?_
      refine wi_ist (N := 2820) hc rfl rfl (by decide) (by decide) (by omega) (by omega) ?_
      obtain ⟨s2_, es2_⟩ : ∃ q, q = up sy 601 ((b + 1) + (4 * (G 0))) 4 := ⟨_, rfl⟩
      rw [← es2_]
      refine wi_a1 hc rfl rfl ?_
      refine wi_gr (w := 601) hc rfl rfl (by decide) (Nat.le_of_ble_eq_true rfl) rfl ?_
      refine wi_a1 hc rfl rfl ?_
      refine wi_gfv (kz := 12) rfl hc rfl rfl (by decide) (Nat.le_of_ble_eq_true rfl) rfl (v := b) (((congrFun (congrFun es2_ _) _).trans (up_c (by decide))).trans (MSt.rb hx2)) ?_
      refine wi_dup2 hc rfl ?_
      refine wi_ildv (N := 2820) hc rfl rfl (by decide) (by decide) (by omega) (by omega) (v := G 0) (((congrFun (congrFun es2_ _) _).trans (up_k (by omega))).trans ((hx4.2.2.1 b (by omega)).trans hGx.1)) ?_
      refine wi_ic hc rfl ?_
      refine wi_add hc rfl ?_
      refine wi_ist (N := 2820) hc rfl rfl (by decide) (by decide) (by omega) (by omega) ?_
      obtain ⟨s3_, es3_⟩ : ∃ q, q = up s2_ 601 b ((G 0) + 1) := ⟨_, rfl⟩
      rw [← es3_]
      have hMc : MSt f n k pl nm tn b s3_ ly y1 Q1 0 w1 := by rw [es3_]; exact MSt.nw (by rw [es2_]; exact hx2.nw (by omega)) (by omega)
      have hCc : MCf b s s3_ l ly := (hCx.tr (hx4.c (by omega))).tr ((show MCf b sy s2_ ly ly by rw [es2_]; exact MCf.w9 (by omega)).tr (by rw [es3_]; exact MCf.w9 (Int.le_refl _)))
      have hT9 : ∀ j, s3_ 601 j = if j = b then G 0 + 1 else if j = (b + 1) + (4 * (G 0)) then 4 else sy 601 j := fun j => by rw [es3_, up_ite, es2_, up_ite]
      have h21c : s3_ 598 21 = x21 + 0 := by rw [es3_, up_cc (by decide), es2_, up_cc (by decide), hx4.2.1 21 (by decide) (by decide) (by decide)]; exact h21
      refine wi_a1 hc rfl rfl ?_
      refine wi_gfv (kz := 9) rfl hc rfl rfl (by decide) (Nat.le_of_ble_eq_true rfl) rfl (v := q8) ((by rw [es3_, up_cc (by decide), es2_, up_cc (by decide)]; exact hq8 : s3_ 598 9 = q8)) ?_
      refine wi_bi hc rfl rfl ?_
      refine wi_ceq hc rfl ⟨by omega, by omega⟩ ⟨by decide, by decide⟩ (fun h6_ => ?_) (fun h6_ => ?_)
      · refine wi_a1 hc rfl rfl ?_
        have hnx8 := GTX_nx hG hz8.1 hz8.2 (by omega)
        obtain ⟨sz, lz, hEz, hMz, hFz⟩ := nx_166 (d := 0) (L := L) (t := t) (c := 0) hG hMc hnx8
        refine wp_cv (b := 598) (As := []) (r := []) hc rfl (by rw [cm_166]; rfl) rfl (Nat.le_of_ble_eq_true rfl) (show 598 < 621 by decide) (by rw [cm_166]; rfl) (ev_mono hEz (by omega)) ?_
        have hCz : MCf b s sz l lz := hCc.tr ((hFz.fn9 (lo := b + 97) (by omega)).c (by omega))
        show mm_wp _ _ (145, [some (.ref 598), some (.int (iI 4)), some (.int (iI 0)), some (.int (iI (G 0))), some (.int (iI ((b + 1) + (4 * (G 0))))), some (.int (iI 0))], [], MX L t sz lz) _
        refine wi_ic hc rfl ?_
        refine wi_ri hc rfl (by rw [cm_195]; rfl) ?_
        have hR9 : rpB (rpB (rcNum k nm G 4 (rpNx z)) (rcMore k nm 4)) (rcWd k 39) = (0, rpNx y1) := by
          rw [← rcBody_s (by decide), hy1]
          rw [rpB_z, rcWd, if_pos (by omega)]
        have hr9 := rcCl_go hs9 (by decide) (fun e => absurd e.1 (by decide)) (by omega) hR9
        rw [hr] at hr9
        subst hr9
        have hT8 : ∀ j, j < b + 97 → sz 601 j = if j = b then G 0 + 1 else if j = (b + 1) + (4 * (G 0)) then 4 else sy 601 j := fun j a => by rw [hFz.2.2.1 j (by omega), hT9]
        refine ⟨sz, lz, rfl, rpNx y1, Q1, 0, w1, rfl, hMz, fun _ => ⟨rfl, rfl, ?_, ?_⟩, hCz⟩
        · refine hGm.add (so := 4) (z := rpNx z) (y := rpNx y1) (by omega) ⟨by decide, by decide⟩ (fun j j0 j1 => ?_) (by rw [hT8 b (by omega), if_pos rfl]) (by rw [hT8 _ (by omega), if_neg (by omega), if_pos rfl]) ?_
          · rw [hT8 j (by omega), if_neg j0, if_neg (by omega), hx4.2.2.1 j (by omega), h601 j (by omega)]
          · obtain ⟨n1, n2, n3⟩ := hNy
            refine ⟨fun e => ?_, fun e => ?_, fun e => ?_⟩
            · rw [hT8 _ (by omega), if_neg (by omega), if_neg (by omega)]; exact n1 e
            · rw [hT8 _ (by omega), if_neg (by omega), if_neg (by omega)]; exact n2 e
            · rw [hT8 _ (by omega), if_neg (by omega), if_neg (by omega)]; exact n3 e
        · refine hON0.add hG0.1 (fun e => absurd e (by decide)) ?_
          rw [hFz.2.1 21 (by decide) (by decide) (by decide), h21c]
          rfl
      · refine wi_ic hc rfl ?_
        refine wi_ri hc rfl (by rw [cm_195]; rfl) ?_
        have hR9 : rpB (rpB (rcNum k nm G 4 (rpNx z)) (rcMore k nm 4)) (rcWd k 39) = (1, y1) := by
          rw [← rcBody_s (by decide), hy1]
          rw [rpB_z, rcWd, if_neg (by omega)]
        have hr9 := rcCl_go hs9 (by decide) (fun e => absurd e.1 (by decide)) (by omega) hR9
        rw [hr] at hr9
        subst hr9
        exact ⟨s3_, ly, rfl, y1, Q1, 0, w1, rfl, hMc, fun e => absurd (show (1 : Int) = 0 from e) (by decide), hCc⟩
    · skip
      refine wi_i2 hc rfl rfl ?_
      refine wi_ri hc rfl (by rw [cm_195]; rfl) ?_
      have hR9 : rpB (rpB (rcNum k nm G 4 (rpNx z)) (rcMore k nm 4)) (rcWd k 39) = (f1, y1) := by
        rw [← rcBody_s (by decide), hy1]
        exact rpB_n (r := (f1, y1)) h5_
      have hr9 := rcCl_go hs9 (by decide) (fun e => absurd e.1 (by decide)) (by omega) hR9
      rw [hr] at hr9
      subst hr9
      exact ⟨sy, ly, rfl, yy, Q1, o1, w1, hx1, hx2, fun e => absurd e h5_, hCx.tr (hx4.c (by omega))⟩
  · refine wi_bi hc rfl rfl ?_
    refine wi_ri hc rfl (by rw [cm_195]; rfl) ?_
    have hr9 : r = (6, z, G) := by rw [← hr, rcCl_6 hs9 (by decide) (fun e => absurd e.1 (by decide)) (by omega)]
    subst hr9
    exact ⟨s, l, rfl, z, P, 0, w, rfl, h, fun e => absurd (show (6 : Int) = 0 from e) (by decide), MCf.rf⟩
theorem mc_195_5 {d L t : Nat} {s l : Nat → Int → Int} {f : Int → Int} {n : Int} {kd k pl nm : Int → Int} {tn b : Int} {z : rpS} {P : List Int} {w : Int} (hG : GTX f n kd k pl nm tn) (h : MSt f n k pl nm tn b s l z P 0 w) (b0 : 0 ≤ b ∧ b ≤ 2115) (hI : 0 ≤ z.2.2 ∧ z.2.2 ≤ z.1) {G : Int → Int} (hGm : MG b (s 601) G) (hGb : GTb G z.2.2) (hON : MON (s 598 21) G) {r : rcR} (hr : rcCl k nm z G = r) (hs9 : soO (k z.1) = 5) : ∃ s1 l1, mm_Ev mm_ct mm_CM (d + 13) 195 [.ref 598] (MX L t s l) (some (.int (iI r.1)), MX L t s1 l1) ∧ MCr f n k pl nm tn b s s1 l l1 r := by
  have hc : (mm_CM 195).2.2.2.2.2.2.2 = mm_cf cd_195 := by rw [cm_195]; rfl
  refine ev_xsl ?_
  refine ev_to (mx := 6) (by rw [cm_195]; decide) (by rw [cm_195]; rfl) (by show 1 ≤ _; decide) ?_
  show mm_wp _ _ (0, [some (.ref 598), none, none, none, none, none], [], MX L t s l) (fun res => ∃ s1 l1, res = (some (.int (iI r.1)), MX L t s1 l1) ∧ MCr f n k pl nm tn b s s1 l l1 r)
  obtain ⟨q9, hq9⟩ : ∃ q9, s 598 9 = q9 := ⟨_, rfl⟩
  obtain ⟨u9, hu9⟩ : ∃ u9, s 598 10 = u9 := ⟨_, rfl⟩
  obtain ⟨w9, hw9⟩ : ∃ w9, l 598 11 = w9 := ⟨_, rfl⟩
  have hk9 := MSt.tk h
  rw [hq9, hu9, hw9] at hk9
  have ha9 := tkR_a hk9
  unfold tkA at ha9
  have htn := hG.2.2.2.1
  have hz1 := h.2.1.1
  have hkr := hG.2.2.2.2.2.2 z.1
  have hk43 := GTX_43 hG
  have hG0 := hGm.2.1
  obtain ⟨x21, hx21⟩ : ∃ x, s 598 21 = x := ⟨_, rfl⟩
  rw [hx21] at hON
  have hON0 := hON
  unfold MON at hON
  have hb1 := bI_01 (0 ≤ rcHas G 1 0)
  have hb2 := bI_01 (0 ≤ rcHas G 2 0)
  have hb3 := bI_01 (0 ≤ rcHas G 3 0)
  refine wi_a1 hc rfl rfl ?_
  have hSo : mm_Ev mm_ct mm_CM (0 + 3) 187 [.ref 598] (MX L t s l) (some (.int (iI (soO (k z.1)))), MX L t s l) := sp_187 hk9 hq9 hw9
  rw [hs9] at hSo
  refine wp_cv (b := 598) (As := []) (r := []) hc rfl (by rw [cm_187]; rfl) rfl (Nat.le_of_ble_eq_true rfl) (show 598 < 621 by decide) (by rw [cm_187]; rfl) (ev_mono hSo (by omega)) ?_
  show mm_wp _ _ (4, [some (.ref 598), none, none, none, none, none], [.int (iI 5)], MX L t s l) _
  refine wi_is1 (L' := [some (.ref 598), some (.int (iI 5)), none, none, none, none]) hc rfl (Nat.le_of_ble_eq_true rfl) rfl ?_
  refine wi_i1 hc rfl rfl ?_
  refine wi_zge hc rfl ⟨by decide, by decide⟩ (fun _ => ?_) (fun q => absurd q (by decide))
  refine wi_i1 hc rfl rfl ?_
  refine wi_ic hc rfl ?_
  refine wi_ic hc rfl ?_
  have hIn : mm_Ev mm_ct mm_CM (0 + 1) 148 [.int (iI 5), .int (iI 1), .int (iI 3)] (MX L t s l) (some (.int (iI (bI ((1 : Int) ≤ 5 ∧ (5 : Int) ≤ 3)))), MX L t s l) := sp_148 ⟨by decide, by decide⟩ ⟨by decide, by decide⟩ ⟨by decide, by decide⟩
  rw [bI_f (p := (1 : Int) ≤ 5 ∧ (5 : Int) ≤ 3) (by decide)] at hIn
  refine wp_cs (As := [.int (iI 5), .int (iI 1), .int (iI 3)]) (r := []) hc rfl (by rw [cm_148]; rfl) rfl (Nat.le_of_ble_eq_true rfl) (ev_mono hIn (by omega)) ?_
  show mm_wp _ _ (17, [some (.ref 598), some (.int (iI 5)), none, none, none, none], [.int (iI 0)], MX L t s l) _
  refine wi_is1 (L' := [some (.ref 598), some (.int (iI 5)), some (.int (iI 0)), none, none, none]) hc rfl (Nat.le_of_ble_eq_true rfl) rfl ?_
  refine wi_i1 hc rfl rfl ?_
  refine wi_zeq hc rfl ⟨by decide, by decide⟩ (fun _ => ?_) (fun q => absurd q (by decide))
  refine wi_a1 hc rfl rfl ?_
  refine wi_gr (w := 601) hc rfl rfl (by decide) (Nat.le_of_ble_eq_true rfl) rfl ?_
  refine wi_a1 hc rfl rfl ?_
  refine wi_gfv (kz := 12) rfl hc rfl rfl (by decide) (Nat.le_of_ble_eq_true rfl) rfl (v := b) (MSt.rb h) ?_
  refine wi_ildv (N := 2820) hc rfl rfl (by decide) (by decide) (by omega) (by omega) (v := G 0) (hGm.1) ?_
  refine wi_is1 (L' := [some (.ref 598), some (.int (iI 5)), some (.int (iI 0)), some (.int (iI (G 0))), none, none]) hc rfl (Nat.le_of_ble_eq_true rfl) rfl ?_
  refine wi_i1 hc rfl rfl ?_
  refine wi_bi hc rfl rfl ?_
  refine wi_cne hc rfl ⟨by omega, by omega⟩ ⟨by decide, by decide⟩ (fun h3_ => ?_) (fun h3_ => ?_)
  · refine wi_i1 hc rfl rfl ?_
    refine wi_zeq hc rfl ⟨by decide, by decide⟩ (fun _ => ?_) (fun q => absurd q (by decide))
    refine wi_a1 hc rfl rfl ?_
    refine wi_i1 hc rfl rfl ?_
    refine wi_pf (kz := 20) rfl hc rfl rfl (by decide) (Nat.le_of_ble_eq_true rfl) rfl (Nat.le_of_ble_eq_true rfl) ⟨rfl, rfl⟩ rfl ?_
    obtain ⟨s1_, es1_⟩ : ∃ q, q = up s 598 20 5 := ⟨_, rfl⟩
    rw [← es1_]
    refine wi_a1 hc rfl rfl ?_
    have hMs1_ : MSt f n k pl nm tn b s1_ l z P 0 w := by rw [es1_]; exact h.s20 (by decide)
    have hFs1_ : MCf b s s1_ l l := (show MCf b s s l l from MCf.rf).tr (by rw [es1_]; exact MCf.u (by decide))
    have hnx9 := GTX_nx hG hz1.1 hz1.2 (by rcases soO_s (k z.1) with ⟨e, -⟩ | ⟨-, -, -, e⟩ <;> omega)
    obtain ⟨sx, lx, hEx, hMx, hFx⟩ := nx_166 (d := 0) (L := L) (t := t) (c := 0) hG hMs1_ hnx9
    refine wp_cv (b := 598) (As := []) (r := []) hc rfl (by rw [cm_166]; rfl) rfl (Nat.le_of_ble_eq_true rfl) (show 598 < 621 by decide) (by rw [cm_166]; rfl) (ev_mono hEx (by omega)) ?_
    have hCx : MCf b s sx l lx := hFs1_.tr ((hFx.fn9 (lo := b + 97) (by omega)).c (by omega))
    have h20 : sx 598 20 = 5 := by rw [hFx.2.1 20 (by decide) (by decide) (by decide), es1_, up_at]
    have h21 : sx 598 21 = x21 + 0 := by rw [hFx.2.1 21 (by decide) (by decide) (by decide), es1_, up_k (by decide), hx21]; omega
    have h601 : ∀ j, j < b + 97 → sx 601 j = s 601 j := fun j a => by rw [hFx.2.2.1 j (by omega), es1_, up_cc (by decide)]
    have hGx : MG b (sx 601) G := hGm.f rfl (fun j a => h601 j (by omega))
    show mm_wp _ _ (80, [some (.ref 598), some (.int (iI 5)), some (.int (iI 0)), some (.int (iI (G 0))), none, none], [], MX L t sx lx) _
    refine wi_a1 hc rfl rfl ?_
    refine wi_gfv (kz := 12) rfl hc rfl rfl (by decide) (Nat.le_of_ble_eq_true rfl) rfl (v := b) (MSt.rb hMx) ?_
    refine wi_ic hc rfl ?_
    refine wi_add hc rfl ?_
    refine wi_ic hc rfl ?_
    refine wi_i1 hc rfl rfl ?_
    refine wi_mul hc rfl ?_
    refine wi_add hc rfl ?_
    refine wi_is2 (L' := [some (.ref 598), some (.int (iI 5)), some (.int (iI 0)), some (.int (iI (G 0))), some (.int (iI ((b + 1) + (4 * (G 0))))), none]) hc rfl (Nat.le_of_ble_eq_true rfl) rfl ?_
    refine wi_a1 hc rfl rfl ?_
    refine wi_i1 hc rfl rfl ?_
    refine wi_i2 hc rfl rfl ?_
    obtain ⟨f1, y1, hy1⟩ : ∃ f y, rcBody k nm G 5 (rpNx z) = (f, y) := ⟨_, _, rfl⟩
    have hF1 : 0 ≤ f1 ∧ f1 ≤ 5 := rpF_Bo hy1
    obtain ⟨sy, ly, hEy, hRy, hNy⟩ := bd_194_5 (d := 0) (L := L) (t := t) hG hMx b0 ⟨by show 0 ≤ z.2.2; omega, by show z.2.2 ≤ z.1 + 1; omega⟩ (a9 := (b + 1) + (4 * (G 0))) ⟨by omega, by omega⟩ hGx (fun q q0 q1 => ⟨(hGb.2.2 q q0 q1).1.1, (hGb.2.2 q q0 q1).1.2, (hGb.2.2 q q0 q1).2.1⟩) hy1
    refine wp_cv (b := 598) (As := [.int (iI 5), .int (iI ((b + 1) + (4 * (G 0))))]) (r := []) hc rfl (by rw [cm_194]; rfl) rfl (Nat.le_of_ble_eq_true rfl) (show 598 < 621 by decide) (by rw [cm_194]; rfl) (ev_mono hEy (by omega)) ?_
    obtain ⟨yy, Q1, o1, w1, hx1, hx2, hx3, hx4⟩ := hRy
    show mm_wp _ _ (99, [some (.ref 598), some (.int (iI 5)), some (.int (iI 0)), some (.int (iI (G 0))), some (.int (iI ((b + 1) + (4 * (G 0))))), none], [.int (iI f1)], MX L t sy ly) _
    refine wi_is2 (L' := [some (.ref 598), some (.int (iI 5)), some (.int (iI 0)), some (.int (iI (G 0))), some (.int (iI ((b + 1) + (4 * (G 0))))), some (.int (iI f1))]) hc rfl (Nat.le_of_ble_eq_true rfl) rfl ?_
    refine wi_i2 hc rfl rfl ?_
    refine wi_zeq hc rfl ⟨by omega, by omega⟩ (fun h5_ => ?_) (fun h5_ => ?_)
    · have e9 : f1 = 0 := h5_
      subst e9
      obtain ⟨hx5, hx6⟩ := hx3 rfl
      rw [hx5, hx6] at hx2
      have hx2 : MSt f n k pl nm tn b sy ly y1 Q1 0 w1 := hx2
      have hNy := hNy rfl
      obtain ⟨q8, hq8⟩ : ∃ q, sy 598 9 = q := ⟨_, rfl⟩
      have hk8 := MSt.tk hx2
      rw [hq8] at hk8
      have ha8 := tkR_a hk8
      unfold tkA at ha8
      have hz8 := hx2.2.1.1
      have hkr8 := hG.2.2.2.2.2.2 y1.1
      refine wi_a1 hc rfl rfl ?_
      refine wi_gr (w := 601) hc rfl rfl (by decide) (Nat.le_of_ble_eq_true rfl) rfl ?_
      refine wi_i2 hc rfl rfl ?_
      refine wi_i1 hc rfl rfl ?_
      refine wi_ist (N := 2820) hc rfl rfl (by decide) (by decide) (by omega) (by omega) ?_
      obtain ⟨s2_, es2_⟩ : ∃ q, q = up sy 601 ((b + 1) + (4 * (G 0))) 5 := ⟨_, rfl⟩
      rw [← es2_]
      refine wi_a1 hc rfl rfl ?_
      refine wi_gr (w := 601) hc rfl rfl (by decide) (Nat.le_of_ble_eq_true rfl) rfl ?_
      refine wi_a1 hc rfl rfl ?_
      refine wi_gfv (kz := 12) rfl hc rfl rfl (by decide) (Nat.le_of_ble_eq_true rfl) rfl (v := b) (((congrFun (congrFun es2_ _) _).trans (up_c (by decide))).trans (MSt.rb hx2)) ?_
      refine wi_dup2 hc rfl ?_
      refine wi_ildv (N := 2820) hc rfl rfl (by decide) (by decide) (by omega) (by omega) (v := G 0) (((congrFun (congrFun es2_ _) _).trans (up_k (by omega))).trans ((hx4.2.2.1 b (by omega)).trans hGx.1)) ?_
      refine wi_ic hc rfl ?_
      refine wi_add hc rfl ?_
      refine wi_ist (N := 2820) hc rfl rfl (by decide) (by decide) (by omega) (by omega) ?_
      obtain ⟨s3_, es3_⟩ : ∃ q, q = up s2_ 601 b ((G 0) + 1) := ⟨_, rfl⟩
      rw [← es3_]
      have hMc : MSt f n k pl nm tn b s3_ ly y1 Q1 0 w1 := by rw [es3_]; exact MSt.nw (by rw [es2_]; exact hx2.nw (by omega)) (by omega)
      have hCc : MCf b s s3_ l ly := (hCx.tr (hx4.c (by omega))).tr ((show MCf b sy s2_ ly ly by rw [es2_]; exact MCf.w9 (by omega)).tr (by rw [es3_]; exact MCf.w9 (Int.le_refl _)))
      have hT9 : ∀ j, s3_ 601 j = if j = b then G 0 + 1 else if j = (b + 1) + (4 * (G 0)) then 5 else sy 601 j := fun j => by rw [es3_, up_ite, es2_, up_ite]
      have h21c : s3_ 598 21 = x21 + 0 := by rw [es3_, up_cc (by decide), es2_, up_cc (by decide), hx4.2.1 21 (by decide) (by decide) (by decide)]; exact h21
      refine wi_a1 hc rfl rfl ?_
      refine wi_gfv (kz := 9) rfl hc rfl rfl (by decide) (Nat.le_of_ble_eq_true rfl) rfl (v := q8) ((by rw [es3_, up_cc (by decide), es2_, up_cc (by decide)]; exact hq8 : s3_ 598 9 = q8)) ?_
      refine wi_bi hc rfl rfl ?_
      refine wi_ceq hc rfl ⟨by omega, by omega⟩ ⟨by decide, by decide⟩ (fun h6_ => ?_) (fun h6_ => ?_)
      · refine wi_a1 hc rfl rfl ?_
        have hnx8 := GTX_nx hG hz8.1 hz8.2 (by omega)
        obtain ⟨sz, lz, hEz, hMz, hFz⟩ := nx_166 (d := 0) (L := L) (t := t) (c := 0) hG hMc hnx8
        refine wp_cv (b := 598) (As := []) (r := []) hc rfl (by rw [cm_166]; rfl) rfl (Nat.le_of_ble_eq_true rfl) (show 598 < 621 by decide) (by rw [cm_166]; rfl) (ev_mono hEz (by omega)) ?_
        have hCz : MCf b s sz l lz := hCc.tr ((hFz.fn9 (lo := b + 97) (by omega)).c (by omega))
        show mm_wp _ _ (145, [some (.ref 598), some (.int (iI 5)), some (.int (iI 0)), some (.int (iI (G 0))), some (.int (iI ((b + 1) + (4 * (G 0))))), some (.int (iI 0))], [], MX L t sz lz) _
        refine wi_ic hc rfl ?_
        refine wi_ri hc rfl (by rw [cm_195]; rfl) ?_
        have hR9 : rpB (rpB (rcNum k nm G 5 (rpNx z)) (rcMore k nm 5)) (rcWd k 39) = (0, rpNx y1) := by
          rw [← rcBody_s (by decide), hy1]
          rw [rpB_z, rcWd, if_pos (by omega)]
        have hr9 := rcCl_go hs9 (by decide) (fun e => absurd e.1 (by decide)) (by omega) hR9
        rw [hr] at hr9
        subst hr9
        have hT8 : ∀ j, j < b + 97 → sz 601 j = if j = b then G 0 + 1 else if j = (b + 1) + (4 * (G 0)) then 5 else sy 601 j := fun j a => by rw [hFz.2.2.1 j (by omega), hT9]
        refine ⟨sz, lz, rfl, rpNx y1, Q1, 0, w1, rfl, hMz, fun _ => ⟨rfl, rfl, ?_, ?_⟩, hCz⟩
        · refine hGm.add (so := 5) (z := rpNx z) (y := rpNx y1) (by omega) ⟨by decide, by decide⟩ (fun j j0 j1 => ?_) (by rw [hT8 b (by omega), if_pos rfl]) (by rw [hT8 _ (by omega), if_neg (by omega), if_pos rfl]) ?_
          · rw [hT8 j (by omega), if_neg j0, if_neg (by omega), hx4.2.2.1 j (by omega), h601 j (by omega)]
          · obtain ⟨n1, n2, n3⟩ := hNy
            refine ⟨fun e => ?_, fun e => ?_, fun e => ?_⟩
            · rw [hT8 _ (by omega), if_neg (by omega), if_neg (by omega)]; exact n1 e
            · rw [hT8 _ (by omega), if_neg (by omega), if_neg (by omega)]; exact n2 e
            · rw [hT8 _ (by omega), if_neg (by omega), if_neg (by omega)]; exact n3 e
        · refine hON0.add hG0.1 (fun e => absurd e (by decide)) ?_
          rw [hFz.2.1 21 (by decide) (by decide) (by decide), h21c]
          rfl
      · refine wi_ic hc rfl ?_
        refine wi_ri hc rfl (by rw [cm_195]; rfl) ?_
        have hR9 : rpB (rpB (rcNum k nm G 5 (rpNx z)) (rcMore k nm 5)) (rcWd k 39) = (1, y1) := by
          rw [← rcBody_s (by decide), hy1]
          rw [rpB_z, rcWd, if_neg (by omega)]
        have hr9 := rcCl_go hs9 (by decide) (fun e => absurd e.1 (by decide)) (by omega) hR9
        rw [hr] at hr9
        subst hr9
        exact ⟨s3_, ly, rfl, y1, Q1, 0, w1, rfl, hMc, fun e => absurd (show (1 : Int) = 0 from e) (by decide), hCc⟩
    · skip
      refine wi_i2 hc rfl rfl ?_
      refine wi_ri hc rfl (by rw [cm_195]; rfl) ?_
      have hR9 : rpB (rpB (rcNum k nm G 5 (rpNx z)) (rcMore k nm 5)) (rcWd k 39) = (f1, y1) := by
        rw [← rcBody_s (by decide), hy1]
        exact rpB_n (r := (f1, y1)) h5_
      have hr9 := rcCl_go hs9 (by decide) (fun e => absurd e.1 (by decide)) (by omega) hR9
      rw [hr] at hr9
      subst hr9
      exact ⟨sy, ly, rfl, yy, Q1, o1, w1, hx1, hx2, fun e => absurd e h5_, hCx.tr (hx4.c (by omega))⟩
  · refine wi_bi hc rfl rfl ?_
    refine wi_ri hc rfl (by rw [cm_195]; rfl) ?_
    have hr9 : r = (6, z, G) := by rw [← hr, rcCl_6 hs9 (by decide) (fun e => absurd e.1 (by decide)) (by omega)]
    subst hr9
    exact ⟨s, l, rfl, z, P, 0, w, rfl, h, fun e => absurd (show (6 : Int) = 0 from e) (by decide), MCf.rf⟩
theorem mc_195_6 {d L t : Nat} {s l : Nat → Int → Int} {f : Int → Int} {n : Int} {kd k pl nm : Int → Int} {tn b : Int} {z : rpS} {P : List Int} {w : Int} (hG : GTX f n kd k pl nm tn) (h : MSt f n k pl nm tn b s l z P 0 w) (b0 : 0 ≤ b ∧ b ≤ 2115) (hI : 0 ≤ z.2.2 ∧ z.2.2 ≤ z.1) {G : Int → Int} (hGm : MG b (s 601) G) (hGb : GTb G z.2.2) (hON : MON (s 598 21) G) {r : rcR} (hr : rcCl k nm z G = r) (hs9 : soO (k z.1) = 6) : ∃ s1 l1, mm_Ev mm_ct mm_CM (d + 13) 195 [.ref 598] (MX L t s l) (some (.int (iI r.1)), MX L t s1 l1) ∧ MCr f n k pl nm tn b s s1 l l1 r := by
  have hc : (mm_CM 195).2.2.2.2.2.2.2 = mm_cf cd_195 := by rw [cm_195]; rfl
  refine ev_xsl ?_
  refine ev_to (mx := 6) (by rw [cm_195]; decide) (by rw [cm_195]; rfl) (by show 1 ≤ _; decide) ?_
  show mm_wp _ _ (0, [some (.ref 598), none, none, none, none, none], [], MX L t s l) (fun res => ∃ s1 l1, res = (some (.int (iI r.1)), MX L t s1 l1) ∧ MCr f n k pl nm tn b s s1 l l1 r)
  obtain ⟨q9, hq9⟩ : ∃ q9, s 598 9 = q9 := ⟨_, rfl⟩
  obtain ⟨u9, hu9⟩ : ∃ u9, s 598 10 = u9 := ⟨_, rfl⟩
  obtain ⟨w9, hw9⟩ : ∃ w9, l 598 11 = w9 := ⟨_, rfl⟩
  have hk9 := MSt.tk h
  rw [hq9, hu9, hw9] at hk9
  have ha9 := tkR_a hk9
  unfold tkA at ha9
  have htn := hG.2.2.2.1
  have hz1 := h.2.1.1
  have hkr := hG.2.2.2.2.2.2 z.1
  have hk43 := GTX_43 hG
  have hG0 := hGm.2.1
  obtain ⟨x21, hx21⟩ : ∃ x, s 598 21 = x := ⟨_, rfl⟩
  rw [hx21] at hON
  have hON0 := hON
  unfold MON at hON
  have hb1 := bI_01 (0 ≤ rcHas G 1 0)
  have hb2 := bI_01 (0 ≤ rcHas G 2 0)
  have hb3 := bI_01 (0 ≤ rcHas G 3 0)
  refine wi_a1 hc rfl rfl ?_
  have hSo : mm_Ev mm_ct mm_CM (0 + 3) 187 [.ref 598] (MX L t s l) (some (.int (iI (soO (k z.1)))), MX L t s l) := sp_187 hk9 hq9 hw9
  rw [hs9] at hSo
  refine wp_cv (b := 598) (As := []) (r := []) hc rfl (by rw [cm_187]; rfl) rfl (Nat.le_of_ble_eq_true rfl) (show 598 < 621 by decide) (by rw [cm_187]; rfl) (ev_mono hSo (by omega)) ?_
  show mm_wp _ _ (4, [some (.ref 598), none, none, none, none, none], [.int (iI 6)], MX L t s l) _
  refine wi_is1 (L' := [some (.ref 598), some (.int (iI 6)), none, none, none, none]) hc rfl (Nat.le_of_ble_eq_true rfl) rfl ?_
  refine wi_i1 hc rfl rfl ?_
  refine wi_zge hc rfl ⟨by decide, by decide⟩ (fun _ => ?_) (fun q => absurd q (by decide))
  refine wi_i1 hc rfl rfl ?_
  refine wi_ic hc rfl ?_
  refine wi_ic hc rfl ?_
  have hIn : mm_Ev mm_ct mm_CM (0 + 1) 148 [.int (iI 6), .int (iI 1), .int (iI 3)] (MX L t s l) (some (.int (iI (bI ((1 : Int) ≤ 6 ∧ (6 : Int) ≤ 3)))), MX L t s l) := sp_148 ⟨by decide, by decide⟩ ⟨by decide, by decide⟩ ⟨by decide, by decide⟩
  rw [bI_f (p := (1 : Int) ≤ 6 ∧ (6 : Int) ≤ 3) (by decide)] at hIn
  refine wp_cs (As := [.int (iI 6), .int (iI 1), .int (iI 3)]) (r := []) hc rfl (by rw [cm_148]; rfl) rfl (Nat.le_of_ble_eq_true rfl) (ev_mono hIn (by omega)) ?_
  show mm_wp _ _ (17, [some (.ref 598), some (.int (iI 6)), none, none, none, none], [.int (iI 0)], MX L t s l) _
  refine wi_is1 (L' := [some (.ref 598), some (.int (iI 6)), some (.int (iI 0)), none, none, none]) hc rfl (Nat.le_of_ble_eq_true rfl) rfl ?_
  refine wi_i1 hc rfl rfl ?_
  refine wi_zeq hc rfl ⟨by decide, by decide⟩ (fun _ => ?_) (fun q => absurd q (by decide))
  refine wi_a1 hc rfl rfl ?_
  refine wi_gr (w := 601) hc rfl rfl (by decide) (Nat.le_of_ble_eq_true rfl) rfl ?_
  refine wi_a1 hc rfl rfl ?_
  refine wi_gfv (kz := 12) rfl hc rfl rfl (by decide) (Nat.le_of_ble_eq_true rfl) rfl (v := b) (MSt.rb h) ?_
  refine wi_ildv (N := 2820) hc rfl rfl (by decide) (by decide) (by omega) (by omega) (v := G 0) (hGm.1) ?_
  refine wi_is1 (L' := [some (.ref 598), some (.int (iI 6)), some (.int (iI 0)), some (.int (iI (G 0))), none, none]) hc rfl (Nat.le_of_ble_eq_true rfl) rfl ?_
  refine wi_i1 hc rfl rfl ?_
  refine wi_bi hc rfl rfl ?_
  refine wi_cne hc rfl ⟨by omega, by omega⟩ ⟨by decide, by decide⟩ (fun h3_ => ?_) (fun h3_ => ?_)
  · refine wi_i1 hc rfl rfl ?_
    refine wi_zeq hc rfl ⟨by decide, by decide⟩ (fun _ => ?_) (fun q => absurd q (by decide))
    refine wi_a1 hc rfl rfl ?_
    refine wi_i1 hc rfl rfl ?_
    refine wi_pf (kz := 20) rfl hc rfl rfl (by decide) (Nat.le_of_ble_eq_true rfl) rfl (Nat.le_of_ble_eq_true rfl) ⟨rfl, rfl⟩ rfl ?_
    obtain ⟨s1_, es1_⟩ : ∃ q, q = up s 598 20 6 := ⟨_, rfl⟩
    rw [← es1_]
    refine wi_a1 hc rfl rfl ?_
    have hMs1_ : MSt f n k pl nm tn b s1_ l z P 0 w := by rw [es1_]; exact h.s20 (by decide)
    have hFs1_ : MCf b s s1_ l l := (show MCf b s s l l from MCf.rf).tr (by rw [es1_]; exact MCf.u (by decide))
    have hnx9 := GTX_nx hG hz1.1 hz1.2 (by rcases soO_s (k z.1) with ⟨e, -⟩ | ⟨-, -, -, e⟩ <;> omega)
    obtain ⟨sx, lx, hEx, hMx, hFx⟩ := nx_166 (d := 0) (L := L) (t := t) (c := 0) hG hMs1_ hnx9
    refine wp_cv (b := 598) (As := []) (r := []) hc rfl (by rw [cm_166]; rfl) rfl (Nat.le_of_ble_eq_true rfl) (show 598 < 621 by decide) (by rw [cm_166]; rfl) (ev_mono hEx (by omega)) ?_
    have hCx : MCf b s sx l lx := hFs1_.tr ((hFx.fn9 (lo := b + 97) (by omega)).c (by omega))
    have h20 : sx 598 20 = 6 := by rw [hFx.2.1 20 (by decide) (by decide) (by decide), es1_, up_at]
    have h21 : sx 598 21 = x21 + 0 := by rw [hFx.2.1 21 (by decide) (by decide) (by decide), es1_, up_k (by decide), hx21]; omega
    have h601 : ∀ j, j < b + 97 → sx 601 j = s 601 j := fun j a => by rw [hFx.2.2.1 j (by omega), es1_, up_cc (by decide)]
    have hGx : MG b (sx 601) G := hGm.f rfl (fun j a => h601 j (by omega))
    show mm_wp _ _ (80, [some (.ref 598), some (.int (iI 6)), some (.int (iI 0)), some (.int (iI (G 0))), none, none], [], MX L t sx lx) _
    refine wi_a1 hc rfl rfl ?_
    refine wi_gfv (kz := 12) rfl hc rfl rfl (by decide) (Nat.le_of_ble_eq_true rfl) rfl (v := b) (MSt.rb hMx) ?_
    refine wi_ic hc rfl ?_
    refine wi_add hc rfl ?_
    refine wi_ic hc rfl ?_
    refine wi_i1 hc rfl rfl ?_
    refine wi_mul hc rfl ?_
    refine wi_add hc rfl ?_
    refine wi_is2 (L' := [some (.ref 598), some (.int (iI 6)), some (.int (iI 0)), some (.int (iI (G 0))), some (.int (iI ((b + 1) + (4 * (G 0))))), none]) hc rfl (Nat.le_of_ble_eq_true rfl) rfl ?_
    refine wi_a1 hc rfl rfl ?_
    refine wi_i1 hc rfl rfl ?_
    refine wi_i2 hc rfl rfl ?_
    obtain ⟨f1, y1, hy1⟩ : ∃ f y, rcBody k nm G 6 (rpNx z) = (f, y) := ⟨_, _, rfl⟩
    have hF1 : 0 ≤ f1 ∧ f1 ≤ 5 := rpF_Bo hy1
    obtain ⟨sy, ly, hEy, hRy, hNy⟩ := bd_194_6 (d := 0) (L := L) (t := t) hG hMx b0 ⟨by show 0 ≤ z.2.2; omega, by show z.2.2 ≤ z.1 + 1; omega⟩ (a9 := (b + 1) + (4 * (G 0))) ⟨by omega, by omega⟩ hGx (fun q q0 q1 => ⟨(hGb.2.2 q q0 q1).1.1, (hGb.2.2 q q0 q1).1.2, (hGb.2.2 q q0 q1).2.1⟩) hy1
    refine wp_cv (b := 598) (As := [.int (iI 6), .int (iI ((b + 1) + (4 * (G 0))))]) (r := []) hc rfl (by rw [cm_194]; rfl) rfl (Nat.le_of_ble_eq_true rfl) (show 598 < 621 by decide) (by rw [cm_194]; rfl) (ev_mono hEy (by omega)) ?_
    obtain ⟨yy, Q1, o1, w1, hx1, hx2, hx3, hx4⟩ := hRy
    show mm_wp _ _ (99, [some (.ref 598), some (.int (iI 6)), some (.int (iI 0)), some (.int (iI (G 0))), some (.int (iI ((b + 1) + (4 * (G 0))))), none], [.int (iI f1)], MX L t sy ly) _
    refine wi_is2 (L' := [some (.ref 598), some (.int (iI 6)), some (.int (iI 0)), some (.int (iI (G 0))), some (.int (iI ((b + 1) + (4 * (G 0))))), some (.int (iI f1))]) hc rfl (Nat.le_of_ble_eq_true rfl) rfl ?_
    refine wi_i2 hc rfl rfl ?_
    refine wi_zeq hc rfl ⟨by omega, by omega⟩ (fun h5_ => ?_) (fun h5_ => ?_)
    · have e9 : f1 = 0 := h5_
      subst e9
      obtain ⟨hx5, hx6⟩ := hx3 rfl
      rw [hx5, hx6] at hx2
      have hx2 : MSt f n k pl nm tn b sy ly y1 Q1 0 w1 := hx2
      have hNy := hNy rfl
      obtain ⟨q8, hq8⟩ : ∃ q, sy 598 9 = q := ⟨_, rfl⟩
      have hk8 := MSt.tk hx2
      rw [hq8] at hk8
      have ha8 := tkR_a hk8
      unfold tkA at ha8
      have hz8 := hx2.2.1.1
      have hkr8 := hG.2.2.2.2.2.2 y1.1
      refine wi_a1 hc rfl rfl ?_
      refine wi_gr (w := 601) hc rfl rfl (by decide) (Nat.le_of_ble_eq_true rfl) rfl ?_
      refine wi_i2 hc rfl rfl ?_
      refine wi_i1 hc rfl rfl ?_
      refine wi_ist (N := 2820) hc rfl rfl (by decide) (by decide) (by omega) (by omega) ?_
      obtain ⟨s2_, es2_⟩ : ∃ q, q = up sy 601 ((b + 1) + (4 * (G 0))) 6 := ⟨_, rfl⟩
      rw [← es2_]
      refine wi_a1 hc rfl rfl ?_
      refine wi_gr (w := 601) hc rfl rfl (by decide) (Nat.le_of_ble_eq_true rfl) rfl ?_
      refine wi_a1 hc rfl rfl ?_
      refine wi_gfv (kz := 12) rfl hc rfl rfl (by decide) (Nat.le_of_ble_eq_true rfl) rfl (v := b) (((congrFun (congrFun es2_ _) _).trans (up_c (by decide))).trans (MSt.rb hx2)) ?_
      refine wi_dup2 hc rfl ?_
      refine wi_ildv (N := 2820) hc rfl rfl (by decide) (by decide) (by omega) (by omega) (v := G 0) (((congrFun (congrFun es2_ _) _).trans (up_k (by omega))).trans ((hx4.2.2.1 b (by omega)).trans hGx.1)) ?_
      refine wi_ic hc rfl ?_
      refine wi_add hc rfl ?_
      refine wi_ist (N := 2820) hc rfl rfl (by decide) (by decide) (by omega) (by omega) ?_
      obtain ⟨s3_, es3_⟩ : ∃ q, q = up s2_ 601 b ((G 0) + 1) := ⟨_, rfl⟩
      rw [← es3_]
      have hMc : MSt f n k pl nm tn b s3_ ly y1 Q1 0 w1 := by rw [es3_]; exact MSt.nw (by rw [es2_]; exact hx2.nw (by omega)) (by omega)
      have hCc : MCf b s s3_ l ly := (hCx.tr (hx4.c (by omega))).tr ((show MCf b sy s2_ ly ly by rw [es2_]; exact MCf.w9 (by omega)).tr (by rw [es3_]; exact MCf.w9 (Int.le_refl _)))
      have hT9 : ∀ j, s3_ 601 j = if j = b then G 0 + 1 else if j = (b + 1) + (4 * (G 0)) then 6 else sy 601 j := fun j => by rw [es3_, up_ite, es2_, up_ite]
      have h21c : s3_ 598 21 = x21 + 0 := by rw [es3_, up_cc (by decide), es2_, up_cc (by decide), hx4.2.1 21 (by decide) (by decide) (by decide)]; exact h21
      refine wi_a1 hc rfl rfl ?_
      refine wi_gfv (kz := 9) rfl hc rfl rfl (by decide) (Nat.le_of_ble_eq_true rfl) rfl (v := q8) ((by rw [es3_, up_cc (by decide), es2_, up_cc (by decide)]; exact hq8 : s3_ 598 9 = q8)) ?_
      refine wi_bi hc rfl rfl ?_
      refine wi_ceq hc rfl ⟨by omega, by omega⟩ ⟨by decide, by decide⟩ (fun h6_ => ?_) (fun h6_ => ?_)
      · refine wi_a1 hc rfl rfl ?_
        have hnx8 := GTX_nx hG hz8.1 hz8.2 (by omega)
        obtain ⟨sz, lz, hEz, hMz, hFz⟩ := nx_166 (d := 0) (L := L) (t := t) (c := 0) hG hMc hnx8
        refine wp_cv (b := 598) (As := []) (r := []) hc rfl (by rw [cm_166]; rfl) rfl (Nat.le_of_ble_eq_true rfl) (show 598 < 621 by decide) (by rw [cm_166]; rfl) (ev_mono hEz (by omega)) ?_
        have hCz : MCf b s sz l lz := hCc.tr ((hFz.fn9 (lo := b + 97) (by omega)).c (by omega))
        show mm_wp _ _ (145, [some (.ref 598), some (.int (iI 6)), some (.int (iI 0)), some (.int (iI (G 0))), some (.int (iI ((b + 1) + (4 * (G 0))))), some (.int (iI 0))], [], MX L t sz lz) _
        refine wi_ic hc rfl ?_
        refine wi_ri hc rfl (by rw [cm_195]; rfl) ?_
        have hR9 : rpB (rpB (rcNum k nm G 6 (rpNx z)) (rcMore k nm 6)) (rcWd k 39) = (0, rpNx y1) := by
          rw [← rcBody_s (by decide), hy1]
          rw [rpB_z, rcWd, if_pos (by omega)]
        have hr9 := rcCl_go hs9 (by decide) (fun e => absurd e.1 (by decide)) (by omega) hR9
        rw [hr] at hr9
        subst hr9
        have hT8 : ∀ j, j < b + 97 → sz 601 j = if j = b then G 0 + 1 else if j = (b + 1) + (4 * (G 0)) then 6 else sy 601 j := fun j a => by rw [hFz.2.2.1 j (by omega), hT9]
        refine ⟨sz, lz, rfl, rpNx y1, Q1, 0, w1, rfl, hMz, fun _ => ⟨rfl, rfl, ?_, ?_⟩, hCz⟩
        · refine hGm.add (so := 6) (z := rpNx z) (y := rpNx y1) (by omega) ⟨by decide, by decide⟩ (fun j j0 j1 => ?_) (by rw [hT8 b (by omega), if_pos rfl]) (by rw [hT8 _ (by omega), if_neg (by omega), if_pos rfl]) ?_
          · rw [hT8 j (by omega), if_neg j0, if_neg (by omega), hx4.2.2.1 j (by omega), h601 j (by omega)]
          · obtain ⟨n1, n2, n3⟩ := hNy
            refine ⟨fun e => ?_, fun e => ?_, fun e => ?_⟩
            · rw [hT8 _ (by omega), if_neg (by omega), if_neg (by omega)]; exact n1 e
            · rw [hT8 _ (by omega), if_neg (by omega), if_neg (by omega)]; exact n2 e
            · rw [hT8 _ (by omega), if_neg (by omega), if_neg (by omega)]; exact n3 e
        · refine hON0.add hG0.1 (fun e => absurd e (by decide)) ?_
          rw [hFz.2.1 21 (by decide) (by decide) (by decide), h21c]
          rfl
      · refine wi_ic hc rfl ?_
        refine wi_ri hc rfl (by rw [cm_195]; rfl) ?_
        have hR9 : rpB (rpB (rcNum k nm G 6 (rpNx z)) (rcMore k nm 6)) (rcWd k 39) = (1, y1) := by
          rw [← rcBody_s (by decide), hy1]
          rw [rpB_z, rcWd, if_neg (by omega)]
        have hr9 := rcCl_go hs9 (by decide) (fun e => absurd e.1 (by decide)) (by omega) hR9
        rw [hr] at hr9
        subst hr9
        exact ⟨s3_, ly, rfl, y1, Q1, 0, w1, rfl, hMc, fun e => absurd (show (1 : Int) = 0 from e) (by decide), hCc⟩
    · skip
      refine wi_i2 hc rfl rfl ?_
      refine wi_ri hc rfl (by rw [cm_195]; rfl) ?_
      have hR9 : rpB (rpB (rcNum k nm G 6 (rpNx z)) (rcMore k nm 6)) (rcWd k 39) = (f1, y1) := by
        rw [← rcBody_s (by decide), hy1]
        exact rpB_n (r := (f1, y1)) h5_
      have hr9 := rcCl_go hs9 (by decide) (fun e => absurd e.1 (by decide)) (by omega) hR9
      rw [hr] at hr9
      subst hr9
      exact ⟨sy, ly, rfl, yy, Q1, o1, w1, hx1, hx2, fun e => absurd e h5_, hCx.tr (hx4.c (by omega))⟩
  · refine wi_bi hc rfl rfl ?_
    refine wi_ri hc rfl (by rw [cm_195]; rfl) ?_
    have hr9 : r = (6, z, G) := by rw [← hr, rcCl_6 hs9 (by decide) (fun e => absurd e.1 (by decide)) (by omega)]
    subst hr9
    exact ⟨s, l, rfl, z, P, 0, w, rfl, h, fun e => absurd (show (6 : Int) = 0 from e) (by decide), MCf.rf⟩
theorem mc_195_7 {d L t : Nat} {s l : Nat → Int → Int} {f : Int → Int} {n : Int} {kd k pl nm : Int → Int} {tn b : Int} {z : rpS} {P : List Int} {w : Int} (hG : GTX f n kd k pl nm tn) (h : MSt f n k pl nm tn b s l z P 0 w) (b0 : 0 ≤ b ∧ b ≤ 2115) (hI : 0 ≤ z.2.2 ∧ z.2.2 ≤ z.1) {G : Int → Int} (hGm : MG b (s 601) G) (hGb : GTb G z.2.2) (hON : MON (s 598 21) G) {r : rcR} (hr : rcCl k nm z G = r) (hs9 : soO (k z.1) = 7) : ∃ s1 l1, mm_Ev mm_ct mm_CM (d + 13) 195 [.ref 598] (MX L t s l) (some (.int (iI r.1)), MX L t s1 l1) ∧ MCr f n k pl nm tn b s s1 l l1 r := by
  have hc : (mm_CM 195).2.2.2.2.2.2.2 = mm_cf cd_195 := by rw [cm_195]; rfl
  refine ev_xsl ?_
  refine ev_to (mx := 6) (by rw [cm_195]; decide) (by rw [cm_195]; rfl) (by show 1 ≤ _; decide) ?_
  show mm_wp _ _ (0, [some (.ref 598), none, none, none, none, none], [], MX L t s l) (fun res => ∃ s1 l1, res = (some (.int (iI r.1)), MX L t s1 l1) ∧ MCr f n k pl nm tn b s s1 l l1 r)
  obtain ⟨q9, hq9⟩ : ∃ q9, s 598 9 = q9 := ⟨_, rfl⟩
  obtain ⟨u9, hu9⟩ : ∃ u9, s 598 10 = u9 := ⟨_, rfl⟩
  obtain ⟨w9, hw9⟩ : ∃ w9, l 598 11 = w9 := ⟨_, rfl⟩
  have hk9 := MSt.tk h
  rw [hq9, hu9, hw9] at hk9
  have ha9 := tkR_a hk9
  unfold tkA at ha9
  have htn := hG.2.2.2.1
  have hz1 := h.2.1.1
  have hkr := hG.2.2.2.2.2.2 z.1
  have hk43 := GTX_43 hG
  have hG0 := hGm.2.1
  obtain ⟨x21, hx21⟩ : ∃ x, s 598 21 = x := ⟨_, rfl⟩
  rw [hx21] at hON
  have hON0 := hON
  unfold MON at hON
  have hb1 := bI_01 (0 ≤ rcHas G 1 0)
  have hb2 := bI_01 (0 ≤ rcHas G 2 0)
  have hb3 := bI_01 (0 ≤ rcHas G 3 0)
  refine wi_a1 hc rfl rfl ?_
  have hSo : mm_Ev mm_ct mm_CM (0 + 3) 187 [.ref 598] (MX L t s l) (some (.int (iI (soO (k z.1)))), MX L t s l) := sp_187 hk9 hq9 hw9
  rw [hs9] at hSo
  refine wp_cv (b := 598) (As := []) (r := []) hc rfl (by rw [cm_187]; rfl) rfl (Nat.le_of_ble_eq_true rfl) (show 598 < 621 by decide) (by rw [cm_187]; rfl) (ev_mono hSo (by omega)) ?_
  show mm_wp _ _ (4, [some (.ref 598), none, none, none, none, none], [.int (iI 7)], MX L t s l) _
  refine wi_is1 (L' := [some (.ref 598), some (.int (iI 7)), none, none, none, none]) hc rfl (Nat.le_of_ble_eq_true rfl) rfl ?_
  refine wi_i1 hc rfl rfl ?_
  refine wi_zge hc rfl ⟨by decide, by decide⟩ (fun _ => ?_) (fun q => absurd q (by decide))
  refine wi_i1 hc rfl rfl ?_
  refine wi_ic hc rfl ?_
  refine wi_ic hc rfl ?_
  have hIn : mm_Ev mm_ct mm_CM (0 + 1) 148 [.int (iI 7), .int (iI 1), .int (iI 3)] (MX L t s l) (some (.int (iI (bI ((1 : Int) ≤ 7 ∧ (7 : Int) ≤ 3)))), MX L t s l) := sp_148 ⟨by decide, by decide⟩ ⟨by decide, by decide⟩ ⟨by decide, by decide⟩
  rw [bI_f (p := (1 : Int) ≤ 7 ∧ (7 : Int) ≤ 3) (by decide)] at hIn
  refine wp_cs (As := [.int (iI 7), .int (iI 1), .int (iI 3)]) (r := []) hc rfl (by rw [cm_148]; rfl) rfl (Nat.le_of_ble_eq_true rfl) (ev_mono hIn (by omega)) ?_
  show mm_wp _ _ (17, [some (.ref 598), some (.int (iI 7)), none, none, none, none], [.int (iI 0)], MX L t s l) _
  refine wi_is1 (L' := [some (.ref 598), some (.int (iI 7)), some (.int (iI 0)), none, none, none]) hc rfl (Nat.le_of_ble_eq_true rfl) rfl ?_
  refine wi_i1 hc rfl rfl ?_
  refine wi_zeq hc rfl ⟨by decide, by decide⟩ (fun _ => ?_) (fun q => absurd q (by decide))
  refine wi_a1 hc rfl rfl ?_
  refine wi_gr (w := 601) hc rfl rfl (by decide) (Nat.le_of_ble_eq_true rfl) rfl ?_
  refine wi_a1 hc rfl rfl ?_
  refine wi_gfv (kz := 12) rfl hc rfl rfl (by decide) (Nat.le_of_ble_eq_true rfl) rfl (v := b) (MSt.rb h) ?_
  refine wi_ildv (N := 2820) hc rfl rfl (by decide) (by decide) (by omega) (by omega) (v := G 0) (hGm.1) ?_
  refine wi_is1 (L' := [some (.ref 598), some (.int (iI 7)), some (.int (iI 0)), some (.int (iI (G 0))), none, none]) hc rfl (Nat.le_of_ble_eq_true rfl) rfl ?_
  refine wi_i1 hc rfl rfl ?_
  refine wi_bi hc rfl rfl ?_
  refine wi_cne hc rfl ⟨by omega, by omega⟩ ⟨by decide, by decide⟩ (fun h3_ => ?_) (fun h3_ => ?_)
  · refine wi_i1 hc rfl rfl ?_
    refine wi_zeq hc rfl ⟨by decide, by decide⟩ (fun _ => ?_) (fun q => absurd q (by decide))
    refine wi_a1 hc rfl rfl ?_
    refine wi_i1 hc rfl rfl ?_
    refine wi_pf (kz := 20) rfl hc rfl rfl (by decide) (Nat.le_of_ble_eq_true rfl) rfl (Nat.le_of_ble_eq_true rfl) ⟨rfl, rfl⟩ rfl ?_
    obtain ⟨s1_, es1_⟩ : ∃ q, q = up s 598 20 7 := ⟨_, rfl⟩
    rw [← es1_]
    refine wi_a1 hc rfl rfl ?_
    have hMs1_ : MSt f n k pl nm tn b s1_ l z P 0 w := by rw [es1_]; exact h.s20 (by decide)
    have hFs1_ : MCf b s s1_ l l := (show MCf b s s l l from MCf.rf).tr (by rw [es1_]; exact MCf.u (by decide))
    have hnx9 := GTX_nx hG hz1.1 hz1.2 (by rcases soO_s (k z.1) with ⟨e, -⟩ | ⟨-, -, -, e⟩ <;> omega)
    obtain ⟨sx, lx, hEx, hMx, hFx⟩ := nx_166 (d := 0) (L := L) (t := t) (c := 0) hG hMs1_ hnx9
    refine wp_cv (b := 598) (As := []) (r := []) hc rfl (by rw [cm_166]; rfl) rfl (Nat.le_of_ble_eq_true rfl) (show 598 < 621 by decide) (by rw [cm_166]; rfl) (ev_mono hEx (by omega)) ?_
    have hCx : MCf b s sx l lx := hFs1_.tr ((hFx.fn9 (lo := b + 97) (by omega)).c (by omega))
    have h20 : sx 598 20 = 7 := by rw [hFx.2.1 20 (by decide) (by decide) (by decide), es1_, up_at]
    have h21 : sx 598 21 = x21 + 0 := by rw [hFx.2.1 21 (by decide) (by decide) (by decide), es1_, up_k (by decide), hx21]; omega
    have h601 : ∀ j, j < b + 97 → sx 601 j = s 601 j := fun j a => by rw [hFx.2.2.1 j (by omega), es1_, up_cc (by decide)]
    have hGx : MG b (sx 601) G := hGm.f rfl (fun j a => h601 j (by omega))
    show mm_wp _ _ (80, [some (.ref 598), some (.int (iI 7)), some (.int (iI 0)), some (.int (iI (G 0))), none, none], [], MX L t sx lx) _
    refine wi_a1 hc rfl rfl ?_
    refine wi_gfv (kz := 12) rfl hc rfl rfl (by decide) (Nat.le_of_ble_eq_true rfl) rfl (v := b) (MSt.rb hMx) ?_
    refine wi_ic hc rfl ?_
    refine wi_add hc rfl ?_
    refine wi_ic hc rfl ?_
    refine wi_i1 hc rfl rfl ?_
    refine wi_mul hc rfl ?_
    refine wi_add hc rfl ?_
    refine wi_is2 (L' := [some (.ref 598), some (.int (iI 7)), some (.int (iI 0)), some (.int (iI (G 0))), some (.int (iI ((b + 1) + (4 * (G 0))))), none]) hc rfl (Nat.le_of_ble_eq_true rfl) rfl ?_
    refine wi_a1 hc rfl rfl ?_
    refine wi_i1 hc rfl rfl ?_
    refine wi_i2 hc rfl rfl ?_
    obtain ⟨f1, y1, hy1⟩ : ∃ f y, rcBody k nm G 7 (rpNx z) = (f, y) := ⟨_, _, rfl⟩
    have hF1 : 0 ≤ f1 ∧ f1 ≤ 5 := rpF_Bo hy1
    obtain ⟨sy, ly, hEy, hRy, hNy⟩ := bd_194_7 (d := 0) (L := L) (t := t) hG hMx b0 ⟨by show 0 ≤ z.2.2; omega, by show z.2.2 ≤ z.1 + 1; omega⟩ (a9 := (b + 1) + (4 * (G 0))) ⟨by omega, by omega⟩ hGx (fun q q0 q1 => ⟨(hGb.2.2 q q0 q1).1.1, (hGb.2.2 q q0 q1).1.2, (hGb.2.2 q q0 q1).2.1⟩) hy1
    refine wp_cv (b := 598) (As := [.int (iI 7), .int (iI ((b + 1) + (4 * (G 0))))]) (r := []) hc rfl (by rw [cm_194]; rfl) rfl (Nat.le_of_ble_eq_true rfl) (show 598 < 621 by decide) (by rw [cm_194]; rfl) (ev_mono hEy (by omega)) ?_
    obtain ⟨yy, Q1, o1, w1, hx1, hx2, hx3, hx4⟩ := hRy
    show mm_wp _ _ (99, [some (.ref 598), some (.int (iI 7)), some (.int (iI 0)), some (.int (iI (G 0))), some (.int (iI ((b + 1) + (4 * (G 0))))), none], [.int (iI f1)], MX L t sy ly) _
    refine wi_is2 (L' := [some (.ref 598), some (.int (iI 7)), some (.int (iI 0)), some (.int (iI (G 0))), some (.int (iI ((b + 1) + (4 * (G 0))))), some (.int (iI f1))]) hc rfl (Nat.le_of_ble_eq_true rfl) rfl ?_
    refine wi_i2 hc rfl rfl ?_
    refine wi_zeq hc rfl ⟨by omega, by omega⟩ (fun h5_ => ?_) (fun h5_ => ?_)
    · have e9 : f1 = 0 := h5_
      subst e9
      obtain ⟨hx5, hx6⟩ := hx3 rfl
      rw [hx5, hx6] at hx2
      have hx2 : MSt f n k pl nm tn b sy ly y1 Q1 0 w1 := hx2
      have hNy := hNy rfl
      obtain ⟨q8, hq8⟩ : ∃ q, sy 598 9 = q := ⟨_, rfl⟩
      have hk8 := MSt.tk hx2
      rw [hq8] at hk8
      have ha8 := tkR_a hk8
      unfold tkA at ha8
      have hz8 := hx2.2.1.1
      have hkr8 := hG.2.2.2.2.2.2 y1.1
      refine wi_a1 hc rfl rfl ?_
      refine wi_gr (w := 601) hc rfl rfl (by decide) (Nat.le_of_ble_eq_true rfl) rfl ?_
      refine wi_i2 hc rfl rfl ?_
      refine wi_i1 hc rfl rfl ?_
      refine wi_ist (N := 2820) hc rfl rfl (by decide) (by decide) (by omega) (by omega) ?_
      obtain ⟨s2_, es2_⟩ : ∃ q, q = up sy 601 ((b + 1) + (4 * (G 0))) 7 := ⟨_, rfl⟩
      rw [← es2_]
      refine wi_a1 hc rfl rfl ?_
      refine wi_gr (w := 601) hc rfl rfl (by decide) (Nat.le_of_ble_eq_true rfl) rfl ?_
      refine wi_a1 hc rfl rfl ?_
      refine wi_gfv (kz := 12) rfl hc rfl rfl (by decide) (Nat.le_of_ble_eq_true rfl) rfl (v := b) (((congrFun (congrFun es2_ _) _).trans (up_c (by decide))).trans (MSt.rb hx2)) ?_
      refine wi_dup2 hc rfl ?_
      refine wi_ildv (N := 2820) hc rfl rfl (by decide) (by decide) (by omega) (by omega) (v := G 0) (((congrFun (congrFun es2_ _) _).trans (up_k (by omega))).trans ((hx4.2.2.1 b (by omega)).trans hGx.1)) ?_
      refine wi_ic hc rfl ?_
      refine wi_add hc rfl ?_
      refine wi_ist (N := 2820) hc rfl rfl (by decide) (by decide) (by omega) (by omega) ?_
      obtain ⟨s3_, es3_⟩ : ∃ q, q = up s2_ 601 b ((G 0) + 1) := ⟨_, rfl⟩
      rw [← es3_]
      have hMc : MSt f n k pl nm tn b s3_ ly y1 Q1 0 w1 := by rw [es3_]; exact MSt.nw (by rw [es2_]; exact hx2.nw (by omega)) (by omega)
      have hCc : MCf b s s3_ l ly := (hCx.tr (hx4.c (by omega))).tr ((show MCf b sy s2_ ly ly by rw [es2_]; exact MCf.w9 (by omega)).tr (by rw [es3_]; exact MCf.w9 (Int.le_refl _)))
      have hT9 : ∀ j, s3_ 601 j = if j = b then G 0 + 1 else if j = (b + 1) + (4 * (G 0)) then 7 else sy 601 j := fun j => by rw [es3_, up_ite, es2_, up_ite]
      have h21c : s3_ 598 21 = x21 + 0 := by rw [es3_, up_cc (by decide), es2_, up_cc (by decide), hx4.2.1 21 (by decide) (by decide) (by decide)]; exact h21
      refine wi_a1 hc rfl rfl ?_
      refine wi_gfv (kz := 9) rfl hc rfl rfl (by decide) (Nat.le_of_ble_eq_true rfl) rfl (v := q8) ((by rw [es3_, up_cc (by decide), es2_, up_cc (by decide)]; exact hq8 : s3_ 598 9 = q8)) ?_
      refine wi_bi hc rfl rfl ?_
      refine wi_ceq hc rfl ⟨by omega, by omega⟩ ⟨by decide, by decide⟩ (fun h6_ => ?_) (fun h6_ => ?_)
      · refine wi_a1 hc rfl rfl ?_
        have hnx8 := GTX_nx hG hz8.1 hz8.2 (by omega)
        obtain ⟨sz, lz, hEz, hMz, hFz⟩ := nx_166 (d := 0) (L := L) (t := t) (c := 0) hG hMc hnx8
        refine wp_cv (b := 598) (As := []) (r := []) hc rfl (by rw [cm_166]; rfl) rfl (Nat.le_of_ble_eq_true rfl) (show 598 < 621 by decide) (by rw [cm_166]; rfl) (ev_mono hEz (by omega)) ?_
        have hCz : MCf b s sz l lz := hCc.tr ((hFz.fn9 (lo := b + 97) (by omega)).c (by omega))
        show mm_wp _ _ (145, [some (.ref 598), some (.int (iI 7)), some (.int (iI 0)), some (.int (iI (G 0))), some (.int (iI ((b + 1) + (4 * (G 0))))), some (.int (iI 0))], [], MX L t sz lz) _
        refine wi_ic hc rfl ?_
        refine wi_ri hc rfl (by rw [cm_195]; rfl) ?_
        have hR9 : rpB (rpB (rcNum k nm G 7 (rpNx z)) (rcMore k nm 7)) (rcWd k 39) = (0, rpNx y1) := by
          rw [← rcBody_s (by decide), hy1]
          rw [rpB_z, rcWd, if_pos (by omega)]
        have hr9 := rcCl_go hs9 (by decide) (fun e => absurd e.1 (by decide)) (by omega) hR9
        rw [hr] at hr9
        subst hr9
        have hT8 : ∀ j, j < b + 97 → sz 601 j = if j = b then G 0 + 1 else if j = (b + 1) + (4 * (G 0)) then 7 else sy 601 j := fun j a => by rw [hFz.2.2.1 j (by omega), hT9]
        refine ⟨sz, lz, rfl, rpNx y1, Q1, 0, w1, rfl, hMz, fun _ => ⟨rfl, rfl, ?_, ?_⟩, hCz⟩
        · refine hGm.add (so := 7) (z := rpNx z) (y := rpNx y1) (by omega) ⟨by decide, by decide⟩ (fun j j0 j1 => ?_) (by rw [hT8 b (by omega), if_pos rfl]) (by rw [hT8 _ (by omega), if_neg (by omega), if_pos rfl]) ?_
          · rw [hT8 j (by omega), if_neg j0, if_neg (by omega), hx4.2.2.1 j (by omega), h601 j (by omega)]
          · obtain ⟨n1, n2, n3⟩ := hNy
            refine ⟨fun e => ?_, fun e => ?_, fun e => ?_⟩
            · rw [hT8 _ (by omega), if_neg (by omega), if_neg (by omega)]; exact n1 e
            · rw [hT8 _ (by omega), if_neg (by omega), if_neg (by omega)]; exact n2 e
            · rw [hT8 _ (by omega), if_neg (by omega), if_neg (by omega)]; exact n3 e
        · refine hON0.add hG0.1 (fun e => absurd e (by decide)) ?_
          rw [hFz.2.1 21 (by decide) (by decide) (by decide), h21c]
          rfl
      · refine wi_ic hc rfl ?_
        refine wi_ri hc rfl (by rw [cm_195]; rfl) ?_
        have hR9 : rpB (rpB (rcNum k nm G 7 (rpNx z)) (rcMore k nm 7)) (rcWd k 39) = (1, y1) := by
          rw [← rcBody_s (by decide), hy1]
          rw [rpB_z, rcWd, if_neg (by omega)]
        have hr9 := rcCl_go hs9 (by decide) (fun e => absurd e.1 (by decide)) (by omega) hR9
        rw [hr] at hr9
        subst hr9
        exact ⟨s3_, ly, rfl, y1, Q1, 0, w1, rfl, hMc, fun e => absurd (show (1 : Int) = 0 from e) (by decide), hCc⟩
    · skip
      refine wi_i2 hc rfl rfl ?_
      refine wi_ri hc rfl (by rw [cm_195]; rfl) ?_
      have hR9 : rpB (rpB (rcNum k nm G 7 (rpNx z)) (rcMore k nm 7)) (rcWd k 39) = (f1, y1) := by
        rw [← rcBody_s (by decide), hy1]
        exact rpB_n (r := (f1, y1)) h5_
      have hr9 := rcCl_go hs9 (by decide) (fun e => absurd e.1 (by decide)) (by omega) hR9
      rw [hr] at hr9
      subst hr9
      exact ⟨sy, ly, rfl, yy, Q1, o1, w1, hx1, hx2, fun e => absurd e h5_, hCx.tr (hx4.c (by omega))⟩
  · refine wi_bi hc rfl rfl ?_
    refine wi_ri hc rfl (by rw [cm_195]; rfl) ?_
    have hr9 : r = (6, z, G) := by rw [← hr, rcCl_6 hs9 (by decide) (fun e => absurd e.1 (by decide)) (by omega)]
    subst hr9
    exact ⟨s, l, rfl, z, P, 0, w, rfl, h, fun e => absurd (show (6 : Int) = 0 from e) (by decide), MCf.rf⟩
theorem mc_195_8 {d L t : Nat} {s l : Nat → Int → Int} {f : Int → Int} {n : Int} {kd k pl nm : Int → Int} {tn b : Int} {z : rpS} {P : List Int} {w : Int} (hG : GTX f n kd k pl nm tn) (h : MSt f n k pl nm tn b s l z P 0 w) (b0 : 0 ≤ b ∧ b ≤ 2115) (hI : 0 ≤ z.2.2 ∧ z.2.2 ≤ z.1) {G : Int → Int} (hGm : MG b (s 601) G) (hGb : GTb G z.2.2) (hON : MON (s 598 21) G) {r : rcR} (hr : rcCl k nm z G = r) (hs9 : soO (k z.1) = 8) : ∃ s1 l1, mm_Ev mm_ct mm_CM (d + 13) 195 [.ref 598] (MX L t s l) (some (.int (iI r.1)), MX L t s1 l1) ∧ MCr f n k pl nm tn b s s1 l l1 r := by
  have hc : (mm_CM 195).2.2.2.2.2.2.2 = mm_cf cd_195 := by rw [cm_195]; rfl
  refine ev_xsl ?_
  refine ev_to (mx := 6) (by rw [cm_195]; decide) (by rw [cm_195]; rfl) (by show 1 ≤ _; decide) ?_
  show mm_wp _ _ (0, [some (.ref 598), none, none, none, none, none], [], MX L t s l) (fun res => ∃ s1 l1, res = (some (.int (iI r.1)), MX L t s1 l1) ∧ MCr f n k pl nm tn b s s1 l l1 r)
  obtain ⟨q9, hq9⟩ : ∃ q9, s 598 9 = q9 := ⟨_, rfl⟩
  obtain ⟨u9, hu9⟩ : ∃ u9, s 598 10 = u9 := ⟨_, rfl⟩
  obtain ⟨w9, hw9⟩ : ∃ w9, l 598 11 = w9 := ⟨_, rfl⟩
  have hk9 := MSt.tk h
  rw [hq9, hu9, hw9] at hk9
  have ha9 := tkR_a hk9
  unfold tkA at ha9
  have htn := hG.2.2.2.1
  have hz1 := h.2.1.1
  have hkr := hG.2.2.2.2.2.2 z.1
  have hk43 := GTX_43 hG
  have hG0 := hGm.2.1
  obtain ⟨x21, hx21⟩ : ∃ x, s 598 21 = x := ⟨_, rfl⟩
  rw [hx21] at hON
  have hON0 := hON
  unfold MON at hON
  have hb1 := bI_01 (0 ≤ rcHas G 1 0)
  have hb2 := bI_01 (0 ≤ rcHas G 2 0)
  have hb3 := bI_01 (0 ≤ rcHas G 3 0)
  refine wi_a1 hc rfl rfl ?_
  have hSo : mm_Ev mm_ct mm_CM (0 + 3) 187 [.ref 598] (MX L t s l) (some (.int (iI (soO (k z.1)))), MX L t s l) := sp_187 hk9 hq9 hw9
  rw [hs9] at hSo
  refine wp_cv (b := 598) (As := []) (r := []) hc rfl (by rw [cm_187]; rfl) rfl (Nat.le_of_ble_eq_true rfl) (show 598 < 621 by decide) (by rw [cm_187]; rfl) (ev_mono hSo (by omega)) ?_
  show mm_wp _ _ (4, [some (.ref 598), none, none, none, none, none], [.int (iI 8)], MX L t s l) _
  refine wi_is1 (L' := [some (.ref 598), some (.int (iI 8)), none, none, none, none]) hc rfl (Nat.le_of_ble_eq_true rfl) rfl ?_
  refine wi_i1 hc rfl rfl ?_
  refine wi_zge hc rfl ⟨by decide, by decide⟩ (fun _ => ?_) (fun q => absurd q (by decide))
  refine wi_i1 hc rfl rfl ?_
  refine wi_ic hc rfl ?_
  refine wi_ic hc rfl ?_
  have hIn : mm_Ev mm_ct mm_CM (0 + 1) 148 [.int (iI 8), .int (iI 1), .int (iI 3)] (MX L t s l) (some (.int (iI (bI ((1 : Int) ≤ 8 ∧ (8 : Int) ≤ 3)))), MX L t s l) := sp_148 ⟨by decide, by decide⟩ ⟨by decide, by decide⟩ ⟨by decide, by decide⟩
  rw [bI_f (p := (1 : Int) ≤ 8 ∧ (8 : Int) ≤ 3) (by decide)] at hIn
  refine wp_cs (As := [.int (iI 8), .int (iI 1), .int (iI 3)]) (r := []) hc rfl (by rw [cm_148]; rfl) rfl (Nat.le_of_ble_eq_true rfl) (ev_mono hIn (by omega)) ?_
  show mm_wp _ _ (17, [some (.ref 598), some (.int (iI 8)), none, none, none, none], [.int (iI 0)], MX L t s l) _
  refine wi_is1 (L' := [some (.ref 598), some (.int (iI 8)), some (.int (iI 0)), none, none, none]) hc rfl (Nat.le_of_ble_eq_true rfl) rfl ?_
  refine wi_i1 hc rfl rfl ?_
  refine wi_zeq hc rfl ⟨by decide, by decide⟩ (fun _ => ?_) (fun q => absurd q (by decide))
  refine wi_a1 hc rfl rfl ?_
  refine wi_gr (w := 601) hc rfl rfl (by decide) (Nat.le_of_ble_eq_true rfl) rfl ?_
  refine wi_a1 hc rfl rfl ?_
  refine wi_gfv (kz := 12) rfl hc rfl rfl (by decide) (Nat.le_of_ble_eq_true rfl) rfl (v := b) (MSt.rb h) ?_
  refine wi_ildv (N := 2820) hc rfl rfl (by decide) (by decide) (by omega) (by omega) (v := G 0) (hGm.1) ?_
  refine wi_is1 (L' := [some (.ref 598), some (.int (iI 8)), some (.int (iI 0)), some (.int (iI (G 0))), none, none]) hc rfl (Nat.le_of_ble_eq_true rfl) rfl ?_
  refine wi_i1 hc rfl rfl ?_
  refine wi_bi hc rfl rfl ?_
  refine wi_cne hc rfl ⟨by omega, by omega⟩ ⟨by decide, by decide⟩ (fun h3_ => ?_) (fun h3_ => ?_)
  · refine wi_i1 hc rfl rfl ?_
    refine wi_zeq hc rfl ⟨by decide, by decide⟩ (fun _ => ?_) (fun q => absurd q (by decide))
    refine wi_a1 hc rfl rfl ?_
    refine wi_i1 hc rfl rfl ?_
    refine wi_pf (kz := 20) rfl hc rfl rfl (by decide) (Nat.le_of_ble_eq_true rfl) rfl (Nat.le_of_ble_eq_true rfl) ⟨rfl, rfl⟩ rfl ?_
    obtain ⟨s1_, es1_⟩ : ∃ q, q = up s 598 20 8 := ⟨_, rfl⟩
    rw [← es1_]
    refine wi_a1 hc rfl rfl ?_
    have hMs1_ : MSt f n k pl nm tn b s1_ l z P 0 w := by rw [es1_]; exact h.s20 (by decide)
    have hFs1_ : MCf b s s1_ l l := (show MCf b s s l l from MCf.rf).tr (by rw [es1_]; exact MCf.u (by decide))
    have hnx9 := GTX_nx hG hz1.1 hz1.2 (by rcases soO_s (k z.1) with ⟨e, -⟩ | ⟨-, -, -, e⟩ <;> omega)
    obtain ⟨sx, lx, hEx, hMx, hFx⟩ := nx_166 (d := 0) (L := L) (t := t) (c := 0) hG hMs1_ hnx9
    refine wp_cv (b := 598) (As := []) (r := []) hc rfl (by rw [cm_166]; rfl) rfl (Nat.le_of_ble_eq_true rfl) (show 598 < 621 by decide) (by rw [cm_166]; rfl) (ev_mono hEx (by omega)) ?_
    have hCx : MCf b s sx l lx := hFs1_.tr ((hFx.fn9 (lo := b + 97) (by omega)).c (by omega))
    have h20 : sx 598 20 = 8 := by rw [hFx.2.1 20 (by decide) (by decide) (by decide), es1_, up_at]
    have h21 : sx 598 21 = x21 + 0 := by rw [hFx.2.1 21 (by decide) (by decide) (by decide), es1_, up_k (by decide), hx21]; omega
    have h601 : ∀ j, j < b + 97 → sx 601 j = s 601 j := fun j a => by rw [hFx.2.2.1 j (by omega), es1_, up_cc (by decide)]
    have hGx : MG b (sx 601) G := hGm.f rfl (fun j a => h601 j (by omega))
    show mm_wp _ _ (80, [some (.ref 598), some (.int (iI 8)), some (.int (iI 0)), some (.int (iI (G 0))), none, none], [], MX L t sx lx) _
    refine wi_a1 hc rfl rfl ?_
    refine wi_gfv (kz := 12) rfl hc rfl rfl (by decide) (Nat.le_of_ble_eq_true rfl) rfl (v := b) (MSt.rb hMx) ?_
    refine wi_ic hc rfl ?_
    refine wi_add hc rfl ?_
    refine wi_ic hc rfl ?_
    refine wi_i1 hc rfl rfl ?_
    refine wi_mul hc rfl ?_
    refine wi_add hc rfl ?_
    refine wi_is2 (L' := [some (.ref 598), some (.int (iI 8)), some (.int (iI 0)), some (.int (iI (G 0))), some (.int (iI ((b + 1) + (4 * (G 0))))), none]) hc rfl (Nat.le_of_ble_eq_true rfl) rfl ?_
    refine wi_a1 hc rfl rfl ?_
    refine wi_i1 hc rfl rfl ?_
    refine wi_i2 hc rfl rfl ?_
    obtain ⟨f1, y1, hy1⟩ : ∃ f y, rcBody k nm G 8 (rpNx z) = (f, y) := ⟨_, _, rfl⟩
    have hF1 : 0 ≤ f1 ∧ f1 ≤ 5 := rpF_Bo hy1
    obtain ⟨sy, ly, hEy, hRy, hNy⟩ := bd_194_8 (d := 0) (L := L) (t := t) hG hMx b0 ⟨by show 0 ≤ z.2.2; omega, by show z.2.2 ≤ z.1 + 1; omega⟩ (a9 := (b + 1) + (4 * (G 0))) ⟨by omega, by omega⟩ hGx (fun q q0 q1 => ⟨(hGb.2.2 q q0 q1).1.1, (hGb.2.2 q q0 q1).1.2, (hGb.2.2 q q0 q1).2.1⟩) hy1
    refine wp_cv (b := 598) (As := [.int (iI 8), .int (iI ((b + 1) + (4 * (G 0))))]) (r := []) hc rfl (by rw [cm_194]; rfl) rfl (Nat.le_of_ble_eq_true rfl) (show 598 < 621 by decide) (by rw [cm_194]; rfl) (ev_mono hEy (by omega)) ?_
    obtain ⟨yy, Q1, o1, w1, hx1, hx2, hx3, hx4⟩ := hRy
    show mm_wp _ _ (99, [some (.ref 598), some (.int (iI 8)), some (.int (iI 0)), some (.int (iI (G 0))), some (.int (iI ((b + 1) + (4 * (G 0))))), none], [.int (iI f1)], MX L t sy ly) _
    refine wi_is2 (L' := [some (.ref 598), some (.int (iI 8)), some (.int (iI 0)), some (.int (iI (G 0))), some (.int (iI ((b + 1) + (4 * (G 0))))), some (.int (iI f1))]) hc rfl (Nat.le_of_ble_eq_true rfl) rfl ?_
    refine wi_i2 hc rfl rfl ?_
    refine wi_zeq hc rfl ⟨by omega, by omega⟩ (fun h5_ => ?_) (fun h5_ => ?_)
    · have e9 : f1 = 0 := h5_
      subst e9
      obtain ⟨hx5, hx6⟩ := hx3 rfl
      rw [hx5, hx6] at hx2
      have hx2 : MSt f n k pl nm tn b sy ly y1 Q1 0 w1 := hx2
      have hNy := hNy rfl
      obtain ⟨q8, hq8⟩ : ∃ q, sy 598 9 = q := ⟨_, rfl⟩
      have hk8 := MSt.tk hx2
      rw [hq8] at hk8
      have ha8 := tkR_a hk8
      unfold tkA at ha8
      have hz8 := hx2.2.1.1
      have hkr8 := hG.2.2.2.2.2.2 y1.1
      refine wi_a1 hc rfl rfl ?_
      refine wi_gr (w := 601) hc rfl rfl (by decide) (Nat.le_of_ble_eq_true rfl) rfl ?_
      refine wi_i2 hc rfl rfl ?_
      refine wi_i1 hc rfl rfl ?_
      refine wi_ist (N := 2820) hc rfl rfl (by decide) (by decide) (by omega) (by omega) ?_
      obtain ⟨s2_, es2_⟩ : ∃ q, q = up sy 601 ((b + 1) + (4 * (G 0))) 8 := ⟨_, rfl⟩
      rw [← es2_]
      refine wi_a1 hc rfl rfl ?_
      refine wi_gr (w := 601) hc rfl rfl (by decide) (Nat.le_of_ble_eq_true rfl) rfl ?_
      refine wi_a1 hc rfl rfl ?_
      refine wi_gfv (kz := 12) rfl hc rfl rfl (by decide) (Nat.le_of_ble_eq_true rfl) rfl (v := b) (((congrFun (congrFun es2_ _) _).trans (up_c (by decide))).trans (MSt.rb hx2)) ?_
      refine wi_dup2 hc rfl ?_
      refine wi_ildv (N := 2820) hc rfl rfl (by decide) (by decide) (by omega) (by omega) (v := G 0) (((congrFun (congrFun es2_ _) _).trans (up_k (by omega))).trans ((hx4.2.2.1 b (by omega)).trans hGx.1)) ?_
      refine wi_ic hc rfl ?_
      refine wi_add hc rfl ?_
      refine wi_ist (N := 2820) hc rfl rfl (by decide) (by decide) (by omega) (by omega) ?_
      obtain ⟨s3_, es3_⟩ : ∃ q, q = up s2_ 601 b ((G 0) + 1) := ⟨_, rfl⟩
      rw [← es3_]
      have hMc : MSt f n k pl nm tn b s3_ ly y1 Q1 0 w1 := by rw [es3_]; exact MSt.nw (by rw [es2_]; exact hx2.nw (by omega)) (by omega)
      have hCc : MCf b s s3_ l ly := (hCx.tr (hx4.c (by omega))).tr ((show MCf b sy s2_ ly ly by rw [es2_]; exact MCf.w9 (by omega)).tr (by rw [es3_]; exact MCf.w9 (Int.le_refl _)))
      have hT9 : ∀ j, s3_ 601 j = if j = b then G 0 + 1 else if j = (b + 1) + (4 * (G 0)) then 8 else sy 601 j := fun j => by rw [es3_, up_ite, es2_, up_ite]
      have h21c : s3_ 598 21 = x21 + 0 := by rw [es3_, up_cc (by decide), es2_, up_cc (by decide), hx4.2.1 21 (by decide) (by decide) (by decide)]; exact h21
      refine wi_a1 hc rfl rfl ?_
      refine wi_gfv (kz := 9) rfl hc rfl rfl (by decide) (Nat.le_of_ble_eq_true rfl) rfl (v := q8) ((by rw [es3_, up_cc (by decide), es2_, up_cc (by decide)]; exact hq8 : s3_ 598 9 = q8)) ?_
      refine wi_bi hc rfl rfl ?_
      refine wi_ceq hc rfl ⟨by omega, by omega⟩ ⟨by decide, by decide⟩ (fun h6_ => ?_) (fun h6_ => ?_)
      · refine wi_a1 hc rfl rfl ?_
        have hnx8 := GTX_nx hG hz8.1 hz8.2 (by omega)
        obtain ⟨sz, lz, hEz, hMz, hFz⟩ := nx_166 (d := 0) (L := L) (t := t) (c := 0) hG hMc hnx8
        refine wp_cv (b := 598) (As := []) (r := []) hc rfl (by rw [cm_166]; rfl) rfl (Nat.le_of_ble_eq_true rfl) (show 598 < 621 by decide) (by rw [cm_166]; rfl) (ev_mono hEz (by omega)) ?_
        have hCz : MCf b s sz l lz := hCc.tr ((hFz.fn9 (lo := b + 97) (by omega)).c (by omega))
        show mm_wp _ _ (145, [some (.ref 598), some (.int (iI 8)), some (.int (iI 0)), some (.int (iI (G 0))), some (.int (iI ((b + 1) + (4 * (G 0))))), some (.int (iI 0))], [], MX L t sz lz) _
        refine wi_ic hc rfl ?_
        refine wi_ri hc rfl (by rw [cm_195]; rfl) ?_
        have hR9 : rpB (rpB (rcNum k nm G 8 (rpNx z)) (rcMore k nm 8)) (rcWd k 39) = (0, rpNx y1) := by
          rw [← rcBody_s (by decide), hy1]
          rw [rpB_z, rcWd, if_pos (by omega)]
        have hr9 := rcCl_go hs9 (by decide) (fun e => absurd e.1 (by decide)) (by omega) hR9
        rw [hr] at hr9
        subst hr9
        have hT8 : ∀ j, j < b + 97 → sz 601 j = if j = b then G 0 + 1 else if j = (b + 1) + (4 * (G 0)) then 8 else sy 601 j := fun j a => by rw [hFz.2.2.1 j (by omega), hT9]
        refine ⟨sz, lz, rfl, rpNx y1, Q1, 0, w1, rfl, hMz, fun _ => ⟨rfl, rfl, ?_, ?_⟩, hCz⟩
        · refine hGm.add (so := 8) (z := rpNx z) (y := rpNx y1) (by omega) ⟨by decide, by decide⟩ (fun j j0 j1 => ?_) (by rw [hT8 b (by omega), if_pos rfl]) (by rw [hT8 _ (by omega), if_neg (by omega), if_pos rfl]) ?_
          · rw [hT8 j (by omega), if_neg j0, if_neg (by omega), hx4.2.2.1 j (by omega), h601 j (by omega)]
          · obtain ⟨n1, n2, n3⟩ := hNy
            refine ⟨fun e => ?_, fun e => ?_, fun e => ?_⟩
            · rw [hT8 _ (by omega), if_neg (by omega), if_neg (by omega)]; exact n1 e
            · rw [hT8 _ (by omega), if_neg (by omega), if_neg (by omega)]; exact n2 e
            · rw [hT8 _ (by omega), if_neg (by omega), if_neg (by omega)]; exact n3 e
        · refine hON0.add hG0.1 (fun e => absurd e (by decide)) ?_
          rw [hFz.2.1 21 (by decide) (by decide) (by decide), h21c]
          rfl
      · refine wi_ic hc rfl ?_
        refine wi_ri hc rfl (by rw [cm_195]; rfl) ?_
        have hR9 : rpB (rpB (rcNum k nm G 8 (rpNx z)) (rcMore k nm 8)) (rcWd k 39) = (1, y1) := by
          rw [← rcBody_s (by decide), hy1]
          rw [rpB_z, rcWd, if_neg (by omega)]
        have hr9 := rcCl_go hs9 (by decide) (fun e => absurd e.1 (by decide)) (by omega) hR9
        rw [hr] at hr9
        subst hr9
        exact ⟨s3_, ly, rfl, y1, Q1, 0, w1, rfl, hMc, fun e => absurd (show (1 : Int) = 0 from e) (by decide), hCc⟩
    · skip
      refine wi_i2 hc rfl rfl ?_
      refine wi_ri hc rfl (by rw [cm_195]; rfl) ?_
      have hR9 : rpB (rpB (rcNum k nm G 8 (rpNx z)) (rcMore k nm 8)) (rcWd k 39) = (f1, y1) := by
        rw [← rcBody_s (by decide), hy1]
        exact rpB_n (r := (f1, y1)) h5_
      have hr9 := rcCl_go hs9 (by decide) (fun e => absurd e.1 (by decide)) (by omega) hR9
      rw [hr] at hr9
      subst hr9
      exact ⟨sy, ly, rfl, yy, Q1, o1, w1, hx1, hx2, fun e => absurd e h5_, hCx.tr (hx4.c (by omega))⟩
  · refine wi_bi hc rfl rfl ?_
    refine wi_ri hc rfl (by rw [cm_195]; rfl) ?_
    have hr9 : r = (6, z, G) := by rw [← hr, rcCl_6 hs9 (by decide) (fun e => absurd e.1 (by decide)) (by omega)]
    subst hr9
    exact ⟨s, l, rfl, z, P, 0, w, rfl, h, fun e => absurd (show (6 : Int) = 0 from e) (by decide), MCf.rf⟩
theorem mc_195_9 {d L t : Nat} {s l : Nat → Int → Int} {f : Int → Int} {n : Int} {kd k pl nm : Int → Int} {tn b : Int} {z : rpS} {P : List Int} {w : Int} (hG : GTX f n kd k pl nm tn) (h : MSt f n k pl nm tn b s l z P 0 w) (b0 : 0 ≤ b ∧ b ≤ 2115) (hI : 0 ≤ z.2.2 ∧ z.2.2 ≤ z.1) {G : Int → Int} (hGm : MG b (s 601) G) (hGb : GTb G z.2.2) (hON : MON (s 598 21) G) {r : rcR} (hr : rcCl k nm z G = r) (hs9 : soO (k z.1) = 9) : ∃ s1 l1, mm_Ev mm_ct mm_CM (d + 13) 195 [.ref 598] (MX L t s l) (some (.int (iI r.1)), MX L t s1 l1) ∧ MCr f n k pl nm tn b s s1 l l1 r := by
  have hc : (mm_CM 195).2.2.2.2.2.2.2 = mm_cf cd_195 := by rw [cm_195]; rfl
  refine ev_xsl ?_
  refine ev_to (mx := 6) (by rw [cm_195]; decide) (by rw [cm_195]; rfl) (by show 1 ≤ _; decide) ?_
  show mm_wp _ _ (0, [some (.ref 598), none, none, none, none, none], [], MX L t s l) (fun res => ∃ s1 l1, res = (some (.int (iI r.1)), MX L t s1 l1) ∧ MCr f n k pl nm tn b s s1 l l1 r)
  obtain ⟨q9, hq9⟩ : ∃ q9, s 598 9 = q9 := ⟨_, rfl⟩
  obtain ⟨u9, hu9⟩ : ∃ u9, s 598 10 = u9 := ⟨_, rfl⟩
  obtain ⟨w9, hw9⟩ : ∃ w9, l 598 11 = w9 := ⟨_, rfl⟩
  have hk9 := MSt.tk h
  rw [hq9, hu9, hw9] at hk9
  have ha9 := tkR_a hk9
  unfold tkA at ha9
  have htn := hG.2.2.2.1
  have hz1 := h.2.1.1
  have hkr := hG.2.2.2.2.2.2 z.1
  have hk43 := GTX_43 hG
  have hG0 := hGm.2.1
  obtain ⟨x21, hx21⟩ : ∃ x, s 598 21 = x := ⟨_, rfl⟩
  rw [hx21] at hON
  have hON0 := hON
  unfold MON at hON
  have hb1 := bI_01 (0 ≤ rcHas G 1 0)
  have hb2 := bI_01 (0 ≤ rcHas G 2 0)
  have hb3 := bI_01 (0 ≤ rcHas G 3 0)
  refine wi_a1 hc rfl rfl ?_
  have hSo : mm_Ev mm_ct mm_CM (0 + 3) 187 [.ref 598] (MX L t s l) (some (.int (iI (soO (k z.1)))), MX L t s l) := sp_187 hk9 hq9 hw9
  rw [hs9] at hSo
  refine wp_cv (b := 598) (As := []) (r := []) hc rfl (by rw [cm_187]; rfl) rfl (Nat.le_of_ble_eq_true rfl) (show 598 < 621 by decide) (by rw [cm_187]; rfl) (ev_mono hSo (by omega)) ?_
  show mm_wp _ _ (4, [some (.ref 598), none, none, none, none, none], [.int (iI 9)], MX L t s l) _
  refine wi_is1 (L' := [some (.ref 598), some (.int (iI 9)), none, none, none, none]) hc rfl (Nat.le_of_ble_eq_true rfl) rfl ?_
  refine wi_i1 hc rfl rfl ?_
  refine wi_zge hc rfl ⟨by decide, by decide⟩ (fun _ => ?_) (fun q => absurd q (by decide))
  refine wi_i1 hc rfl rfl ?_
  refine wi_ic hc rfl ?_
  refine wi_ic hc rfl ?_
  have hIn : mm_Ev mm_ct mm_CM (0 + 1) 148 [.int (iI 9), .int (iI 1), .int (iI 3)] (MX L t s l) (some (.int (iI (bI ((1 : Int) ≤ 9 ∧ (9 : Int) ≤ 3)))), MX L t s l) := sp_148 ⟨by decide, by decide⟩ ⟨by decide, by decide⟩ ⟨by decide, by decide⟩
  rw [bI_f (p := (1 : Int) ≤ 9 ∧ (9 : Int) ≤ 3) (by decide)] at hIn
  refine wp_cs (As := [.int (iI 9), .int (iI 1), .int (iI 3)]) (r := []) hc rfl (by rw [cm_148]; rfl) rfl (Nat.le_of_ble_eq_true rfl) (ev_mono hIn (by omega)) ?_
  show mm_wp _ _ (17, [some (.ref 598), some (.int (iI 9)), none, none, none, none], [.int (iI 0)], MX L t s l) _
  refine wi_is1 (L' := [some (.ref 598), some (.int (iI 9)), some (.int (iI 0)), none, none, none]) hc rfl (Nat.le_of_ble_eq_true rfl) rfl ?_
  refine wi_i1 hc rfl rfl ?_
  refine wi_zeq hc rfl ⟨by decide, by decide⟩ (fun _ => ?_) (fun q => absurd q (by decide))
  refine wi_a1 hc rfl rfl ?_
  refine wi_gr (w := 601) hc rfl rfl (by decide) (Nat.le_of_ble_eq_true rfl) rfl ?_
  refine wi_a1 hc rfl rfl ?_
  refine wi_gfv (kz := 12) rfl hc rfl rfl (by decide) (Nat.le_of_ble_eq_true rfl) rfl (v := b) (MSt.rb h) ?_
  refine wi_ildv (N := 2820) hc rfl rfl (by decide) (by decide) (by omega) (by omega) (v := G 0) (hGm.1) ?_
  refine wi_is1 (L' := [some (.ref 598), some (.int (iI 9)), some (.int (iI 0)), some (.int (iI (G 0))), none, none]) hc rfl (Nat.le_of_ble_eq_true rfl) rfl ?_
  refine wi_i1 hc rfl rfl ?_
  refine wi_bi hc rfl rfl ?_
  refine wi_cne hc rfl ⟨by omega, by omega⟩ ⟨by decide, by decide⟩ (fun h3_ => ?_) (fun h3_ => ?_)
  · refine wi_i1 hc rfl rfl ?_
    refine wi_zeq hc rfl ⟨by decide, by decide⟩ (fun _ => ?_) (fun q => absurd q (by decide))
    refine wi_a1 hc rfl rfl ?_
    refine wi_i1 hc rfl rfl ?_
    refine wi_pf (kz := 20) rfl hc rfl rfl (by decide) (Nat.le_of_ble_eq_true rfl) rfl (Nat.le_of_ble_eq_true rfl) ⟨rfl, rfl⟩ rfl ?_
    obtain ⟨s1_, es1_⟩ : ∃ q, q = up s 598 20 9 := ⟨_, rfl⟩
    rw [← es1_]
    refine wi_a1 hc rfl rfl ?_
    have hMs1_ : MSt f n k pl nm tn b s1_ l z P 0 w := by rw [es1_]; exact h.s20 (by decide)
    have hFs1_ : MCf b s s1_ l l := (show MCf b s s l l from MCf.rf).tr (by rw [es1_]; exact MCf.u (by decide))
    have hnx9 := GTX_nx hG hz1.1 hz1.2 (by rcases soO_s (k z.1) with ⟨e, -⟩ | ⟨-, -, -, e⟩ <;> omega)
    obtain ⟨sx, lx, hEx, hMx, hFx⟩ := nx_166 (d := 0) (L := L) (t := t) (c := 0) hG hMs1_ hnx9
    refine wp_cv (b := 598) (As := []) (r := []) hc rfl (by rw [cm_166]; rfl) rfl (Nat.le_of_ble_eq_true rfl) (show 598 < 621 by decide) (by rw [cm_166]; rfl) (ev_mono hEx (by omega)) ?_
    have hCx : MCf b s sx l lx := hFs1_.tr ((hFx.fn9 (lo := b + 97) (by omega)).c (by omega))
    have h20 : sx 598 20 = 9 := by rw [hFx.2.1 20 (by decide) (by decide) (by decide), es1_, up_at]
    have h21 : sx 598 21 = x21 + 0 := by rw [hFx.2.1 21 (by decide) (by decide) (by decide), es1_, up_k (by decide), hx21]; omega
    have h601 : ∀ j, j < b + 97 → sx 601 j = s 601 j := fun j a => by rw [hFx.2.2.1 j (by omega), es1_, up_cc (by decide)]
    have hGx : MG b (sx 601) G := hGm.f rfl (fun j a => h601 j (by omega))
    show mm_wp _ _ (80, [some (.ref 598), some (.int (iI 9)), some (.int (iI 0)), some (.int (iI (G 0))), none, none], [], MX L t sx lx) _
    refine wi_a1 hc rfl rfl ?_
    refine wi_gfv (kz := 12) rfl hc rfl rfl (by decide) (Nat.le_of_ble_eq_true rfl) rfl (v := b) (MSt.rb hMx) ?_
    refine wi_ic hc rfl ?_
    refine wi_add hc rfl ?_
    refine wi_ic hc rfl ?_
    refine wi_i1 hc rfl rfl ?_
    refine wi_mul hc rfl ?_
    refine wi_add hc rfl ?_
    refine wi_is2 (L' := [some (.ref 598), some (.int (iI 9)), some (.int (iI 0)), some (.int (iI (G 0))), some (.int (iI ((b + 1) + (4 * (G 0))))), none]) hc rfl (Nat.le_of_ble_eq_true rfl) rfl ?_
    refine wi_a1 hc rfl rfl ?_
    refine wi_i1 hc rfl rfl ?_
    refine wi_i2 hc rfl rfl ?_
    obtain ⟨f1, y1, hy1⟩ : ∃ f y, rcBody k nm G 9 (rpNx z) = (f, y) := ⟨_, _, rfl⟩
    have hF1 : 0 ≤ f1 ∧ f1 ≤ 5 := rpF_Bo hy1
    obtain ⟨sy, ly, hEy, hRy, hNy⟩ := bd_194_9 (d := 0) (L := L) (t := t) hG hMx b0 ⟨by show 0 ≤ z.2.2; omega, by show z.2.2 ≤ z.1 + 1; omega⟩ (a9 := (b + 1) + (4 * (G 0))) ⟨by omega, by omega⟩ hGx (fun q q0 q1 => ⟨(hGb.2.2 q q0 q1).1.1, (hGb.2.2 q q0 q1).1.2, (hGb.2.2 q q0 q1).2.1⟩) hy1
    refine wp_cv (b := 598) (As := [.int (iI 9), .int (iI ((b + 1) + (4 * (G 0))))]) (r := []) hc rfl (by rw [cm_194]; rfl) rfl (Nat.le_of_ble_eq_true rfl) (show 598 < 621 by decide) (by rw [cm_194]; rfl) (ev_mono hEy (by omega)) ?_
    obtain ⟨yy, Q1, o1, w1, hx1, hx2, hx3, hx4⟩ := hRy
    show mm_wp _ _ (99, [some (.ref 598), some (.int (iI 9)), some (.int (iI 0)), some (.int (iI (G 0))), some (.int (iI ((b + 1) + (4 * (G 0))))), none], [.int (iI f1)], MX L t sy ly) _
    refine wi_is2 (L' := [some (.ref 598), some (.int (iI 9)), some (.int (iI 0)), some (.int (iI (G 0))), some (.int (iI ((b + 1) + (4 * (G 0))))), some (.int (iI f1))]) hc rfl (Nat.le_of_ble_eq_true rfl) rfl ?_
    refine wi_i2 hc rfl rfl ?_
    refine wi_zeq hc rfl ⟨by omega, by omega⟩ (fun h5_ => ?_) (fun h5_ => ?_)
    · have e9 : f1 = 0 := h5_
      subst e9
      obtain ⟨hx5, hx6⟩ := hx3 rfl
      rw [hx5, hx6] at hx2
      have hx2 : MSt f n k pl nm tn b sy ly y1 Q1 0 w1 := hx2
      have hNy := hNy rfl
      obtain ⟨q8, hq8⟩ : ∃ q, sy 598 9 = q := ⟨_, rfl⟩
      have hk8 := MSt.tk hx2
      rw [hq8] at hk8
      have ha8 := tkR_a hk8
      unfold tkA at ha8
      have hz8 := hx2.2.1.1
      have hkr8 := hG.2.2.2.2.2.2 y1.1
      refine wi_a1 hc rfl rfl ?_
      refine wi_gr (w := 601) hc rfl rfl (by decide) (Nat.le_of_ble_eq_true rfl) rfl ?_
      refine wi_i2 hc rfl rfl ?_
      refine wi_i1 hc rfl rfl ?_
      refine wi_ist (N := 2820) hc rfl rfl (by decide) (by decide) (by omega) (by omega) ?_
      obtain ⟨s2_, es2_⟩ : ∃ q, q = up sy 601 ((b + 1) + (4 * (G 0))) 9 := ⟨_, rfl⟩
      rw [← es2_]
      refine wi_a1 hc rfl rfl ?_
      refine wi_gr (w := 601) hc rfl rfl (by decide) (Nat.le_of_ble_eq_true rfl) rfl ?_
      refine wi_a1 hc rfl rfl ?_
      refine wi_gfv (kz := 12) rfl hc rfl rfl (by decide) (Nat.le_of_ble_eq_true rfl) rfl (v := b) (((congrFun (congrFun es2_ _) _).trans (up_c (by decide))).trans (MSt.rb hx2)) ?_
      refine wi_dup2 hc rfl ?_
      refine wi_ildv (N := 2820) hc rfl rfl (by decide) (by decide) (by omega) (by omega) (v := G 0) (((congrFun (congrFun es2_ _) _).trans (up_k (by omega))).trans ((hx4.2.2.1 b (by omega)).trans hGx.1)) ?_
      refine wi_ic hc rfl ?_
      refine wi_add hc rfl ?_
      refine wi_ist (N := 2820) hc rfl rfl (by decide) (by decide) (by omega) (by omega) ?_
      obtain ⟨s3_, es3_⟩ : ∃ q, q = up s2_ 601 b ((G 0) + 1) := ⟨_, rfl⟩
      rw [← es3_]
      have hMc : MSt f n k pl nm tn b s3_ ly y1 Q1 0 w1 := by rw [es3_]; exact MSt.nw (by rw [es2_]; exact hx2.nw (by omega)) (by omega)
      have hCc : MCf b s s3_ l ly := (hCx.tr (hx4.c (by omega))).tr ((show MCf b sy s2_ ly ly by rw [es2_]; exact MCf.w9 (by omega)).tr (by rw [es3_]; exact MCf.w9 (Int.le_refl _)))
      have hT9 : ∀ j, s3_ 601 j = if j = b then G 0 + 1 else if j = (b + 1) + (4 * (G 0)) then 9 else sy 601 j := fun j => by rw [es3_, up_ite, es2_, up_ite]
      have h21c : s3_ 598 21 = x21 + 0 := by rw [es3_, up_cc (by decide), es2_, up_cc (by decide), hx4.2.1 21 (by decide) (by decide) (by decide)]; exact h21
      refine wi_a1 hc rfl rfl ?_
      refine wi_gfv (kz := 9) rfl hc rfl rfl (by decide) (Nat.le_of_ble_eq_true rfl) rfl (v := q8) ((by rw [es3_, up_cc (by decide), es2_, up_cc (by decide)]; exact hq8 : s3_ 598 9 = q8)) ?_
      refine wi_bi hc rfl rfl ?_
      refine wi_ceq hc rfl ⟨by omega, by omega⟩ ⟨by decide, by decide⟩ (fun h6_ => ?_) (fun h6_ => ?_)
      · refine wi_a1 hc rfl rfl ?_
        have hnx8 := GTX_nx hG hz8.1 hz8.2 (by omega)
        obtain ⟨sz, lz, hEz, hMz, hFz⟩ := nx_166 (d := 0) (L := L) (t := t) (c := 0) hG hMc hnx8
        refine wp_cv (b := 598) (As := []) (r := []) hc rfl (by rw [cm_166]; rfl) rfl (Nat.le_of_ble_eq_true rfl) (show 598 < 621 by decide) (by rw [cm_166]; rfl) (ev_mono hEz (by omega)) ?_
        have hCz : MCf b s sz l lz := hCc.tr ((hFz.fn9 (lo := b + 97) (by omega)).c (by omega))
        show mm_wp _ _ (145, [some (.ref 598), some (.int (iI 9)), some (.int (iI 0)), some (.int (iI (G 0))), some (.int (iI ((b + 1) + (4 * (G 0))))), some (.int (iI 0))], [], MX L t sz lz) _
        refine wi_ic hc rfl ?_
        refine wi_ri hc rfl (by rw [cm_195]; rfl) ?_
        have hR9 : rpB (rpB (rcNum k nm G 9 (rpNx z)) (rcMore k nm 9)) (rcWd k 39) = (0, rpNx y1) := by
          rw [← rcBody_s (by decide), hy1]
          rw [rpB_z, rcWd, if_pos (by omega)]
        have hr9 := rcCl_go hs9 (by decide) (fun e => absurd e.1 (by decide)) (by omega) hR9
        rw [hr] at hr9
        subst hr9
        have hT8 : ∀ j, j < b + 97 → sz 601 j = if j = b then G 0 + 1 else if j = (b + 1) + (4 * (G 0)) then 9 else sy 601 j := fun j a => by rw [hFz.2.2.1 j (by omega), hT9]
        refine ⟨sz, lz, rfl, rpNx y1, Q1, 0, w1, rfl, hMz, fun _ => ⟨rfl, rfl, ?_, ?_⟩, hCz⟩
        · refine hGm.add (so := 9) (z := rpNx z) (y := rpNx y1) (by omega) ⟨by decide, by decide⟩ (fun j j0 j1 => ?_) (by rw [hT8 b (by omega), if_pos rfl]) (by rw [hT8 _ (by omega), if_neg (by omega), if_pos rfl]) ?_
          · rw [hT8 j (by omega), if_neg j0, if_neg (by omega), hx4.2.2.1 j (by omega), h601 j (by omega)]
          · obtain ⟨n1, n2, n3⟩ := hNy
            refine ⟨fun e => ?_, fun e => ?_, fun e => ?_⟩
            · rw [hT8 _ (by omega), if_neg (by omega), if_neg (by omega)]; exact n1 e
            · rw [hT8 _ (by omega), if_neg (by omega), if_neg (by omega)]; exact n2 e
            · rw [hT8 _ (by omega), if_neg (by omega), if_neg (by omega)]; exact n3 e
        · refine hON0.add hG0.1 (fun e => absurd e (by decide)) ?_
          rw [hFz.2.1 21 (by decide) (by decide) (by decide), h21c]
          rfl
      · refine wi_ic hc rfl ?_
        refine wi_ri hc rfl (by rw [cm_195]; rfl) ?_
        have hR9 : rpB (rpB (rcNum k nm G 9 (rpNx z)) (rcMore k nm 9)) (rcWd k 39) = (1, y1) := by
          rw [← rcBody_s (by decide), hy1]
          rw [rpB_z, rcWd, if_neg (by omega)]
        have hr9 := rcCl_go hs9 (by decide) (fun e => absurd e.1 (by decide)) (by omega) hR9
        rw [hr] at hr9
        subst hr9
        exact ⟨s3_, ly, rfl, y1, Q1, 0, w1, rfl, hMc, fun e => absurd (show (1 : Int) = 0 from e) (by decide), hCc⟩
    · skip
      refine wi_i2 hc rfl rfl ?_
      refine wi_ri hc rfl (by rw [cm_195]; rfl) ?_
      have hR9 : rpB (rpB (rcNum k nm G 9 (rpNx z)) (rcMore k nm 9)) (rcWd k 39) = (f1, y1) := by
        rw [← rcBody_s (by decide), hy1]
        exact rpB_n (r := (f1, y1)) h5_
      have hr9 := rcCl_go hs9 (by decide) (fun e => absurd e.1 (by decide)) (by omega) hR9
      rw [hr] at hr9
      subst hr9
      exact ⟨sy, ly, rfl, yy, Q1, o1, w1, hx1, hx2, fun e => absurd e h5_, hCx.tr (hx4.c (by omega))⟩
  · refine wi_bi hc rfl rfl ?_
    refine wi_ri hc rfl (by rw [cm_195]; rfl) ?_
    have hr9 : r = (6, z, G) := by rw [← hr, rcCl_6 hs9 (by decide) (fun e => absurd e.1 (by decide)) (by omega)]
    subst hr9
    exact ⟨s, l, rfl, z, P, 0, w, rfl, h, fun e => absurd (show (6 : Int) = 0 from e) (by decide), MCf.rf⟩
