/-! The model reads a text. -/
theorem mc_all {d L t : Nat} {s l : Nat → Int → Int} {f : Int → Int} {n : Int} {kd k pl nm : Int → Int} {tn b : Int} {z : rpS} {P : List Int} {w : Int} (hG : GTX f n kd k pl nm tn) (h : MSt f n k pl nm tn b s l z P 0 w) (b0 : 0 ≤ b ∧ b ≤ 2115) (hI : 0 ≤ z.2.2 ∧ z.2.2 ≤ z.1) {G : Int → Int} (hGm : MG b (s 601) G) (hGb : GTb G z.2.2) (hON : MON (s 598 21) G) {r : rcR} (hr : rcCl k nm z G = r) : ∃ s1 l1, mm_Ev mm_ct mm_CM (d + 13) 195 [.ref 598] (MX L t s l) (some (.int (iI r.1)), MX L t s1 l1) ∧ MCr f n k pl nm tn b s s1 l l1 r := by
  rcases soO_s (k z.1) with ⟨e, -⟩ | ⟨e0, e1, e2, -⟩
  · exact mc_195_x hG h b0 hI hGm hGb hON hr e
  · rcases (by omega : soO (k z.1) = 0 ∨ soO (k z.1) = 1 ∨ soO (k z.1) = 2 ∨ soO (k z.1) = 3 ∨ soO (k z.1) = 4 ∨ soO (k z.1) = 5 ∨ soO (k z.1) = 6 ∨ soO (k z.1) = 7 ∨ soO (k z.1) = 8 ∨ soO (k z.1) = 9) with e | e | e | e | e | e | e | e | e | e
    · exact mc_195_0 hG h b0 hI hGm hGb hON hr e
    · exact mc_195_1 hG h b0 hI hGm hGb hON hr e
    · exact mc_195_2 hG h b0 hI hGm hGb hON hr e
    · exact mc_195_3 hG h b0 hI hGm hGb hON hr e
    · exact mc_195_4 hG h b0 hI hGm hGb hON hr e
    · exact mc_195_5 hG h b0 hI hGm hGb hON hr e
    · exact mc_195_6 hG h b0 hI hGm hGb hON hr e
    · exact mc_195_7 hG h b0 hI hGm hGb hON hr e
    · exact mc_195_8 hG h b0 hI hGm hGb hON hr e
    · exact mc_195_9 hG h b0 hI hGm hGb hON hr e
theorem plN_ex (g : Int → Int) : ∀ m : Nat, ∃ P : List Int, P.length = m ∧ plN g P
  | 0 => ⟨[], rfl, trivial⟩
  | m + 1 => by
    obtain ⟨P, h1, h2⟩ := plN_ex g m
    exact ⟨g P.length :: P, by rw [List.length_cons, h1], rfl, h2⟩
def MQf (b : Int) (s s1 l l1 : Nat → Int → Int) : Prop := (∀ q, q ≠ 598 → q ≠ 601 → q ≠ 603 → s1 q = s q) ∧ (∀ q, ¬ (7 ≤ q ∧ q ≤ 12) → q ≠ 14 → ¬ (17 ≤ q ∧ q ≤ 21) → s1 598 q = s 598 q) ∧ (∀ j, j < b → s1 601 j = s 601 j) ∧ (∀ q, q ≠ 598 → l1 q = l q) ∧ ∀ q, q ≠ 11 → l1 598 q = l 598 q
theorem MQf.tr {b : Int} {s s1 s2 l l1 l2 : Nat → Int → Int} (h : MQf b s s1 l l1) (g : MCf b s1 s2 l1 l2) : MQf b s s2 l l2 := ⟨fun q a1 a2 a3 => (g.1 q a1 a2 a3).trans (h.1 q a1 a2 a3), fun q a1 a2 a3 => (g.2.1 q (by omega) a2 a3).trans (h.2.1 q a1 a2 a3), fun j a => (g.2.2.1 j a).trans (h.2.2.1 j a), fun q a => (g.2.2.2.1 q a).trans (h.2.2.2.1 q a), fun q a => (g.2.2.2.2 q a).trans (h.2.2.2.2 q a)⟩
/-- the first token -/
theorem st_166 {d L t : Nat} {f : Int → Int} {n : Int} {kd k pl nm : Int → Int} {tn b : Int} {s l : Nat → Int → Int} (hG : GTX f n kd k pl nm tn) (a1 : s 602 = f) (a2 : s 598 4 = n) (a3 : s 598 12 = b) (t3 : s 598 7 = 0) (c0 : s 598 14 = 0) (h17 : 0 ≤ s 598 17) (ho : s 598 18 = 0) : ∃ s1 l1, mm_Ev mm_ct mm_CM (d + 3) 166 [.ref 598] (MX L t s l) (none, MX L t s1 l1) ∧ (∃ P w, MSt f n k pl nm tn b s1 l1 (0, fun _ => 0, 0) P 0 w) ∧ FR b 2000 s s1 l l1 := by
  obtain ⟨⟨hg1, hg2, hg3, hg4, hg5⟩, hf, hn, htn, hkk, -, -⟩ := hG
  obtain ⟨s1, l1, e, e9, q, u, w9, h1, h2, h3⟩ := sp_166 (d := d) (L := L) (t := t) a1 hf a2 hn t3 ⟨Int.le_refl _, by omega⟩
  rw [← hg3] at h1 h3
  obtain ⟨P, p1, p2⟩ := plN_ex (s1 603) (s 598 17).toNat
  refine ⟨s1, l1, e, ⟨P, s 598 19, ⟨(h1.1 602 (by decide)).trans a1, (h1.r (by decide) (by decide) (by decide) (by decide)).trans a2, (h1.r (by decide) (by decide) (by decide) (by decide)).trans a3⟩, ⟨⟨Int.le_refl _, by show (0 : Int) < tn; omega⟩, h1.r8, ?_, ?_⟩, ⟨(h1.r (by decide) (by decide) (by decide) (by decide)).trans c0, fun j j0 j1 => absurd j1 (by show ¬ j < 0; omega)⟩, ⟨?_, p2⟩, (h1.r (by decide) (by decide) (by decide) (by decide)).trans ho, h1.r (by decide) (by decide) (by decide) (by decide)⟩, ⟨fun q a1 a2 a3 => h1.1 q a1, fun q a1 a2 a3 => h1.r (by omega) (by omega) (by omega) (by omega), fun j a => by rw [h1.1 601 (by decide)], fun q a => h2.1 q a, fun q a => by rw [h2.2 q, if_neg a]⟩⟩
  · rw [h1.r7]
    show e9 = if (0 : Int) + 1 < tn then lastP f n (pl 0) + 1 else n
    by_cases g : (0 : Int) + 1 < tn
    · obtain ⟨⟨-, g2, -⟩, -⟩ := hg2 0 (Int.le_refl _) g
      rw [if_pos g]
      rcases h3 with h3 | h3
      · omega
      · exact h3.2.1
    · have e1 : pl 0 = n := by rw [show (0 : Int) = tn - 1 by omega]; exact hg4
      rw [if_neg g]
      rcases h3 with h3 | h3
      · exact h3.2.1
      · omega
  · rw [h1.r9, h1.r10, h2.r11]
    show tkR q u w9 (k 0) (nm 0)
    rw [hkk 0 (Int.le_refl _) (by omega)]
    by_cases g : (0 : Int) + 1 < tn
    · obtain ⟨⟨-, g2, -, g4, g5⟩, -⟩ := hg2 0 (Int.le_refl _) g
      rcases h3 with h3 | h3
      · omega
      · rw [g4, g5]; exact h3.2.2
    · have e1 : pl 0 = n := by rw [show (0 : Int) = tn - 1 by omega]; exact hg4
      have e2 : kd 0 = 43 := by rw [show (0 : Int) = tn - 1 by omega]; exact hg5
      rcases h3 with h3 | h3
      · exact Or.inl ⟨h3.2.2, e2⟩
      · omega
  · rw [h1.r (by decide) (by decide) (by decide) (by decide), p1]; omega
theorem rcF_r {k nm G : Int → Int} {z y : rpS} {G' : Int → Int} {f : Int} (h : rcCl k nm z G = (f, y, G')) : 0 ≤ f ∧ f ≤ 6 := by
  unfold rcCl at h
  split at h
  · cases h; decide
  · split at h
    · cases h; decide
    · split at h
      · cases h; decide
      · obtain ⟨f', u, hu⟩ : ∃ f' u, rcBody k nm G (soO (k z.1)) (rpNx z) = (f', u) := ⟨_, _, rfl⟩
        have hb := rpF_Bo hu
        have key : rpF (rpB (rcBody k nm G (soO (k z.1)) (rpNx z)) (rcWd k 39)) := rpF_B (by rw [hu]; exact hb) (fun _ => rpF_Wd)
        have e := congrArg Prod.fst h
        have e : (rpB (rcBody k nm G (soO (k z.1)) (rpNx z)) (rcWd k 39)).1 = f := e
        have k1 := key.1
        have k2 := key.2
        omega
theorem rd_196 {d L t : Nat} {s l : Nat → Int → Int} {f : Int → Int} {n : Int} {kd k pl nm : Int → Int} {tn : Int} (hG : GTX f n kd k pl nm tn) (hT : s 602 = f) (hN : s 598 4 = n) (h17 : 0 ≤ s 598 17) {a5 : Int} (h5 : s 599 5 = a5) (ha : 0 ≤ a5 ∧ a5 < 4) {r : rcR} (hr : rcTx k nm = r) : ∃ s1 l1, mm_Ev mm_ct mm_CM (d + 14) 196 [.ref 598] (MX L t s l) (some (.int (iI r.1)), MX L t s1 l1) ∧ ∃ (y : rpS) (Q : List Int) (o' w' : Int), y.1 = r.2.1.1 ∧ MSt f n k pl nm tn (705 * a5) s1 l1 y Q o' w' ∧ (r.1 = 0 → y = r.2.1 ∧ o' = 0 ∧ MG (705 * a5) (s1 601) r.2.2) ∧ MQf (705 * a5) s s1 l l1 := by
  have hc : (mm_CM 196).2.2.2.2.2.2.2 = mm_cf cd_196 := by rw [cm_196]; rfl
  refine ev_xsl ?_
  refine ev_to (mx := 2) (by rw [cm_196]; decide) (by rw [cm_196]; rfl) (by show 1 ≤ _; decide) ?_
  show mm_wp _ _ (0, [some (.ref 598), none], [], MX L t s l) (fun res => ∃ s1 l1, res = (some (.int (iI r.1)), MX L t s1 l1) ∧ ∃ (y : rpS) (Q : List Int) (o' w' : Int), y.1 = r.2.1.1 ∧ MSt f n k pl nm tn (705 * a5) s1 l1 y Q o' w' ∧ (r.1 = 0 → y = r.2.1 ∧ o' = 0 ∧ MG (705 * a5) (s1 601) r.2.2) ∧ MQf (705 * a5) s s1 l l1)
  have htn := GTX_tn hG
  have hk43 := GTX_43 hG
  refine wi_a1 hc rfl rfl ?_
  refine wi_si hc rfl rfl ?_
  refine wi_a1 hc rfl rfl ?_
  refine wi_gr (w := 599) hc rfl rfl (by decide) (Nat.le_of_ble_eq_true rfl) rfl ?_
  refine wi_ic hc rfl ?_
  refine wi_ildv (N := 3642) hc rfl rfl (by decide) (by decide) (by omega) (by omega) (v := a5) (h5) ?_
  refine wi_mul hc rfl ?_
  refine wi_pf (kz := 12) rfl hc rfl rfl (by decide) (Nat.le_of_ble_eq_true rfl) rfl (Nat.le_of_ble_eq_true rfl) ⟨rfl, rfl⟩ rfl ?_
  obtain ⟨s1_, es1_⟩ : ∃ q, q = up s 598 12 (705 * a5) := ⟨_, rfl⟩
  rw [← es1_]
  refine wi_a1 hc rfl rfl ?_
  refine wi_gr (w := 601) hc rfl rfl (by decide) (Nat.le_of_ble_eq_true rfl) rfl ?_
  refine wi_a1 hc rfl rfl ?_
  refine wi_gfv (kz := 12) rfl hc rfl rfl (by decide) (Nat.le_of_ble_eq_true rfl) rfl (v := 705 * a5) ((congrFun (congrFun es1_ _) _).trans (up_e (by omega))) ?_
  refine wi_ic hc rfl ?_
  refine wi_ist (N := 2820) hc rfl rfl (by decide) (by decide) (by omega) (by omega) ?_
  obtain ⟨s2_, es2_⟩ : ∃ q, q = up s1_ 601 (705 * a5) 0 := ⟨_, rfl⟩
  rw [← es2_]
  refine wi_a1 hc rfl rfl ?_
  refine wi_ic hc rfl ?_
  refine wi_pf (kz := 14) rfl hc rfl rfl (by decide) (Nat.le_of_ble_eq_true rfl) rfl (Nat.le_of_ble_eq_true rfl) ⟨rfl, rfl⟩ rfl ?_
  obtain ⟨s3_, es3_⟩ : ∃ q, q = up s2_ 598 14 0 := ⟨_, rfl⟩
  rw [← es3_]
  refine wi_a1 hc rfl rfl ?_
  refine wi_ic hc rfl ?_
  refine wi_pf (kz := 18) rfl hc rfl rfl (by decide) (Nat.le_of_ble_eq_true rfl) rfl (Nat.le_of_ble_eq_true rfl) ⟨rfl, rfl⟩ rfl ?_
  obtain ⟨s4_, es4_⟩ : ∃ q, q = up s3_ 598 18 0 := ⟨_, rfl⟩
  rw [← es4_]
  refine wi_a1 hc rfl rfl ?_
  refine wi_ic hc rfl ?_
  refine wi_pf (kz := 21) rfl hc rfl rfl (by decide) (Nat.le_of_ble_eq_true rfl) rfl (Nat.le_of_ble_eq_true rfl) ⟨rfl, rfl⟩ rfl ?_
  obtain ⟨s5_, es5_⟩ : ∃ q, q = up s4_ 598 21 0 := ⟨_, rfl⟩
  rw [← es5_]
  refine wi_a1 hc rfl rfl ?_
  refine wi_ic hc rfl ?_
  refine wi_pf (kz := 7) rfl hc rfl rfl (by decide) (Nat.le_of_ble_eq_true rfl) rfl (Nat.le_of_ble_eq_true rfl) ⟨rfl, rfl⟩ rfl ?_
  obtain ⟨s6_, es6_⟩ : ∃ q, q = up s5_ 598 7 0 := ⟨_, rfl⟩
  rw [← es6_]
  refine wi_a1 hc rfl rfl ?_
  have f6 : ∀ j, s6_ 598 j = if j = 7 then 0 else if j = 21 then 0 else if j = 18 then 0 else if j = 14 then 0 else if j = 12 then 705 * a5 else s 598 j := fun j => by rw [es6_, up_ite, es5_, up_ite, es4_, up_ite, es3_, up_ite, es2_, up_cc (by decide), es1_, up_ite]
  have fT : ∀ j, s6_ 601 j = if j = 705 * a5 then 0 else s 601 j := fun j => by rw [es6_, up_cc (by decide), es5_, up_cc (by decide), es4_, up_cc (by decide), es3_, up_cc (by decide), es2_, up_ite, es1_, up_cc (by decide)]
  have fo : ∀ q, q ≠ 598 → q ≠ 601 → s6_ q = s q := fun q a1 a2 => by rw [es6_, up_cc a1, es5_, up_cc a1, es4_, up_cc a1, es3_, up_cc a1, es2_, up_cc a2, es1_, up_cc a1]
  obtain ⟨sx, lx, hEx, ⟨P, w, hMx⟩, hFx⟩ := st_166 (d := 0) (L := L) (t := t) (b := 705 * a5) (s := s6_) (l := l) hG ((fo 602 (by decide) (by decide)).trans hT) (by rw [f6]; exact hN) (by rw [f6]; rfl) (by rw [f6]; rfl) (by rw [f6]; rfl) (by rw [f6]; exact h17) (by rw [f6]; rfl)
  refine wp_cv (b := 598) (As := []) (r := []) hc rfl (by rw [cm_166]; rfl) rfl (Nat.le_of_ble_eq_true rfl) (show 598 < 621 by decide) (by rw [cm_166]; rfl) (ev_mono hEx (by omega)) ?_
  have hTx : ∀ j, j < 705 * a5 + 97 → sx 601 j = if j = 705 * a5 then 0 else s 601 j := fun j a => by rw [hFx.2.2.1 j (by omega), fT]
  have hQx : MQf (705 * a5) s sx l lx := ⟨fun q a1 a2 a3 => (hFx.1 q a1 a2 a3).trans (fo q a1 a2), fun q a1 a2 a3 => by rw [hFx.2.1 q (by omega) a2 (by omega), f6, if_neg (by omega), if_neg (by omega), if_neg (by omega), if_neg (by omega), if_neg (by omega)], fun j a => by rw [hTx j (by omega), if_neg (by omega)], hFx.2.2.2.1, hFx.2.2.2.2⟩
  have hGx : MG (705 * a5) (sx 601) (fun _ => 0) := ⟨by rw [hTx _ (by omega), if_pos rfl], ⟨Int.le_refl _, by decide⟩, fun q q0 q1 => absurd q1 (by show ¬ q < 0; omega)⟩
  have hOx : MON (sx 598 21) (fun _ => 0) := by rw [hFx.2.1 21 (by decide) (by decide) (by decide), f6]; rfl
  show mm_wp _ _ (48, [some (.ref 598), none], [], MX L t sx lx) _
  have loop48_ : ∀ n9 : Nat, ∀ (z1 : rpS) (P : List Int) (w1 : Int) (G : Int → Int) (s7 l7 : Nat → Int → Int) (o1 : Option Value), n9 + G 0 = 26 → MSt f n k pl nm tn (705 * a5) s7 l7 z1 P 0 w1 → MG (705 * a5) (s7 601) G → GTb G z1.2.2 → MON (s7 598 21) G → (0 ≤ z1.2.2 ∧ z1.2.2 ≤ z1.1) → MQf (705 * a5) s s7 l l7 → rcAll k nm n9 z1 G = r → mm_wp (mm_Ev mm_ct mm_CM (d + 13)) 196 (48, [some (.ref 598), o1], [], MX L t s7 l7) (fun res => ∃ s1 l1, res = (some (.int (iI r.1)), MX L t s1 l1) ∧ ∃ (y : rpS) (Q : List Int) (o' w' : Int), y.1 = r.2.1.1 ∧ MSt f n k pl nm tn (705 * a5) s1 l1 y Q o' w' ∧ (r.1 = 0 → y = r.2.1 ∧ o' = 0 ∧ MG (705 * a5) (s1 601) r.2.2) ∧ MQf (705 * a5) s s1 l l1) := by
    refine wf_ind ?_
    intro n9 ih z1 P w1 G s7 l7 o1 hn hM hGm hGb hON hI hQ hR
    have hG0 := hGm.2.1
    obtain ⟨n8, rfl⟩ : ∃ q, n9 = q + 1 := ⟨n9 - 1, by omega⟩
    rw [rcAll] at hR
    obtain ⟨q9, hq9⟩ : ∃ q9, s7 598 9 = q9 := ⟨_, rfl⟩
    have hk9 := MSt.tk hM
    rw [hq9] at hk9
    have ha9 := tkR_a hk9
    unfold tkA at ha9
    have hz1 := hM.2.1.1
    refine wi_a1 hc rfl rfl ?_
    refine wi_gfv (kz := 9) rfl hc rfl rfl (by decide) (Nat.le_of_ble_eq_true rfl) rfl (v := q9) (hq9) ?_
    refine wi_zeq hc rfl ⟨by omega, by omega⟩ (fun h1_ => ?_) (fun h1_ => ?_)
    · rw [if_pos (by omega)] at hR
      refine wi_ic hc rfl ?_
      refine wi_ri hc rfl (by rw [cm_196]; rfl) ?_
      subst hR
      exact ⟨s7, l7, rfl, z1, P, 0, w1, rfl, hM, fun _ => ⟨rfl, rfl, hGm⟩, hQ⟩
    · rw [if_neg (by omega)] at hR
      refine wi_a1 hc rfl rfl ?_
      obtain ⟨f1, y1, G1, hy1⟩ : ∃ f y G1, rcCl k nm z1 G = (f, y, G1) := ⟨_, _, _, rfl⟩
      obtain ⟨sy, ly, hEy, yy, Q1, o2, w2, hx1, hx2, hx3, hx4⟩ := mc_all (d := 0) (L := L) (t := t) hG hM ⟨by omega, by omega⟩ hI hGm hGb hON hy1
      refine wp_cv (b := 598) (As := []) (r := []) hc rfl (by rw [cm_195]; rfl) rfl (Nat.le_of_ble_eq_true rfl) (show 598 < 621 by decide) (by rw [cm_195]; rfl) (ev_mono hEy (by omega)) ?_
      have hf6 : 0 ≤ f1 ∧ f1 ≤ 6 := rcF_r hy1
      show mm_wp _ _ (59, [some (.ref 598), o1], [.int (iI f1)], MX L t sy ly) _
      refine wi_is1 (L' := [some (.ref 598), some (.int (iI f1))]) hc rfl (Nat.le_of_ble_eq_true rfl) rfl ?_
      refine wi_i1 hc rfl rfl ?_
      refine wi_zeq hc rfl ⟨by omega, by omega⟩ (fun h2_ => ?_) (fun h2_ => ?_)
      · have e9 : f1 = 0 := h2_
        subst e9
        rw [hy1, if_pos rfl] at hR
        have hR2 : rcAll k nm n8 y1 G1 = r := hR
        obtain ⟨hx5, hx6, hx7, hx8⟩ := hx3 rfl
        rw [hx5, hx6] at hx2
        have hx2 : MSt f n k pl nm tn (705 * a5) sy ly y1 Q1 0 w2 := hx2
        obtain ⟨hK1, hK2, hK3, hK4, hK5, -⟩ := rcCl_K hk43 ⟨hz1.1, by omega, hI.1, hI.2⟩ htn hG0.1 hGb hy1
        refine wi_go hc rfl ?_
        exact ih n8 (by omega) y1 Q1 w2 G1 sy ly _ (by omega) hx2 hx7 hK5 hx8 ⟨hK1.2.2.1, hK1.2.2.2⟩ (hQ.tr hx4) hR2
      · skip
        refine wi_i1 hc rfl rfl ?_
        refine wi_ri hc rfl (by rw [cm_196]; rfl) ?_
        rw [hy1, if_neg (show ¬ ((f1, y1, G1) : rcR).1 = 0 from h2_)] at hR
        subst hR
        exact ⟨sy, ly, rfl, yy, Q1, o2, w2, hx1, hx2, fun e => absurd e h2_, hQ.tr hx4⟩
  exact loop48_ 26 (0, fun _ => 0, 0) P w (fun _ => 0) sx lx none (by rfl) hMx hGx GTb_0 hOx ⟨Int.le_refl _, Int.le_refl _⟩ hQx hr
