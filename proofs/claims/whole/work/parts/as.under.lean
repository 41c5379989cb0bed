/-! The class understands a text. -/
theorem shc_ne {t w q : Nat} (h : q ≠ 18) : mm_shc t q = mm_shc w q := by
  match q with
  | 0 => rfl
  | 1 => rfl
  | 2 => rfl
  | 3 => rfl
  | 4 => rfl
  | 5 => rfl
  | 6 => rfl
  | 7 => rfl
  | 8 => rfl
  | 9 => rfl
  | 10 => rfl
  | 11 => rfl
  | 12 => rfl
  | 13 => rfl
  | 14 => rfl
  | 15 => rfl
  | 16 => rfl
  | 17 => rfl
  | 18 => exact absurd rfl h
  | 19 => rfl
  | n + 20 => rfl
theorem sh_t {L t w : Nat} : mm_u1 (mm_SH L t) 580 ((mm_SH L t 580).1, (mm_SH L t 580).2.1, (mm_SH L t 580).2.2.set 5 (w + 3)) = mm_SH L w := by
  funext a
  unfold mm_u1
  by_cases h : a = 580
  · subst h
    rw [if_pos rfl]
    rfl
  · rw [if_neg h]
    by_cases h2 : a < 621
    · by_cases h3 : a / 32 = 18
      · rcases (by omega : a = 576 ∨ a = 577 ∨ a = 578 ∨ a = 579 ∨ a = 581 ∨ a = 582 ∨ a = 583 ∨ a = 584 ∨ a = 585 ∨ a = 586 ∨ a = 587 ∨ a = 588 ∨ a = 589 ∨ a = 590 ∨ a = 591 ∨ a = 592 ∨ a = 593 ∨ a = 594 ∨ a = 595 ∨ a = 596 ∨ a = 597 ∨ a = 598 ∨ a = 599 ∨ a = 600 ∨ a = 601 ∨ a = 602 ∨ a = 603 ∨ a = 604 ∨ a = 605 ∨ a = 606 ∨ a = 607) with e | e | e | e | e | e | e | e | e | e | e | e | e | e | e | e | e | e | e | e | e | e | e | e | e | e | e | e | e | e | e <;> (subst e; rfl)
      · unfold mm_SH
        rw [if_pos h2, if_pos h2, shc_ne (t := t) (w := w) h3]
    · unfold mm_SH
      rw [if_neg h2, if_neg h2]
section WT
variable {E : mm_EV} {me pc L t w : Nat} {cd : Nat → Option mm_In} {Lc : List (Option Value)} {r : List Value} {s l : Nat → Int → Int} {Q : mm_Rs → Prop} {idx : Nat}
/-- the reader's text is set -/
theorem wi_pt (hc : (mm_CM me).2.2.2.2.2.2.2 = cd) (hi : cd pc = some (.putfield idx, 3, 4, 5)) (h6 : narrow (mm_tf 4 5) (.ref w) = .ref w ∧ fits (mm_tf 4 5) (.ref w) = true) (h7 : mm_fi 4 5 = false) (k : mm_wp E me (pc + 3, Lc, r, MX L w s l) Q) : mm_wp E me (pc, Lc, .ref w :: .ref 580 :: r, MX L t s l) Q := by
  have hp : mm_put (MX L t s l) 580 4 5 (.ref w) = some (MX L w s l) := by
    have e : (MX L w s l : mm_M) = (mm_u1 (mm_SH L t) 580 ((mm_SH L t 580).1, (mm_SH L t 580).2.1, (mm_SH L t 580).2.2.set 5 (w + 3)), (MX L t s l).2.1, (MX L t s l).2.2) := by rw [sh_t]
    rw [e]
    rfl
  exact wp_put hc hi hp (by show 5 < 10; decide) h6.1 h6.2 (fun q => by rw [h7] at q; cases q) k
end WT
theorem cl_all {D L t : Nat} {s l : Nat → Int → Int} (hD : 24 ≤ D) (hkt : KT L t t) {kd k pl nm : Int → Int} {tn W0 op0 : Int} (hGC : GTC kd k pl nm tn) {z : rpS} (h : CSt kd pl nm tn t W0 s z op0) (hg : rpG tn z) {G : Int → Int} (hG : CG t s G) (hI : GTb G z.2.2) {i : Int} (hi : i = G 0) {r : rcR} (hr : rcCl k nm z G = r) : ∃ s1, mm_Ev mm_ct mm_CM (D + 1) 56 [.ref 580, .int (iI i)] (MX L t s l) (some (.int (iI (bI (r.1 = 0)))), MX L t s1 l) ∧ (r.1 = 0 → (∃ W1 op1, CSt kd pl nm tn t W1 s1 r.2.1 op1) ∧ CG t s1 r.2.2) ∧ (r.1 ≠ 0 → s1 580 8 = r.1 ∧ s1 580 9 = plA pl tn r.2.1.1) ∧ CCf t z.2.2 s s1 := by
  rcases soO_s (k z.1) with ⟨e, -⟩ | ⟨e0, e1, e2, -⟩
  · exact cl_56_x hD hkt hGC h hg hG hI hi e hr
  · rcases (by omega : soO (k z.1) = 0 ∨ soO (k z.1) = 1 ∨ soO (k z.1) = 2 ∨ soO (k z.1) = 3 ∨ soO (k z.1) = 4 ∨ soO (k z.1) = 5 ∨ soO (k z.1) = 6 ∨ soO (k z.1) = 7 ∨ soO (k z.1) = 8 ∨ soO (k z.1) = 9) with e | e | e | e | e | e | e | e | e | e
    · exact cl_56_0 hD hkt hGC h hg hG hI hi (by rw [e2, e]; rfl) e hr
    · exact cl_56_1 hD hkt hGC h hg hG hI hi (by rw [e2, e]; rfl) e hr
    · exact cl_56_2 hD hkt hGC h hg hG hI hi (by rw [e2, e]; rfl) e hr
    · exact cl_56_3 hD hkt hGC h hg hG hI hi (by rw [e2, e]; rfl) e hr
    · exact cl_56_4 hD hkt hGC h hg hG hI hi (by rw [e2, e]; rfl) e hr
    · exact cl_56_5 hD hkt hGC h hg hG hI hi (by rw [e2, e]; rfl) e hr
    · exact cl_56_6 hD hkt hGC h hg hG hI hi (by rw [e2, e]; rfl) e hr
    · exact cl_56_7 hD hkt hGC h hg hG hI hi (by rw [e2, e]; rfl) e hr
    · exact cl_56_8 hD hkt hGC h hg hG hI hi (by rw [e2, e]; rfl) e hr
    · exact cl_56_9 hD hkt hGC h hg hG hI hi (by rw [e2, e]; rfl) e hr
/-- what a clause that was read well keeps -/
theorem rcCl_K {k nm G : Int → Int} {tn : Int} (hk : ∀ a, tn - 1 ≤ a → k a = 43) {z : rpS} (hg : rpG tn z) (htn : tn ≤ 301) (h0 : 0 ≤ G 0) (hI : GTb G z.2.2) {y : rpS} {G' : Int → Int} (h : rcCl k nm z G = (0, y, G')) : rpG tn y ∧ rpKw (tn - 1) z y ∧ G' 0 = G 0 + 1 ∧ G 0 ≠ 24 ∧ GTb G' y.2.2 ∧ z.1 + 1 ≤ y.1 ∧ ∃ so, 0 ≤ so ∧ so ≤ 9 ∧ soO (k z.1) = so ∧ rcBody k nm G so (rpNx z) = (0, (y.1 - 1, y.2)) ∧ G' = rcEnt nm G so (rpNx z) y := by
  obtain ⟨hg0, hg1, hg2, hg3⟩ := hg
  have hs := soO_s (k z.1)
  unfold rcCl at h
  split at h
  · cases h
  · rename_i q1
    split at h
    · cases h
    · split at h
      · cases h
      · rename_i q3
        obtain ⟨f, u, hu⟩ : ∃ f u, rpB (rcBody k nm G (soO (k z.1)) (rpNx z)) (rcWd k 39) = (f, u) := ⟨_, _, rfl⟩
        rw [hu] at h
        have hf : f = 0 := congrArg Prod.fst h
        have hy : u = y := congrArg (fun q => q.2.1) h
        have hG' : rcEnt nm G (soO (k z.1)) (rpNx z) u = G' := congrArg (fun q => q.2.2) h
        subst hf hy
        obtain ⟨v, h1, h2⟩ := rpB_0 hu
        have hk43 : k z.1 ≠ 43 := fun e => by rw [e] at q1; exact q1 (by decide)
        have hz1 := rc_43 hk hk43
        obtain ⟨b1, b2, b3⟩ := rcBody_K hk (show (rpNx z).1 ≤ tn - 1 from hz1) h1
        obtain ⟨w1, w2⟩ := rcWd_K hk (by decide) h2
        have hv : v = (u.1 - 1, u.2) := by rw [w2]; show v = (v.1 + 1 - 1, v.2); rw [show v.1 + 1 - 1 = v.1 by omega]
        have c1 : z.1 + 1 ≤ v.1 := b1.1
        have c2 : z.2.2 ≤ v.2.2 := b1.2.1
        have c3 : v.2.2 - z.2.2 ≤ v.1 - (z.1 + 1) := b1.2.2.1
        have c4 : v.1 + 1 ≤ tn - 1 := by have := w1.2.2.2.1; rw [w2] at this; exact this
        have e1 : u.1 = v.1 + 1 := by rw [w2]; rfl
        have e2 : u.2.2 = v.2.2 := by rw [w2]; rfl
        have hKw : rpKw (tn - 1) z u := rpKw_tr (rpKw_nx hz1) (rpKw_tr b1 w1)
        refine ⟨⟨by omega, by omega, by omega, by omega⟩, hKw, ?_, q3, ?_, by omega, soO (k z.1), by omega, by omega, rfl, by rw [← hv]; exact h1, hG'.symm⟩
        · rw [← hG', rcEnt_0]
        · rw [← hG']
          exact GTb.add hI h0 (by omega) b3 hg2 (Int.le_refl _) (by show z.2.2 ≤ u.2.2; omega) (by omega) (fun e => by show z.2.2 < u.2.2; have := b2 e; have : z.2.2 < v.2.2 := this; omega)
theorem sp_78 {d L t : Nat} {s l : Nat → Int → Int} (hkt : KT L t t) : ∃ s1, mm_Ev mm_ct mm_CM (d + 1) 78 [.ref t] (MX L t s l) (none, MX L t s1 l) ∧ (∀ q, q ≠ t → q ≠ t + 4 → q ≠ t + 5 → s1 q = s q) ∧ (∀ j, ¬ (5 ≤ j ∧ j ≤ 7) → s1 t j = s t j) ∧ (s1 t 5 = 0 ∧ s1 t 6 = 0 ∧ s1 t 7 = 0) ∧ ∀ j, 0 ≤ j → j < 8 → s1 (t + 4) j = 0 ∧ s1 (t + 5) j = 0 := by
  have hc : (mm_CM 78).2.2.2.2.2.2.2 = mm_cf cd_78 := by rw [cm_78]; rfl
  refine ev_xs ?_
  refine ev_to (mx := 2) (by rw [cm_78]; decide) (by rw [cm_78]; rfl) (by show 1 ≤ _; decide) ?_
  show mm_wp _ _ (0, [some (.ref t), none], [], MX L t s l) (fun res => ∃ s1, res = (none, MX L t s1 l) ∧ (∀ q, q ≠ t → q ≠ t + 4 → q ≠ t + 5 → s1 q = s q) ∧ (∀ j, ¬ (5 ≤ j ∧ j ≤ 7) → s1 t j = s t j) ∧ (s1 t 5 = 0 ∧ s1 t 6 = 0 ∧ s1 t 7 = 0) ∧ ∀ j, 0 ≤ j → j < 8 → s1 (t + 4) j = 0 ∧ s1 (t + 5) j = 0)
  have ht6 := hkt.1
  refine wi_a1 hc rfl rfl ?_
  refine wi_ic hc rfl ?_
  refine wi_pfs (kz := 5) rfl hkt.2.1 hc rfl (by have := hkt.1; omega) (by decide) rfl (Nat.le_of_ble_eq_true rfl) ⟨rfl, rfl⟩ rfl ?_
  obtain ⟨s1_, es1_⟩ : ∃ q, q = up s t 5 0 := ⟨_, rfl⟩
  rw [← es1_]
  refine wi_a1 hc rfl rfl ?_
  refine wi_ic hc rfl ?_
  refine wi_pfs (kz := 6) rfl hkt.2.1 hc rfl (by have := hkt.1; omega) (by decide) rfl (Nat.le_of_ble_eq_true rfl) ⟨rfl, rfl⟩ rfl ?_
  obtain ⟨s2_, es2_⟩ : ∃ q, q = up s1_ t 6 0 := ⟨_, rfl⟩
  rw [← es2_]
  refine wi_a1 hc rfl rfl ?_
  refine wi_ic hc rfl ?_
  refine wi_pfs (kz := 7) rfl hkt.2.1 hc rfl (by have := hkt.1; omega) (by decide) rfl (Nat.le_of_ble_eq_true rfl) ⟨rfl, rfl⟩ rfl ?_
  obtain ⟨s3_, es3_⟩ : ∃ q, q = up s2_ t 7 0 := ⟨_, rfl⟩
  rw [← es3_]
  refine wi_ic hc rfl ?_
  refine wi_is1 (L' := [some (.ref t), some (.int (iI 0))]) hc rfl (Nat.le_of_ble_eq_true rfl) rfl ?_
  have loop17_ : ∀ i : Int, i ≤ 8 → 0 ≤ i → ∀ s1 : Nat → Int → Int, (∀ q, q ≠ t → q ≠ t + 4 → q ≠ t + 5 → s1 q = s q) → (∀ j, ¬ (5 ≤ j ∧ j ≤ 7) → s1 t j = s t j) → (s1 t 5 = 0 ∧ s1 t 6 = 0 ∧ s1 t 7 = 0) → (∀ j, 0 ≤ j → j < i → s1 (t + 4) j = 0 ∧ s1 (t + 5) j = 0) → mm_wp (mm_Ev mm_ct mm_CM d) 78 (17, [some (.ref t), some (.int (iI i))], [], MX L t s1 l) (fun res => ∃ s1, res = (none, MX L t s1 l) ∧ (∀ q, q ≠ t → q ≠ t + 4 → q ≠ t + 5 → s1 q = s q) ∧ (∀ j, ¬ (5 ≤ j ∧ j ≤ 7) → s1 t j = s t j) ∧ (s1 t 5 = 0 ∧ s1 t 6 = 0 ∧ s1 t 7 = 0) ∧ ∀ j, 0 ≤ j → j < 8 → s1 (t + 4) j = 0 ∧ s1 (t + 5) j = 0) := by
    refine up_ind ?_
    intro i hi9 ih i0 s1 k1 k2 k3 k4
    refine wi_i1 hc rfl rfl ?_
    refine wi_bi hc rfl rfl ?_
    refine wi_cge hc rfl ⟨by omega, by omega⟩ ⟨by decide, by decide⟩ (fun h1_ => ?_) (fun h1_ => ?_)
    · refine wi_rv hc rfl (by rw [cm_78]; rfl) ?_
      exact ⟨s1, rfl, k1, k2, k3, fun j a1 a2 => k4 j a1 (by omega)⟩
    · refine wi_a1 hc rfl rfl ?_
      refine wi_grs (w := t + 4) hkt.2.1 hc rfl (by have := hkt.1; omega) (by decide) rfl ?_
      refine wi_i1 hc rfl rfl ?_
      refine wi_ic hc rfl ?_
      refine wi_ist (N := 8) hc rfl hkt.2.2.2.2.2.1 (by have := hkt.1; omega) (by decide) (by omega) (by omega) ?_
      obtain ⟨s4_, es4_⟩ : ∃ q, q = up s1 (t + 4) i 0 := ⟨_, rfl⟩
      rw [← es4_]
      refine wi_a1 hc rfl rfl ?_
      refine wi_grs (w := t + 5) hkt.2.1 hc rfl (by have := hkt.1; omega) (by decide) rfl ?_
      refine wi_i1 hc rfl rfl ?_
      refine wi_ic hc rfl ?_
      refine wi_ist (N := 8) hc rfl hkt.2.2.2.2.2.2 (by have := hkt.1; omega) (by decide) (by omega) (by omega) ?_
      obtain ⟨s5_, es5_⟩ : ∃ q, q = up s4_ (t + 5) i 0 := ⟨_, rfl⟩
      rw [← es5_]
      refine wi_inc (L' := [some (.ref t), some (.int (iI (i + 1)))]) hc rfl rfl rfl ?_
      refine wi_go hc rfl ?_
      refine ih (by omega) (by omega) s5_ (fun q a1 a2 a3 => ?_) (fun j a => ?_) ?_ (fun j a1 a2 => ?_)
      · rw [es5_, up_cc a3, es4_, up_cc a2]; exact k1 q a1 a2 a3
      · rw [es5_, up_cc (by omega), es4_, up_cc (by omega)]; exact k2 j a
      · rw [es5_, up_cc (by omega), es4_, up_cc (by omega)]; exact k3
      · have p1 : s5_ (t + 4) j = if j = i then 0 else s1 (t + 4) j := by rw [es5_, up_c (by omega), es4_, up_ite]
        have p2 : s5_ (t + 5) j = if j = i then 0 else s1 (t + 5) j := by rw [es5_, up_ite, es4_, up_c (by omega)]
        rw [p1, p2]
        by_cases q : j = i
        · rw [if_pos q, if_pos q]; exact ⟨rfl, rfl⟩
        · rw [if_neg q, if_neg q]; exact k4 j a1 (by omega)
  refine loop17_ 0 (by decide) (by decide) s3_ (fun q a1 a2 a3 => ?_) (fun j a => ?_) ⟨?_, ?_, ?_⟩ (fun j a1 a2 => by omega)
  · rw [es3_, up_cc a1, es2_, up_cc a1, es1_, up_cc a1]
  · rw [es3_, up_k (by omega), es2_, up_k (by omega), es1_, up_k (by omega)]
  · rw [es3_, up_k (by decide), es2_, up_k (by decide), es1_, up_at]
  · rw [es3_, up_k (by decide), es2_, up_at]
  · rw [es3_, up_at]
theorem CG_0 {t : Nat} {s : Nat → Int → Int} (h5 : s t 5 = 0) (h7 : s t 7 = 0) (h : ∀ j, 0 ≤ j → j < 8 → s (t + 4) j = 0 ∧ s (t + 5) j = 0) : CG t s (fun _ => 0) := by
  have hh : ∀ so la, rcHas (fun _ => 0) so la = -1 := fun so la => rfl
  have hc : ∀ slot so la, 0 ≤ slot → slot < 8 → CSl t s (fun _ => 0) slot so la := fun slot so la a1 a2 => ⟨fun _ => h slot a1 a2, fun e => by rw [hh] at e; exact absurd e (by decide)⟩
  exact ⟨h5, ⟨Int.le_refl _, by decide⟩, fun q q0 q1 => absurd q1 (by show ¬ q < 0; omega), fun la l0 l1 => hc la 0 la l0 (by omega), hc 6 1 0 (by decide) (by decide), hc 7 2 0 (by decide) (by decide), h7⟩
theorem GTb_0 : GTb (fun _ => 0) 0 := ⟨Int.le_refl _, by decide, fun q q0 q1 => absurd q1 (by show ¬ q < 0; omega)⟩
/-- the kinds, told everywhere -/
theorem kd_all {f : Int → Int} {n tn : Int} {kd pl nm : Int → Int} {s : Nat → Int → Int} (hf : ∀ j, 0 ≤ f j ∧ f j ≤ 255) (hR : RD s kd pl nm tn) (hA : gtA f n kd pl nm tn) : ∃ kd', RD s kd' pl nm tn ∧ gtA f n kd' pl nm tn ∧ (∀ a, 0 ≤ kdA kd' tn a ∧ kdA kd' tn a ≤ 44) ∧ ∀ a, a < 0 → kdA kd' tn a = 0 := by
  have e : ∀ a, 0 ≤ a → (fun a => if 0 ≤ a then kd a else 0 : Int → Int) a = kd a := fun a ha => if_pos ha
  obtain ⟨h1, h2, h3, h4, h5⟩ := hA
  refine ⟨fun a => if 0 ≤ a then kd a else 0, ⟨hR.1, hR.2.1, fun j j0 j1 => ?_⟩, ⟨h1, fun a a0 a1 => ?_, h3, h4, (e _ (by omega)).trans h5⟩, ?_⟩
  · have := hR.2.2 j j0 j1
    rw [e j j0]
    exact this
  · obtain ⟨⟨b1, b2, b3, b4, b5⟩, b6⟩ := h2 a a0 a1
    exact ⟨⟨b1, b2, b3, (e a a0).trans b4, b5⟩, b6⟩
  · refine ⟨?_, fun a ha => ?_⟩
    rotate_left
    · unfold kdA
      rw [if_pos (by omega)]
      exact if_neg (by omega)
    intro a
    unfold kdA
    by_cases q : a < tn
    · rw [if_pos q]
      by_cases q0 : 0 ≤ a
      · rw [e a q0]
        rcases (by omega : a + 1 < tn ∨ a = tn - 1) with g | g
        · obtain ⟨⟨b1, b2, b3, b4, b5⟩, b6⟩ := h2 a q0 g
          rw [b4]
          exact kdP_44 hf
        · rw [g, h5]; decide
      · show 0 ≤ (if 0 ≤ a then kd a else 0) ∧ (if 0 ≤ a then kd a else 0) ≤ 44
        rw [if_neg q0]; decide
    · rw [if_neg q]; decide
/-- what understanding a text leaves as it was -/
def CUf (t : Nat) (s s1 : Nat → Int → Int) : Prop := ∀ q, ¬ (580 ≤ q ∧ q ≤ 583) → ¬ (t ≤ q ∧ q ≤ t + 5) → s1 q = s q
def CUn (f : Int → Int) (n : Int) (kd k pl nm : Int → Int) (tn : Int) : Prop := gtA f n kd pl nm tn ∧ GTC kd k pl nm tn ∧ (0 ≤ tn ∧ tn ≤ 301) ∧ (∀ a, 0 ≤ k a ∧ k a ≤ 44) ∧ ∀ a, a < 0 → k a = 0
def CUr (kd pl nm : Int → Int) (tn : Int) (t : Nat) (s s1 : Nat → Int → Int) (r : rcR) : Prop := (r.1 = 0 → (∃ W1 op1, CSt kd pl nm tn t W1 s1 r.2.1 op1) ∧ CG t s1 r.2.2) ∧ (r.1 ≠ 0 → s1 580 8 = r.1 ∧ s1 580 9 = plA pl tn r.2.1.1) ∧ CUf t s s1
theorem ev_xws {d me L t : Nat} {l : Nat → Int → Int} {vs : List Value} {M : mm_M} {Post : (Nat → Int → Int) → Int → Prop} (h : ∃ res, mm_Ev mm_ct mm_CM d me vs M res ∧ ∃ s1 v9, res = (some (.int (iI v9)), MX L t s1 l) ∧ Post s1 v9) : ∃ s1 v9, mm_Ev mm_ct mm_CM d me vs M (some (.int (iI v9)), MX L t s1 l) ∧ Post s1 v9 := by
  obtain ⟨res, h1, s1, v9, rfl, h2⟩ := h
  exact ⟨s1, v9, h1, h2⟩
/-- a text, read -/
def rcTx (k nm : Int → Int) : rcR := rcAll k nm 26 (0, fun _ => 0, 0) (fun _ => 0)
theorem un_44 {D L t t0 : Nat} {s l : Nat → Int → Int} (hD : 25 ≤ D) (hkt : KT L t t) (ht9 : t + 5 < 289) {f : Int → Int} (hT : s 597 = f) (hf : ∀ k, 0 ≤ f k ∧ f k ≤ 255) {n : Int} (n0 : 0 ≤ n) (n1 : n ≤ 300) : ∃ s1 v9, mm_Ev mm_ct mm_CM (D + 1) 44 [.ref 580, .ref 597, .int (iI n), .ref t] (MX L t0 s l) (some (.int (iI v9)), MX L t s1 l) ∧ ∃ kd k pl nm tn, CUn f n kd k pl nm tn ∧ v9 = bI ((rcTx k nm).1 = 0) ∧ CUr kd pl nm tn t s s1 (rcTx k nm) := by
  have hc : (mm_CM 44).2.2.2.2.2.2.2 = mm_cf cd_44 := by rw [cm_44]; rfl
  refine ev_xws ?_
  refine ev_to (mx := 5) (by rw [cm_44]; decide) (by rw [cm_44]; rfl) (by show 4 ≤ _; decide) ?_
  show mm_wp _ _ (0, [some (.ref 580), some (.ref 597), some (.int (iI n)), some (.ref t), none], [], MX L t0 s l) (fun res => ∃ s1 v9, res = (some (.int (iI v9)), MX L t s1 l) ∧ ∃ kd k pl nm tn, CUn f n kd k pl nm tn ∧ v9 = bI ((rcTx k nm).1 = 0) ∧ CUr kd pl nm tn t s s1 (rcTx k nm))
  have ht6 := hkt.1
  refine wi_a1 hc rfl rfl ?_
  refine wi_a1 hc rfl rfl ?_
  refine wi_pt hc rfl ⟨rfl, rfl⟩ rfl ?_
  refine wi_a1 hc rfl rfl ?_
  refine wi_gr (w := t) hc rfl rfl (by decide) (Nat.le_of_ble_eq_true rfl) rfl ?_
  obtain ⟨s1, hE1, k1, k2, k3, k4⟩ := sp_78 (d := 0) (L := L) (t := t) (l := l) (s := s) hkt
  refine wp_cv (b := t) (As := []) (r := []) hc rfl (by rw [cm_78]; rfl) rfl (Nat.le_of_ble_eq_true rfl) (show t < 621 by omega) (by rw [cm_78]; exact congrArg Prod.fst hkt.2.1) (ev_mono hE1 (by omega)) ?_
  show mm_wp _ _ (12, [some (.ref 580), some (.ref 597), some (.int (iI n)), some (.ref t), none], [], MX L t s1 l) _
  refine wi_a1 hc rfl rfl ?_
  refine wi_a1 hc rfl rfl ?_
  refine wi_i1 hc rfl rfl ?_
  obtain ⟨s2, hE2, j1, j2, kd0, pl, nm, tn, hR0, hA0⟩ := sp_45 (d := 0) (L := L) (t := t) (l := l) (s := s1) ((k1 597 (by omega) (by omega) (by omega)).trans hT) hf n0 n1
  refine wp_cv (b := 580) (As := [.ref 597, .int (iI n)]) (r := []) hc rfl (by rw [cm_45]; rfl) rfl (Nat.le_of_ble_eq_true rfl) (show 580 < 621 by decide) (by rw [cm_45]; rfl) (ev_mono hE2 (by omega)) ?_
  show mm_wp _ _ (18, [some (.ref 580), some (.ref 597), some (.int (iI n)), some (.ref t), none], [], MX L t s2 l) _
  refine wi_a1 hc rfl rfl ?_
  refine wi_ic hc rfl ?_
  refine wi_pf (kz := 4) rfl hc rfl rfl (by decide) (Nat.le_of_ble_eq_true rfl) rfl (Nat.le_of_ble_eq_true rfl) ⟨rfl, rfl⟩ rfl ?_
  obtain ⟨s1_, es1_⟩ : ∃ q, q = up s2 580 4 0 := ⟨_, rfl⟩
  rw [← es1_]
  refine wi_a1 hc rfl rfl ?_
  refine wi_ic hc rfl ?_
  refine wi_pf (kz := 8) rfl hc rfl rfl (by decide) (Nat.le_of_ble_eq_true rfl) rfl (Nat.le_of_ble_eq_true rfl) ⟨rfl, rfl⟩ rfl ?_
  obtain ⟨s2_, es2_⟩ : ∃ q, q = up s1_ 580 8 0 := ⟨_, rfl⟩
  rw [← es2_]
  refine wi_a1 hc rfl rfl ?_
  refine wi_ic hc rfl ?_
  refine wi_pf (kz := 9) rfl hc rfl rfl (by decide) (Nat.le_of_ble_eq_true rfl) rfl (Nat.le_of_ble_eq_true rfl) ⟨rfl, rfl⟩ rfl ?_
  obtain ⟨s3_, es3_⟩ : ∃ q, q = up s2_ 580 9 (-1) := ⟨_, rfl⟩
  rw [← es3_]
  obtain ⟨kd, hR1, hA1, hkr, hkn⟩ := kd_all hf hR0 hA0
  obtain ⟨k, hk⟩ : ∃ k, k = kdA kd tn := ⟨_, rfl⟩
  rw [← hk] at hkr hkn
  have htn := hR1.2.1
  have hk43 : ∀ a, tn - 1 ≤ a → k a = 43 := fun a ha => by
    rw [hk]
    unfold kdA
    by_cases q : a < tn
    · rw [if_pos q, show a = tn - 1 by omega]; exact hA1.2.2.2.2
    · rw [if_neg q]
  have hGC : GTC kd k pl nm tn := ⟨hk, hk43, hkr, htn.2⟩
  have hUn : CUn f n kd k pl nm tn := ⟨hA1, hGC, htn, hkr, hkn⟩
  obtain ⟨r, hr⟩ : ∃ r, rcTx k nm = r := ⟨_, rfl⟩
  have g9 : ∀ q, q ≠ 580 → s3_ q = s2 q := fun q a => by rw [es3_, up_cc a, es2_, up_cc a, es1_, up_cc a]
  have g58 : ∀ j, s3_ 580 j = if j = 9 then -1 else if j = 8 then 0 else if j = 4 then 0 else s2 580 j := fun j => by rw [es3_, up_ite, es2_, up_ite, es1_, up_ite]
  have ht2 : s3_ t = s1 t := by rw [g9 t (by omega)]; exact j1 t (by omega)
  have hM5 : CSt kd pl nm tn t (s3_ 580 6) s3_ (0, fun _ => 0, 0) (s3_ 580 7) := ⟨⟨hR1.of (by rw [g58]; rfl) (g9 581 (by decide)) (g9 582 (by decide)) (g9 583 (by decide)), by rw [g58]; rfl, by rw [g58]; rfl⟩, by rw [g58]; rfl, rfl, rfl, by rw [ht2]; exact k3.2.1, fun j j0 j1 => absurd j1 (by show ¬ j < 0; omega)⟩
  have hG5 : CG t s3_ (fun _ => 0) := CG_0 (by rw [ht2]; exact k3.1) (by rw [ht2]; exact k3.2.2) (fun j a b => by rw [g9 (t + 4) (by omega), g9 (t + 5) (by omega), j1 (t + 4) (by omega), j1 (t + 5) (by omega)]; exact k4 j a b)
  have hU5 : CUf t s s3_ := fun q a b => by rw [g9 q (by omega), j1 q (by omega)]; exact k1 q (by omega) (by omega) (by omega)
  refine wi_ic hc rfl ?_
  refine wi_is2 (L' := [some (.ref 580), some (.ref 597), some (.int (iI n)), some (.ref t), some (.int (iI 0))]) hc rfl (Nat.le_of_ble_eq_true rfl) rfl ?_
  have loop36_ : ∀ n9 : Nat, ∀ (z1 : rpS) (G : Int → Int) (s6 : Nat → Int → Int) (i W1 op1 : Int), i = G 0 → n9 + i = 26 → CSt kd pl nm tn t W1 s6 z1 op1 → CG t s6 G → GTb G z1.2.2 → rpG tn z1 → CUf t s s6 → rcAll k nm n9 z1 G = r → mm_wp (mm_Ev mm_ct mm_CM D) 44 (36, [some (.ref 580), some (.ref 597), some (.int (iI n)), some (.ref t), some (.int (iI i))], [], MX L t s6 l) (fun res => ∃ s1 v9, res = (some (.int (iI v9)), MX L t s1 l) ∧ ∃ kd k pl nm tn, CUn f n kd k pl nm tn ∧ v9 = bI ((rcTx k nm).1 = 0) ∧ CUr kd pl nm tn t s s1 (rcTx k nm)) := by
    refine wf_ind ?_
    intro n9 ih z1 G s6 i W1 op1 hi hn hM hG hI hg hU hR
    have hG0 := hG.2.1
    obtain ⟨n8, rfl⟩ : ∃ q, n9 = q + 1 := ⟨n9 - 1, by omega⟩
    rw [rcAll] at hR
    obtain ⟨hg0, hg1, hg2, hg3⟩ := id hg
    refine wi_i2 hc rfl rfl ?_
    refine wi_bi hc rfl rfl ?_
    refine wi_cgt hc rfl ⟨by omega, by omega⟩ ⟨by decide, by decide⟩ (fun h1_ => (by exfalso; omega)) (fun h1_ => ?_)
    refine wi_a1 hc rfl rfl ?_
    have hk4_ : mm_Ev mm_ct mm_CM (0 + 1) 53 [.ref 580] (MX L t s6 l) (some (.int (iI (k z1.1))), MX L t s6 l) := by rw [hk]; exact sp_53 (d := 0) (CSt.rR hM) (by have q := CSt.ra hM; exact q : s6 580 4 = z1.1) ⟨by omega, by omega⟩
    have hkr4_ := hkr z1.1
    refine wp_cv (b := 580) (As := []) (r := []) hc rfl (by rw [cm_53]; rfl) rfl (Nat.le_of_ble_eq_true rfl) (show 580 < 621 by decide) (by rw [cm_53]; rfl) (ev_mono hk4_ (by omega)) ?_
    show mm_wp _ _ (47, [some (.ref 580), some (.ref 597), some (.int (iI n)), some (.ref t), some (.int (iI i))], [.int (iI (k z1.1))], MX L t s6 l) _
    refine wi_bi hc rfl rfl ?_
    refine wi_ceq hc rfl ⟨by omega, by omega⟩ ⟨by decide, by decide⟩ (fun h2_ => ?_) (fun h2_ => ?_)
    · rw [if_pos (by omega)] at hR
      refine wi_ic hc rfl ?_
      refine wi_r1 hc rfl (by rw [cm_44]; rfl) ?_
      have hr9 := hR
      subst hr9
      rw [show (1 : Int) = bI (((0, z1, G) : rcR).1 = 0) from (bI_t rfl).symm]
      exact ⟨s6, _, rfl, kd, k, pl, nm, tn, hUn, by rw [hr], hr ▸ ⟨fun _ => ⟨⟨_, _, hM⟩, hG⟩, fun e => absurd rfl e, hU⟩⟩
    · rw [if_neg (by omega)] at hR
      refine wi_a1 hc rfl rfl ?_
      refine wi_i2 hc rfl rfl ?_
      obtain ⟨f1, y1, G1, hy1⟩ : ∃ f y G1, rcCl k nm z1 G = (f, y, G1) := ⟨_, _, _, rfl⟩
      obtain ⟨s7, hE7, hC1, hC2, hC3⟩ := cl_all (D := 24) (L := L) (l := l) (Nat.le_refl _) hkt hGC hM hg hG hI hi hy1
      refine wp_cv (b := 580) (As := [.int (iI i)]) (r := []) hc rfl (by rw [cm_56]; rfl) rfl (Nat.le_of_ble_eq_true rfl) (show 580 < 621 by decide) (by rw [cm_56]; rfl) (ev_mono hE7 (by omega)) ?_
      show mm_wp _ _ (58, [some (.ref 580), some (.ref 597), some (.int (iI n)), some (.ref t), some (.int (iI i))], [.int (iI (bI (f1 = 0)))], MX L t s7 l) _
      refine wi_bne hc rfl (fun h3_ => ?_) (fun h3_ => ?_)
      · have e1 : f1 = 0 := h3_
        subst e1
        rw [hy1, if_pos rfl] at hR
        have hR2 : rcAll k nm n8 y1 G1 = r := hR
        obtain ⟨⟨W2, op2, hM2⟩, hG2⟩ := hC1 rfl
        obtain ⟨hK1, hK2, hK3, hK4, hK5, -⟩ := rcCl_K hk43 hg htn.2 hG0.1 hI hy1
        have hU7 : CUf t s s7 := fun q a b => (hC3.1 q (by omega) b).trans (hU q a b)
        refine wi_inc (L' := [some (.ref 580), some (.ref 597), some (.int (iI n)), some (.ref t), some (.int (iI (i + 1)))]) hc rfl rfl rfl ?_
        refine wi_go hc rfl ?_
        exact ih n8 (by omega) y1 G1 s7 (i + 1) W2 op2 (by omega) (by omega) hM2 hG2 hK5 hK1 hU7 hR2
      · skip
        refine wi_ic hc rfl ?_
        refine wi_r0 hc rfl (by rw [cm_44]; rfl) ?_
        rw [hy1, if_neg (show ¬ ((f1, y1, G1) : rcR).1 = 0 from h3_)] at hR
        subst hR
        have q := bI_f (p := f1 = 0) h3_
        refine ⟨s7, bI (f1 = 0), by rw [q], kd, k, pl, nm, tn, hUn, by rw [hr], hr ▸ ⟨fun e => absurd e h3_, fun e => hC2 e, fun q a b => (hC3.1 q (by omega) b).trans (hU q a b)⟩⟩
  exact loop36_ 26 (0, fun _ => 0, 0) (fun _ => 0) s3_ 0 _ _ rfl (by omega) hM5 hG5 GTb_0 ⟨Int.le_refl _, by have := hA1.1; show (0 : Int) + 1 ≤ tn; omega, Int.le_refl _, Int.le_refl _⟩ hU5 hr
