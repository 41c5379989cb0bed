/-! The model's numbers. -/
def FN (lo : Int) (s s1 l l1 : Nat → Int → Int) : Prop := (∀ q, q ≠ 598 → q ≠ 601 → q ≠ 603 → s1 q = s q) ∧ (∀ q, ¬ (7 ≤ q ∧ q ≤ 10) → q ≠ 14 → ¬ (17 ≤ q ∧ q ≤ 19) → s1 598 q = s 598 q) ∧ (∀ j, j < lo → s1 601 j = s 601 j) ∧ (∀ q, q ≠ 598 → l1 q = l q) ∧ ∀ q, q ≠ 11 → l1 598 q = l 598 q
section FNP
variable {f : Int → Int} {n : Int} {k pl nm : Int → Int} {tn b : Int} {s s1 s2 l l1 l2 : Nat → Int → Int} {z : rpS} {P : List Int} {o w lo lo' v ix c : Int}
theorem FN.rf : FN lo s s l l := ⟨fun _ _ _ _ => rfl, fun _ _ _ _ => rfl, fun _ _ => rfl, fun _ _ => rfl, fun _ _ => rfl⟩
theorem FN.tr (h : FN lo s s1 l l1) (g : FN lo' s1 s2 l1 l2) (hc : lo ≤ lo') : FN lo s s2 l l2 := ⟨fun q a1 a2 a3 => (g.1 q a1 a2 a3).trans (h.1 q a1 a2 a3), fun q a1 a2 a3 => (g.2.1 q a1 a2 a3).trans (h.2.1 q a1 a2 a3), fun j a => (g.2.2.1 j (by omega)).trans (h.2.2.1 j a), fun q a => (g.2.2.2.1 q a).trans (h.2.2.2.1 q a), fun q a => (g.2.2.2.2 q a).trans (h.2.2.2.2 q a)⟩
theorem FN.lo9 (h : FN lo s s1 l l1) (hc : lo' ≤ lo) : FN lo' s s1 l l1 := ⟨h.1, h.2.1, fun j a => h.2.2.1 j (by omega), h.2.2.2⟩
theorem FR.fn9 (h : FR b c s s1 l l1) (hl : lo ≤ b + 97 + 2 * c) : FN lo s s1 l l1 := ⟨h.1, h.2.1, fun j a => h.2.2.1 j (by omega), h.2.2.2⟩
theorem MSt.nw (h : MSt f n k pl nm tn b s l z P o w) (hi : ix < b + 97) : MSt f n k pl nm tn b (up s 601 ix v) l z P o w := by
  obtain ⟨-, -, hc, hp, ho, hw⟩ := id h
  refine h.ch rfl (up_cc (by decide)) (fun q a1 a2 => by rw [up_cc (by decide)]) ⟨?_, fun j j0 j1 => ?_⟩ ?_ ?_ ?_
  · rw [up_cc (by decide)]; exact hc.1
  · rw [up_k (by omega), up_k (by omega)]; exact hc.2 j j0 j1
  · rw [up_cc (by decide), up_cc (by decide)]; exact hp
  · rw [up_cc (by decide)]; exact ho
  · rw [up_cc (by decide)]; exact hw
theorem FN.wr (hl : lo ≤ ix) : FN lo s (up s 601 ix v) l l := ⟨fun q a1 a2 a3 => up_cc a2, fun q a a2 a3 => by rw [up_cc (by decide)], fun j a => up_k (by omega), fun _ _ => rfl, fun _ _ => rfl⟩
theorem FN.st {q : Int} (hq : 17 ≤ q ∧ q ≤ 19) : FN lo s (up s 598 q v) l l := (FR.u (b := lo - 97) (c := 0) hq).fn9 (by omega)
end FNP
theorem fg_188 {d L t : Nat} {s l : Nat → Int → Int} {f : Int → Int} {n : Int} {kd k pl nm : Int → Int} {tn b : Int} {z : rpS} {P : List Int} {o w : Int} (hG : GTX f n kd k pl nm tn) (h : MSt f n k pl nm tn b s l z P o w) (b0 : 0 ≤ b ∧ b ≤ 2115) {ix lo hi : Int} (hix : b + 1 ≤ ix ∧ ix < b + 97) (hlo : 0 ≤ lo ∧ lo ≤ 99) (hhi : 0 ≤ hi ∧ hi ≤ 99) {r : rpR} (hr : rcFig k nm lo hi z = r) : ∃ s1 l1, mm_Ev mm_ct mm_CM (d + 4) 188 [.ref 598, .int (iI ix), .int (iI lo), .int (iI hi)] (MX L t s l) (some (.int (iI r.1)), MX L t s1 l1) ∧ MSt f n k pl nm tn b s1 l1 r.2 P o w ∧ FN ix s s1 l l1 ∧ (r.1 = 0 → s1 601 ix = nm z.1) := by
  have hc : (mm_CM 188).2.2.2.2.2.2.2 = mm_cf cd_188 := by rw [cm_188]; rfl
  refine ev_xsl ?_
  refine ev_to (mx := 4) (by rw [cm_188]; decide) (by rw [cm_188]; rfl) (by show 4 ≤ _; decide) ?_
  show mm_wp _ _ (0, [some (.ref 598), some (.int (iI ix)), some (.int (iI lo)), some (.int (iI hi))], [], MX L t s l) (fun res => ∃ s1 l1, res = (some (.int (iI r.1)), MX L t s1 l1) ∧ MSt f n k pl nm tn b s1 l1 r.2 P o w ∧ FN ix s s1 l l1 ∧ (r.1 = 0 → s1 601 ix = nm z.1))
  obtain ⟨q9, hq9⟩ : ∃ q9, s 598 9 = q9 := ⟨_, rfl⟩
  obtain ⟨u9, hu9⟩ : ∃ u9, s 598 10 = u9 := ⟨_, rfl⟩
  obtain ⟨w9, hw9⟩ : ∃ w9, l 598 11 = w9 := ⟨_, rfl⟩
  have hk9 := MSt.tk h
  rw [hq9, hu9, hw9] at hk9
  have ha9 := tkR_a hk9
  unfold tkA at ha9
  have htn := hG.2.2.2.1
  have hz1 := h.2.1.1
  have hkr := hG.2.2.2.2.2.2 z.1
  refine wi_a1 hc rfl rfl ?_
  refine wi_gfv (kz := 9) rfl hc rfl rfl (by decide) (Nat.le_of_ble_eq_true rfl) rfl (v := q9) (hq9) ?_
  refine wi_ic hc rfl ?_
  refine wi_ceq hc rfl ⟨by omega, by omega⟩ ⟨by decide, by decide⟩ (fun h1_ => ?_) (fun h1_ => ?_)
  · have hnn := tkR_n hk9 (by omega)
    have hmu := minI_spec u9 10000
    refine wi_a1 hc rfl rfl ?_
    refine wi_gfv (kz := 10) rfl hc rfl rfl (by decide) (Nat.le_of_ble_eq_true rfl) rfl (v := u9) (hu9) ?_
    refine wi_i1 hc rfl rfl ?_
    refine wi_i1 hc rfl rfl ?_
    refine wp_cs (As := [.int (iI u9), .int (iI lo), .int (iI hi)]) (r := []) hc rfl (by rw [cm_148]; rfl) rfl (Nat.le_of_ble_eq_true rfl) (ev_mono (sp_148 (d := 0) ⟨by omega, by omega⟩ ⟨by omega, by omega⟩ ⟨by omega, by omega⟩) (by omega)) ?_
    show mm_wp _ _ (19, [some (.ref 598), some (.int (iI ix)), some (.int (iI lo)), some (.int (iI hi))], [.int (iI (bI (lo ≤ u9 ∧ u9 ≤ hi)))], MX L t s l) _
    refine wi_bne hc rfl (fun h2_ => ?_) (fun h2_ => ?_)
    · refine wi_a1 hc rfl rfl ?_
      refine wi_gr (w := 601) hc rfl rfl (by decide) (Nat.le_of_ble_eq_true rfl) rfl ?_
      refine wi_i1 hc rfl rfl ?_
      refine wi_a1 hc rfl rfl ?_
      refine wi_gfv (kz := 10) rfl hc rfl rfl (by decide) (Nat.le_of_ble_eq_true rfl) rfl (v := u9) (hu9) ?_
      refine wi_ist (N := 2820) hc rfl rfl (by decide) (by decide) (by omega) (by omega) ?_
      obtain ⟨s1_, es1_⟩ : ∃ q, q = up s 601 ix u9 := ⟨_, rfl⟩
      rw [← es1_]
      refine wi_a1 hc rfl rfl ?_
      have hMw : MSt f n k pl nm tn b s1_ l z P o w := by rw [es1_]; exact h.nw (by omega)
      obtain ⟨sx, lx, hEx, hMx, hFx⟩ := nx_166 (d := 0) (L := L) (t := t) (c := 0) hG hMw (GTX_nx hG hz1.1 hz1.2 (by omega))
      refine wp_cv (b := 598) (As := []) (r := []) hc rfl (by rw [cm_166]; rfl) rfl (Nat.le_of_ble_eq_true rfl) (show 598 < 621 by decide) (by rw [cm_166]; rfl) (ev_mono hEx (by omega)) ?_
      have hFN : FN ix s sx l lx := (show FN ix s s1_ l l by rw [es1_]; exact FN.wr (Int.le_refl _)).tr (hFx.fn9 (lo := b + 97) (by omega)) (by omega)
      have hVx : sx 601 ix = nm z.1 := by rw [hFx.2.2.1 ix (by omega), es1_, up_at]; omega
      show mm_wp _ _ (38, [some (.ref 598), some (.int (iI ix)), some (.int (iI lo)), some (.int (iI hi))], [], MX L t sx lx) _
      refine wi_ic hc rfl ?_
      refine wi_ri hc rfl (by rw [cm_188]; rfl) ?_
      have hr9 : r = (0, rpNx z) := by rw [← hr, rcFig, if_pos (by omega), if_pos (by omega)]
      subst hr9
      exact ⟨sx, lx, rfl, hMx, hFN, fun _ => hVx⟩
    · refine wi_ic hc rfl ?_
      refine wi_ri hc rfl (by rw [cm_188]; rfl) ?_
      have hr9 : r = (2, z) := by rw [← hr, rcFig, if_pos (by omega), if_neg (by omega)]
      subst hr9
      exact ⟨s, l, rfl, h, FN.rf, fun e => absurd (show (2 : Int) = 0 from e) (by decide)⟩
  · refine wi_ic hc rfl ?_
    refine wi_ri hc rfl (by rw [cm_188]; rfl) ?_
    have hr9 : r = (1, z) := by rw [← hr, rcFig, if_neg (by omega)]
    subst hr9
    exact ⟨s, l, rfl, h, FN.rf, fun e => absurd (show (1 : Int) = 0 from e) (by decide)⟩
