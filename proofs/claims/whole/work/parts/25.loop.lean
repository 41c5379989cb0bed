/-! The law's loop, and the law from its entry. -/
set_option maxRecDepth 100000 in
theorem lw_loop {E : mm_EV} {L : Nat} {xs : Nat → Int32} (hL : L ≤ 3072) (Inv : mm_M → Prop) (hInv : ∀ M, Inv M → lw_R L xs M) (hcall : ∀ (M : mm_M) (i : Nat), Inv M → i + 6 ≤ L → ∃ M', lw_case E L xs i (xs i &&& 63).toInt.toNat M M' ∧ Inv M') :
    ∀ (n i : Nat) (M : mm_M), Inv M → i ≤ L → L < i + 6 * n → mm_wp E 289 (18, [some (.ref 1000001), some (.ref 0), some (.ref 598), some (.int (nI i))], [], M) (fun res => res.1 = some (.int 1) ∧ Inv res.2)
  | 0, i, M, hM, h1, h2 => by omega
  | n + 1, i, M, hM, h1, h2 => by
    have hc : (mm_CM 289).2.2.2.2.2.2.2 = mm_cf cd_289 := by rw [cm_289]; rfl
    have hR := hInv M hM
    refine wp_go hc 2 (z' := (20, [some (.ref 1000001), some (.ref 0), some (.ref 598), some (.int (nI i))], [.ref 1000001, .int (nI i)], M)) rfl ?_
    refine wp_fln hc rfl (by decide) (by rw [hR.1]) ?_
    rw [hR.1]
    refine wp_go hc 3 (z' := if Int32.ofNat L - 6 < nI i then (1566, [some (.ref 1000001), some (.ref 0), some (.ref 598), some (.int (nI i))], [], M) else (27, [some (.ref 1000001), some (.ref 0), some (.ref 598), some (.int (nI i))], [], M)) rfl ?_
    have hcmp : (nI L - nI 6).toInt = (L : Int) - 6 := pk_sub_toInt (by omega) (by omega)
    have e6 : (6 : Int32) = nI 6 := rfl
    have hi : (nI i).toInt = (i : Int) := nI_toInt (by omega)
    refine wp_if (fun h => ?_) (fun h => ?_)
    · refine wp_go hc 1 (z' := (1567, [some (.ref 1000001), some (.ref 0), some (.ref 598), some (.int (nI i))], [.int 1], M)) rfl ?_
      exact wp_rt (res := (some (.int 1), M)) ⟨.ireturn, 1, 0, 0, by rw [hc]; rfl, rfl, 1, .boolean, rfl, rfl, by rw [cm_289]; rfl, rfl⟩ ⟨rfl, hM⟩
    · have hle : i + 6 ≤ L := by
        have h3 : ¬ (nI L - nI 6 < nI i) := h
        rw [Int32.lt_iff_toInt_lt, hcmp, hi] at h3
        omega
      obtain ⟨M', g1, g2⟩ := hcall M i hM hle
      refine lw_body hR hle hL g1 ?_
      refine wp_go hc 2 (z' := (18, [some (.ref 1000001), some (.ref 0), some (.ref 598), some (.int (nI i + 6))], [], M')) rfl ?_
      have e : nI i + 6 = nI (i + 6) := by
        show Int32.ofNat i + Int32.ofNat 6 = Int32.ofNat (i + 6)
        rw [Int32.ofNat_add]
      rw [e]
      exact lw_loop hL Inv hInv hcall n (i + 6) M' g2 hle (by omega)
set_option maxRecDepth 100000 in
theorem lw_entry {E : mm_EV} {L : Nat} {xs : Nat → Int32} (hL : L ≤ 3072) (Inv : mm_M → Prop) (hInv : ∀ M, Inv M → lw_R L xs M) (hcall : ∀ (M : mm_M) (i : Nat), Inv M → i + 6 ≤ L → ∃ M', lw_case E L xs i (xs i &&& 63).toInt.toNat M M' ∧ Inv M')
    {M1 M2 : mm_M} (h1 : E 84 [.ref 0] (mm_al (mm_M0 L xs) 7 8 8 (mm_tm 7)) (none, M1)) (hn1 : M1.2.1.1 = 598) (h2 : E 146 [.ref 598] (mm_al M1 8 43 43 (mm_tm 8)) (none, M2)) (h3 : Inv M2) :
    mm_wp E 289 (0, mm_ent 4 [.ref 1000001], [], mm_M0 L xs) (fun res => res.1 = some (.int 1) ∧ Inv res.2) := by
  have hc : (mm_CM 289).2.2.2.2.2.2.2 = mm_cf cd_289 := by rw [cm_289]; rfl
  refine wp_new hc rfl (show 0 < 1000000 by decide) ?_
  refine wp_go hc 1 (z' := (4, [some (.ref 1000001), none, none, none], [.ref 0, .ref 0], mm_al (mm_M0 L xs) 7 8 8 (mm_tm 7))) rfl ?_
  refine wp_ci (As := []) (b := 0) (r := [.ref 0]) hc rfl (by rw [cm_84]; rfl) rfl (Nat.le_of_ble_eq_true rfl) h1 ?_
  refine wp_go hc 1 (z' := (8, [some (.ref 1000001), some (.ref 0), none, none], [], M1)) rfl ?_
  refine wp_new hc rfl (by rw [hn1]; decide) ?_
  rw [hn1]
  refine wp_go hc 1 (z' := (12, [some (.ref 1000001), some (.ref 0), none, none], [.ref 598, .ref 598], mm_al M1 8 43 43 (mm_tm 8))) rfl ?_
  refine wp_ci (As := []) (b := 598) (r := [.ref 598]) hc rfl (by rw [cm_146]; rfl) rfl (Nat.le_of_ble_eq_true rfl) h2 ?_
  refine wp_go hc 3 (z' := (18, [some (.ref 1000001), some (.ref 0), some (.ref 598), some (.int 0)], [], M2)) rfl ?_
  exact lw_loop hL Inv hInv hcall (L + 1) 0 M2 h3 (Nat.zero_le _) (by omega)
