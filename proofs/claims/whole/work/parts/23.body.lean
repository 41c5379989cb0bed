set_option maxRecDepth 100000 in
/-- one round of the law's loop -/
theorem lw_body {E : mm_EV} {L : Nat} {xs : Nat → Int32} {i : Nat} {M M2 : mm_M} {Q : mm_Rs → Prop} (hR : lw_R L xs M) (hi : i + 6 ≤ L) (hL : L ≤ 3072) (h : lw_case E L xs i (xs i &&& 63).toInt.toNat M M2)
    (kk : mm_wp E 289 (1560, [some (.ref 1000001), some (.ref 0), some (.ref 598), some (.int (nI i))], [], M2) Q) : mm_wp E 289 (27, [some (.ref 1000001), some (.ref 0), some (.ref 598), some (.int (nI i))], [], M) Q := by
  have hc : (mm_CM 289).2.2.2.2.2.2.2 = mm_cf cd_289 := by rw [cm_289]; rfl
  refine wp_go hc 2 (z' := (29, [some (.ref 1000001), some (.ref 0), some (.ref 598), some (.int (nI i))], [.int (nI i), .ref 1000001], M)) rfl ?_
  have g1 : ¬ nI i < 0 := nI_pos (by omega)
  have g2 : (nI i).toNatClampNeg = i := nI_clamp (by omega)
  refine wp_fld hc rfl (by decide) (by rw [hR.1]) g1 (by rw [g2, hR.1]; show i < L; omega) ?_
  rw [g2, hR.2.1]
  have hk0 : (0 : Int) ≤ (xs i &&& 63).toInt := by
    obtain ⟨j, hj, e⟩ := pk_andE (xs i) (m := 63) 6 (by decide)
    rw [e, nI_toInt (by omega)]
    omega
  refine wp_go hc 2 (z' := (33, [some (.ref 1000001), some (.ref 0), some (.ref 598), some (.int (nI i))], [.int (xs i &&& 63)], M)) rfl ?_
  generalize xs i &&& 63 = sv at h hk0 ⊢
  refine wp_go hc 1 (z' := mm_swl 33 sv [some (.ref 1000001), some (.ref 0), some (.ref 598), some (.int (nI i))] [] M (1527) (0) [175, 208, 271, 294, 357, 380, 393, 416, 439, 462, 495, 518, 561, 600, 623, 656, 669, 702, 735, 768, 827, 860, 883, 932, 975, 1008, 1031, 1044, 1077, 1140, 1209, 1278, 1301, 1324, 1409, 1432, 1455, 1478, 1491, 1504]) rfl ?_
  rw [mm_swl]
  refine wp_if (fun hs => ?_) (fun hs => ?_)
  · have hk : sv.toInt.toNat = 0 := by omega
    rw [hk] at h
    exact lw_c0 hR hi hL h kk
  rw [mm_swl]
  refine wp_if (fun hs => ?_) (fun hs => ?_)
  · have hk : sv.toInt.toNat = 1 := by omega
    rw [hk] at h
    exact lw_c1 hR hi hL h kk
  rw [mm_swl]
  refine wp_if (fun hs => ?_) (fun hs => ?_)
  · have hk : sv.toInt.toNat = 2 := by omega
    rw [hk] at h
    exact lw_c2 hR hi hL h kk
  rw [mm_swl]
  refine wp_if (fun hs => ?_) (fun hs => ?_)
  · have hk : sv.toInt.toNat = 3 := by omega
    rw [hk] at h
    exact lw_c3 hR hi hL h kk
  rw [mm_swl]
  refine wp_if (fun hs => ?_) (fun hs => ?_)
  · have hk : sv.toInt.toNat = 4 := by omega
    rw [hk] at h
    exact lw_c4 hR hi hL h kk
  rw [mm_swl]
  refine wp_if (fun hs => ?_) (fun hs => ?_)
  · have hk : sv.toInt.toNat = 5 := by omega
    rw [hk] at h
    exact lw_c5 hR hi hL h kk
  rw [mm_swl]
  refine wp_if (fun hs => ?_) (fun hs => ?_)
  · have hk : sv.toInt.toNat = 6 := by omega
    rw [hk] at h
    exact lw_c6 hR hi hL h kk
  rw [mm_swl]
  refine wp_if (fun hs => ?_) (fun hs => ?_)
  · have hk : sv.toInt.toNat = 7 := by omega
    rw [hk] at h
    exact lw_c7 hR hi hL h kk
  rw [mm_swl]
  refine wp_if (fun hs => ?_) (fun hs => ?_)
  · have hk : sv.toInt.toNat = 8 := by omega
    rw [hk] at h
    exact lw_c8 hR hi hL h kk
  rw [mm_swl]
  refine wp_if (fun hs => ?_) (fun hs => ?_)
  · have hk : sv.toInt.toNat = 9 := by omega
    rw [hk] at h
    exact lw_c9 hR hi hL h kk
  rw [mm_swl]
  refine wp_if (fun hs => ?_) (fun hs => ?_)
  · have hk : sv.toInt.toNat = 10 := by omega
    rw [hk] at h
    exact lw_c10 hR hi hL h kk
  rw [mm_swl]
  refine wp_if (fun hs => ?_) (fun hs => ?_)
  · have hk : sv.toInt.toNat = 11 := by omega
    rw [hk] at h
    exact lw_c11 hR hi hL h kk
  rw [mm_swl]
  refine wp_if (fun hs => ?_) (fun hs => ?_)
  · have hk : sv.toInt.toNat = 12 := by omega
    rw [hk] at h
    exact lw_c12 hR hi hL h kk
  rw [mm_swl]
  refine wp_if (fun hs => ?_) (fun hs => ?_)
  · have hk : sv.toInt.toNat = 13 := by omega
    rw [hk] at h
    exact lw_c13 hR hi hL h kk
  rw [mm_swl]
  refine wp_if (fun hs => ?_) (fun hs => ?_)
  · have hk : sv.toInt.toNat = 14 := by omega
    rw [hk] at h
    exact lw_c14 hR hi hL h kk
  rw [mm_swl]
  refine wp_if (fun hs => ?_) (fun hs => ?_)
  · have hk : sv.toInt.toNat = 15 := by omega
    rw [hk] at h
    exact lw_c15 hR hi hL h kk
  rw [mm_swl]
  refine wp_if (fun hs => ?_) (fun hs => ?_)
  · have hk : sv.toInt.toNat = 16 := by omega
    rw [hk] at h
    exact lw_c16 hR hi hL h kk
  rw [mm_swl]
  refine wp_if (fun hs => ?_) (fun hs => ?_)
  · have hk : sv.toInt.toNat = 17 := by omega
    rw [hk] at h
    exact lw_c17 hR hi hL h kk
  rw [mm_swl]
  refine wp_if (fun hs => ?_) (fun hs => ?_)
  · have hk : sv.toInt.toNat = 18 := by omega
    rw [hk] at h
    exact lw_c18 hR hi hL h kk
  rw [mm_swl]
  refine wp_if (fun hs => ?_) (fun hs => ?_)
  · have hk : sv.toInt.toNat = 19 := by omega
    rw [hk] at h
    exact lw_c19 hR hi hL h kk
  rw [mm_swl]
  refine wp_if (fun hs => ?_) (fun hs => ?_)
  · have hk : sv.toInt.toNat = 20 := by omega
    rw [hk] at h
    exact lw_c20 hR hi hL h kk
  rw [mm_swl]
  refine wp_if (fun hs => ?_) (fun hs => ?_)
  · have hk : sv.toInt.toNat = 21 := by omega
    rw [hk] at h
    exact lw_c21 hR hi hL h kk
  rw [mm_swl]
  refine wp_if (fun hs => ?_) (fun hs => ?_)
  · have hk : sv.toInt.toNat = 22 := by omega
    rw [hk] at h
    exact lw_c22 hR hi hL h kk
  rw [mm_swl]
  refine wp_if (fun hs => ?_) (fun hs => ?_)
  · have hk : sv.toInt.toNat = 23 := by omega
    rw [hk] at h
    exact lw_c23 hR hi hL h kk
  rw [mm_swl]
  refine wp_if (fun hs => ?_) (fun hs => ?_)
  · have hk : sv.toInt.toNat = 24 := by omega
    rw [hk] at h
    exact lw_c24 hR hi hL h kk
  rw [mm_swl]
  refine wp_if (fun hs => ?_) (fun hs => ?_)
  · have hk : sv.toInt.toNat = 25 := by omega
    rw [hk] at h
    exact lw_c25 hR hi hL h kk
  rw [mm_swl]
  refine wp_if (fun hs => ?_) (fun hs => ?_)
  · have hk : sv.toInt.toNat = 26 := by omega
    rw [hk] at h
    exact lw_c26 hR hi hL h kk
  rw [mm_swl]
  refine wp_if (fun hs => ?_) (fun hs => ?_)
  · have hk : sv.toInt.toNat = 27 := by omega
    rw [hk] at h
    exact lw_c27 hR hi hL h kk
  rw [mm_swl]
  refine wp_if (fun hs => ?_) (fun hs => ?_)
  · have hk : sv.toInt.toNat = 28 := by omega
    rw [hk] at h
    exact lw_c28 hR hi hL h kk
  rw [mm_swl]
  refine wp_if (fun hs => ?_) (fun hs => ?_)
  · have hk : sv.toInt.toNat = 29 := by omega
    rw [hk] at h
    exact lw_c29 hR hi hL h kk
  rw [mm_swl]
  refine wp_if (fun hs => ?_) (fun hs => ?_)
  · have hk : sv.toInt.toNat = 30 := by omega
    rw [hk] at h
    exact lw_c30 hR hi hL h kk
  rw [mm_swl]
  refine wp_if (fun hs => ?_) (fun hs => ?_)
  · have hk : sv.toInt.toNat = 31 := by omega
    rw [hk] at h
    exact lw_c31 hR hi hL h kk
  rw [mm_swl]
  refine wp_if (fun hs => ?_) (fun hs => ?_)
  · have hk : sv.toInt.toNat = 32 := by omega
    rw [hk] at h
    exact lw_c32 hR hi hL h kk
  rw [mm_swl]
  refine wp_if (fun hs => ?_) (fun hs => ?_)
  · have hk : sv.toInt.toNat = 33 := by omega
    rw [hk] at h
    exact lw_c33 hR hi hL h kk
  rw [mm_swl]
  refine wp_if (fun hs => ?_) (fun hs => ?_)
  · have hk : sv.toInt.toNat = 34 := by omega
    rw [hk] at h
    exact lw_c34 hR hi hL h kk
  rw [mm_swl]
  refine wp_if (fun hs => ?_) (fun hs => ?_)
  · have hk : sv.toInt.toNat = 35 := by omega
    rw [hk] at h
    exact lw_c35 hR hi hL h kk
  rw [mm_swl]
  refine wp_if (fun hs => ?_) (fun hs => ?_)
  · have hk : sv.toInt.toNat = 36 := by omega
    rw [hk] at h
    exact lw_c36 hR hi hL h kk
  rw [mm_swl]
  refine wp_if (fun hs => ?_) (fun hs => ?_)
  · have hk : sv.toInt.toNat = 37 := by omega
    rw [hk] at h
    exact lw_c37 hR hi hL h kk
  rw [mm_swl]
  refine wp_if (fun hs => ?_) (fun hs => ?_)
  · have hk : sv.toInt.toNat = 38 := by omega
    rw [hk] at h
    exact lw_c38 hR hi hL h kk
  rw [mm_swl]
  refine wp_if (fun hs => ?_) (fun hs => ?_)
  · have hk : sv.toInt.toNat = 39 := by omega
    rw [hk] at h
    exact lw_c39 hR hi hL h kk
  have hk : 40 ≤ sv.toInt.toNat := by omega
  have hM : M2 = M := by
    generalize sv.toInt.toNat = k9 at h hk
    unfold lw_case at h
    split at h <;> first | omega | exact h
  subst hM
  exact kk
