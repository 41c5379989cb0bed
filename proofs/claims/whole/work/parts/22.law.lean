/-! The law's own walk. -/
def lw_R (L : Nat) (xs : Nat → Int32) (M : mm_M) : Prop := M.1 1000001 = (110, L, []) ∧ (∀ j, M.2.2.1 1000001 j = xs j) ∧ (M.1 0).1 = 7 ∧ 0 < M.2.1.1 ∧ (M.1 598).1 = 8 ∧ 598 < M.2.1.1
def lw_ok (E : mm_EV) (L : Nat) (xs : Nat → Int32) (xm mm : Nat) (vs : List Value) (M M' : mm_M) : Prop := ∃ (r : Int32) (M1 : mm_M), E xm (.ref 0 :: vs) M (some (.int r), M1) ∧ lw_R L xs M1 ∧ E mm (.ref 598 :: vs) M1 (some (.int r), M') ∧ lw_R L xs M'
theorem lw_nI {i j : Nat} {x : Int32} (hx : x = nI j) (hj : i + j < 2 ^ 31) : ¬ nI i + x < 0 ∧ (nI i + x).toNatClampNeg = i + j := by
  have e : nI i + x = nI (i + j) := by
    subst hx
    show Int32.ofNat i + Int32.ofNat j = Int32.ofNat (i + j)
    rw [Int32.ofNat_add]
  rw [e]
  exact ⟨nI_pos hj, nI_clamp hj⟩
theorem wp_scr {E : mm_EV} {me pc r1 r2 i j L : Nat} {xs : Nat → Int32} {cd : Nat → Option mm_In} {Lc : List (Option Value)} {M : mm_M} {r : List Value} {x : Int32} {Q : mm_Rs → Prop} (hc : (mm_CM me).2.2.2.2.2.2.2 = cd) (hi : cd pc = some (.iaload, 1, r1, r2)) (hR : lw_R L xs M) (hj : i + j < L) (hL : L ≤ 3072) (hx : x = nI j) (k : mm_wp E me (pc + 1, Lc, .int (xs (i + j)) :: r, M) Q) : mm_wp E me (pc, Lc, .int (nI i + x) :: .ref 1000001 :: r, M) Q := by
  obtain ⟨g1, g2⟩ := lw_nI (i := i) hx (by omega)
  refine wp_fld hc hi (by decide) (by rw [hR.1]) g1 (by rw [g2, hR.1]; exact hj) ?_
  rw [g2, hR.2.1]
  exact k
def lw_case (E : mm_EV) (L : Nat) (xs : Nat → Int32) (i k : Nat) (M M' : mm_M) : Prop := match k with
  | 0 => lw_ok E L xs 85 213 [.int (xs (i + 1)), .int (xs (i + 2))] M M'
  | 1 => lw_ok E L xs 86 158 [.int (xs (i + 1)), .int (xs (i + 2)), .int (xs (i + 3)), .int (xs (i + 4)), .int (xs (i + 5))] M M'
  | 2 => lw_ok E L xs 87 159 [.int (xs (i + 1))] M M'
  | 3 => lw_ok E L xs 88 161 [.int (xs (i + 1)), .int (xs (i + 2)), .int (xs (i + 3)), .int (xs (i + 4)), .int (xs (i + 5))] M M'
  | 4 => lw_ok E L xs 89 162 [.int (xs (i + 1))] M M'
  | 5 => lw_ok E L xs 90 197 [] M M'
  | 6 => lw_ok E L xs 91 198 [.int (xs (i + 1))] M M'
  | 7 => lw_ok E L xs 92 199 [.int (xs (i + 1))] M M'
  | 8 => lw_ok E L xs 93 226 [.int (xs (i + 1))] M M'
  | 9 => lw_ok E L xs 94 227 [.int (xs (i + 1)), .int (xs (i + 2))] M M'
  | 10 => lw_ok E L xs 95 228 [.int (xs (i + 1))] M M'
  | 11 => lw_ok E L xs 96 229 [.int (xs (i + 1)), .int (xs (i + 2)), .int (xs (i + 3))] M M'
  | 12 => lw_ok E L xs 97 230 [.int (if xs (i + 1) = 0 then 0 else 1)] M M'
  | 13 => lw_ok E L xs 98 232 [.int (xs (i + 1))] M M'
  | 14 => lw_ok E L xs 99 234 [.int (xs (i + 1)), .int (xs (i + 2))] M M'
  | 15 => lw_ok E L xs 100 215 [] M M'
  | 16 => lw_ok E L xs 101 235 [.int (xs (i + 1)), .int (xs (i + 2))] M M'
  | 17 => lw_ok E L xs 102 236 [.int (xs (i + 1)), .int (xs (i + 2))] M M'
  | 18 => lw_ok E L xs 103 237 [.int (xs (i + 1)), .int (xs (i + 2))] M M'
  | 19 => lw_ok E L xs 104 212 [.int (xs (i + 1)), .int (xs (i + 2)), .int (if xs (i + 3) = 0 then 0 else 1)] M M'
  | 20 => lw_ok E L xs 105 238 [.int (xs (i + 1)), .int (xs (i + 2))] M M'
  | 21 => lw_ok E L xs 106 245 [.int (xs (i + 1))] M M'
  | 22 => lw_ok E L xs 107 247 [.int (xs (i + 1)), .int (if xs (i + 2) = 0 then 0 else 1)] M M'
  | 23 => lw_ok E L xs 108 259 [.int (xs (i + 1)), .int (xs (i + 2)), .int (xs (i + 3))] M M'
  | 24 => lw_ok E L xs 109 261 [.int (xs (i + 1)), .int (xs (i + 2))] M M'
  | 25 => lw_ok E L xs 110 262 [.int (xs (i + 1))] M M'
  | 26 => lw_ok E L xs 111 264 [] M M'
  | 27 => lw_ok E L xs 112 266 [.int (xs (i + 1)), .int (xs (i + 2))] M M'
  | 28 => lw_ok E L xs 113 271 [.int (xs (i + 1)), .int (xs (i + 2)), .int (xs (i + 3)), .int (xs (i + 4)), .int (xs (i + 5))] M M'
  | 29 => lw_ok E L xs 114 274 [.int (xs (i + 1)), .int (xs (i + 2)), .int (xs (i + 3)), .int (if xs (i + 4) = 0 then 0 else 1)] M M'
  | 30 => lw_ok E L xs 115 275 [.int (xs (i + 1)), .int (xs (i + 2)), .int (xs (i + 3)), .int (if xs (i + 4) = 0 then 0 else 1)] M M'
  | 31 => lw_ok E L xs 116 277 [.int (xs (i + 1))] M M'
  | 32 => lw_ok E L xs 117 278 [.int (xs (i + 1))] M M'
  | 33 => lw_ok E L xs 118 279 [.int (xs (i + 1)), .int (xs (i + 2)), .int (if xs (i + 3) = 0 then 0 else 1), .int (if xs (i + 4) = 0 then 0 else 1)] M M'
  | 34 => lw_ok E L xs 119 282 [.int (xs (i + 1))] M M'
  | 35 => lw_ok E L xs 120 283 [.int (xs (i + 1))] M M'
  | 36 => lw_ok E L xs 121 284 [.int (xs (i + 1))] M M'
  | 37 => lw_ok E L xs 122 285 [] M M'
  | 38 => lw_ok E L xs 123 286 [] M M'
  | 39 => lw_ok E L xs 124 287 [.int (xs (i + 1))] M M'
  | _ => M' = M
set_option maxRecDepth 100000 in
theorem lw_c0 {E : mm_EV} {L : Nat} {xs : Nat → Int32} {i : Nat} {M M2 : mm_M} {Q : mm_Rs → Prop} (hR : lw_R L xs M) (hi : i + 6 ≤ L) (hL : L ≤ 3072) (h : lw_ok E L xs 85 213 [.int (xs (i + 1)), .int (xs (i + 2))] M M2)
    (kk : mm_wp E 289 (1560, [some (.ref 1000001), some (.ref 0), some (.ref 598), some (.int (nI i))], [], M2) Q) : mm_wp E 289 (208, [some (.ref 1000001), some (.ref 0), some (.ref 598), some (.int (nI i))], [], M) Q := by
  have hc : (mm_CM 289).2.2.2.2.2.2.2 = mm_cf cd_289 := by rw [cm_289]; rfl
  obtain ⟨r, M1, h1, hR1, h2, hR2⟩ := h
  refine wp_go hc 5 (z' := (213, [some (.ref 1000001), some (.ref 0), some (.ref 598), some (.int (nI i))], [.int (nI i + 1), .ref 1000001, .ref 0], M)) rfl ?_
  refine wp_scr (j := 1) (i := i) hc rfl hR (by omega) hL (by decide) ?_
  refine wp_go hc 4 (z' := (218, [some (.ref 1000001), some (.ref 0), some (.ref 598), some (.int (nI i))], [.int (nI i + 2), .ref 1000001, .int (xs (i + 1)), .ref 0], M)) rfl ?_
  refine wp_scr (j := 2) (i := i) hc rfl hR (by omega) hL (by decide) ?_
  refine wp_cv (As := [.int (xs (i + 1)), .int (xs (i + 2))]) (b := 0) (r := []) hc rfl (by rw [cm_85]; rfl) rfl (Nat.le_of_ble_eq_true rfl) hR.2.2.2.1 (by rw [cm_85]; exact hR.2.2.1) h1 ?_
  show mm_wp E 289 (222, [some (.ref 1000001), some (.ref 0), some (.ref 598), some (.int (nI i))], [.int r], M1) Q
  refine wp_go hc 5 (z' := (227, [some (.ref 1000001), some (.ref 0), some (.ref 598), some (.int (nI i))], [.int (nI i + 1), .ref 1000001, .ref 598, .int r], M1)) rfl ?_
  refine wp_scr (j := 1) (i := i) hc rfl hR1 (by omega) hL (by decide) ?_
  refine wp_go hc 4 (z' := (232, [some (.ref 1000001), some (.ref 0), some (.ref 598), some (.int (nI i))], [.int (nI i + 2), .ref 1000001, .int (xs (i + 1)), .ref 598, .int r], M1)) rfl ?_
  refine wp_scr (j := 2) (i := i) hc rfl hR1 (by omega) hL (by decide) ?_
  refine wp_cv (As := [.int (xs (i + 1)), .int (xs (i + 2))]) (b := 598) (r := [.int r]) hc rfl (by rw [cm_213]; rfl) rfl (Nat.le_of_ble_eq_true rfl) hR1.2.2.2.2.2 (by rw [cm_213]; exact hR1.2.2.2.2.1) h2 ?_
  show mm_wp E 289 (236, [some (.ref 1000001), some (.ref 0), some (.ref 598), some (.int (nI i))], [.int r, .int r], M2) Q
  refine wp_go hc 1 (z' := if r = r then (1560, [some (.ref 1000001), some (.ref 0), some (.ref 598), some (.int (nI i))], [], M2) else (239, [some (.ref 1000001), some (.ref 0), some (.ref 598), some (.int (nI i))], [], M2)) rfl ?_
  rw [if_pos rfl]
  exact kk
set_option maxRecDepth 100000 in
theorem lw_c1 {E : mm_EV} {L : Nat} {xs : Nat → Int32} {i : Nat} {M M2 : mm_M} {Q : mm_Rs → Prop} (hR : lw_R L xs M) (hi : i + 6 ≤ L) (hL : L ≤ 3072) (h : lw_ok E L xs 86 158 [.int (xs (i + 1)), .int (xs (i + 2)), .int (xs (i + 3)), .int (xs (i + 4)), .int (xs (i + 5))] M M2)
    (kk : mm_wp E 289 (1560, [some (.ref 1000001), some (.ref 0), some (.ref 598), some (.int (nI i))], [], M2) Q) : mm_wp E 289 (241, [some (.ref 1000001), some (.ref 0), some (.ref 598), some (.int (nI i))], [], M) Q := by
  have hc : (mm_CM 289).2.2.2.2.2.2.2 = mm_cf cd_289 := by rw [cm_289]; rfl
  obtain ⟨r, M1, h1, hR1, h2, hR2⟩ := h
  refine wp_go hc 5 (z' := (246, [some (.ref 1000001), some (.ref 0), some (.ref 598), some (.int (nI i))], [.int (nI i + 1), .ref 1000001, .ref 0], M)) rfl ?_
  refine wp_scr (j := 1) (i := i) hc rfl hR (by omega) hL (by decide) ?_
  refine wp_go hc 4 (z' := (251, [some (.ref 1000001), some (.ref 0), some (.ref 598), some (.int (nI i))], [.int (nI i + 2), .ref 1000001, .int (xs (i + 1)), .ref 0], M)) rfl ?_
  refine wp_scr (j := 2) (i := i) hc rfl hR (by omega) hL (by decide) ?_
  refine wp_go hc 4 (z' := (256, [some (.ref 1000001), some (.ref 0), some (.ref 598), some (.int (nI i))], [.int (nI i + 3), .ref 1000001, .int (xs (i + 2)), .int (xs (i + 1)), .ref 0], M)) rfl ?_
  refine wp_scr (j := 3) (i := i) hc rfl hR (by omega) hL (by decide) ?_
  refine wp_go hc 4 (z' := (261, [some (.ref 1000001), some (.ref 0), some (.ref 598), some (.int (nI i))], [.int (nI i + 4), .ref 1000001, .int (xs (i + 3)), .int (xs (i + 2)), .int (xs (i + 1)), .ref 0], M)) rfl ?_
  refine wp_scr (j := 4) (i := i) hc rfl hR (by omega) hL (by decide) ?_
  refine wp_go hc 4 (z' := (266, [some (.ref 1000001), some (.ref 0), some (.ref 598), some (.int (nI i))], [.int (nI i + 5), .ref 1000001, .int (xs (i + 4)), .int (xs (i + 3)), .int (xs (i + 2)), .int (xs (i + 1)), .ref 0], M)) rfl ?_
  refine wp_scr (j := 5) (i := i) hc rfl hR (by omega) hL (by decide) ?_
  refine wp_cv (As := [.int (xs (i + 1)), .int (xs (i + 2)), .int (xs (i + 3)), .int (xs (i + 4)), .int (xs (i + 5))]) (b := 0) (r := []) hc rfl (by rw [cm_86]; rfl) rfl (Nat.le_of_ble_eq_true rfl) hR.2.2.2.1 (by rw [cm_86]; exact hR.2.2.1) h1 ?_
  show mm_wp E 289 (270, [some (.ref 1000001), some (.ref 0), some (.ref 598), some (.int (nI i))], [.int r], M1) Q
  refine wp_go hc 5 (z' := (275, [some (.ref 1000001), some (.ref 0), some (.ref 598), some (.int (nI i))], [.int (nI i + 1), .ref 1000001, .ref 598, .int r], M1)) rfl ?_
  refine wp_scr (j := 1) (i := i) hc rfl hR1 (by omega) hL (by decide) ?_
  refine wp_go hc 4 (z' := (280, [some (.ref 1000001), some (.ref 0), some (.ref 598), some (.int (nI i))], [.int (nI i + 2), .ref 1000001, .int (xs (i + 1)), .ref 598, .int r], M1)) rfl ?_
  refine wp_scr (j := 2) (i := i) hc rfl hR1 (by omega) hL (by decide) ?_
  refine wp_go hc 4 (z' := (285, [some (.ref 1000001), some (.ref 0), some (.ref 598), some (.int (nI i))], [.int (nI i + 3), .ref 1000001, .int (xs (i + 2)), .int (xs (i + 1)), .ref 598, .int r], M1)) rfl ?_
  refine wp_scr (j := 3) (i := i) hc rfl hR1 (by omega) hL (by decide) ?_
  refine wp_go hc 4 (z' := (290, [some (.ref 1000001), some (.ref 0), some (.ref 598), some (.int (nI i))], [.int (nI i + 4), .ref 1000001, .int (xs (i + 3)), .int (xs (i + 2)), .int (xs (i + 1)), .ref 598, .int r], M1)) rfl ?_
  refine wp_scr (j := 4) (i := i) hc rfl hR1 (by omega) hL (by decide) ?_
  refine wp_go hc 4 (z' := (295, [some (.ref 1000001), some (.ref 0), some (.ref 598), some (.int (nI i))], [.int (nI i + 5), .ref 1000001, .int (xs (i + 4)), .int (xs (i + 3)), .int (xs (i + 2)), .int (xs (i + 1)), .ref 598, .int r], M1)) rfl ?_
  refine wp_scr (j := 5) (i := i) hc rfl hR1 (by omega) hL (by decide) ?_
  refine wp_cv (As := [.int (xs (i + 1)), .int (xs (i + 2)), .int (xs (i + 3)), .int (xs (i + 4)), .int (xs (i + 5))]) (b := 598) (r := [.int r]) hc rfl (by rw [cm_158]; rfl) rfl (Nat.le_of_ble_eq_true rfl) hR1.2.2.2.2.2 (by rw [cm_158]; exact hR1.2.2.2.2.1) h2 ?_
  show mm_wp E 289 (299, [some (.ref 1000001), some (.ref 0), some (.ref 598), some (.int (nI i))], [.int r, .int r], M2) Q
  refine wp_go hc 1 (z' := if r = r then (1560, [some (.ref 1000001), some (.ref 0), some (.ref 598), some (.int (nI i))], [], M2) else (302, [some (.ref 1000001), some (.ref 0), some (.ref 598), some (.int (nI i))], [], M2)) rfl ?_
  rw [if_pos rfl]
  exact kk
set_option maxRecDepth 100000 in
theorem lw_c2 {E : mm_EV} {L : Nat} {xs : Nat → Int32} {i : Nat} {M M2 : mm_M} {Q : mm_Rs → Prop} (hR : lw_R L xs M) (hi : i + 6 ≤ L) (hL : L ≤ 3072) (h : lw_ok E L xs 87 159 [.int (xs (i + 1))] M M2)
    (kk : mm_wp E 289 (1560, [some (.ref 1000001), some (.ref 0), some (.ref 598), some (.int (nI i))], [], M2) Q) : mm_wp E 289 (304, [some (.ref 1000001), some (.ref 0), some (.ref 598), some (.int (nI i))], [], M) Q := by
  have hc : (mm_CM 289).2.2.2.2.2.2.2 = mm_cf cd_289 := by rw [cm_289]; rfl
  obtain ⟨r, M1, h1, hR1, h2, hR2⟩ := h
  refine wp_go hc 5 (z' := (309, [some (.ref 1000001), some (.ref 0), some (.ref 598), some (.int (nI i))], [.int (nI i + 1), .ref 1000001, .ref 0], M)) rfl ?_
  refine wp_scr (j := 1) (i := i) hc rfl hR (by omega) hL (by decide) ?_
  refine wp_cv (As := [.int (xs (i + 1))]) (b := 0) (r := []) hc rfl (by rw [cm_87]; rfl) rfl (Nat.le_of_ble_eq_true rfl) hR.2.2.2.1 (by rw [cm_87]; exact hR.2.2.1) h1 ?_
  show mm_wp E 289 (313, [some (.ref 1000001), some (.ref 0), some (.ref 598), some (.int (nI i))], [.int r], M1) Q
  refine wp_go hc 5 (z' := (318, [some (.ref 1000001), some (.ref 0), some (.ref 598), some (.int (nI i))], [.int (nI i + 1), .ref 1000001, .ref 598, .int r], M1)) rfl ?_
  refine wp_scr (j := 1) (i := i) hc rfl hR1 (by omega) hL (by decide) ?_
  refine wp_cv (As := [.int (xs (i + 1))]) (b := 598) (r := [.int r]) hc rfl (by rw [cm_159]; rfl) rfl (Nat.le_of_ble_eq_true rfl) hR1.2.2.2.2.2 (by rw [cm_159]; exact hR1.2.2.2.2.1) h2 ?_
  show mm_wp E 289 (322, [some (.ref 1000001), some (.ref 0), some (.ref 598), some (.int (nI i))], [.int r, .int r], M2) Q
  refine wp_go hc 1 (z' := if r = r then (1560, [some (.ref 1000001), some (.ref 0), some (.ref 598), some (.int (nI i))], [], M2) else (325, [some (.ref 1000001), some (.ref 0), some (.ref 598), some (.int (nI i))], [], M2)) rfl ?_
  rw [if_pos rfl]
  exact kk
set_option maxRecDepth 100000 in
theorem lw_c3 {E : mm_EV} {L : Nat} {xs : Nat → Int32} {i : Nat} {M M2 : mm_M} {Q : mm_Rs → Prop} (hR : lw_R L xs M) (hi : i + 6 ≤ L) (hL : L ≤ 3072) (h : lw_ok E L xs 88 161 [.int (xs (i + 1)), .int (xs (i + 2)), .int (xs (i + 3)), .int (xs (i + 4)), .int (xs (i + 5))] M M2)
    (kk : mm_wp E 289 (1560, [some (.ref 1000001), some (.ref 0), some (.ref 598), some (.int (nI i))], [], M2) Q) : mm_wp E 289 (327, [some (.ref 1000001), some (.ref 0), some (.ref 598), some (.int (nI i))], [], M) Q := by
  have hc : (mm_CM 289).2.2.2.2.2.2.2 = mm_cf cd_289 := by rw [cm_289]; rfl
  obtain ⟨r, M1, h1, hR1, h2, hR2⟩ := h
  refine wp_go hc 5 (z' := (332, [some (.ref 1000001), some (.ref 0), some (.ref 598), some (.int (nI i))], [.int (nI i + 1), .ref 1000001, .ref 0], M)) rfl ?_
  refine wp_scr (j := 1) (i := i) hc rfl hR (by omega) hL (by decide) ?_
  refine wp_go hc 4 (z' := (337, [some (.ref 1000001), some (.ref 0), some (.ref 598), some (.int (nI i))], [.int (nI i + 2), .ref 1000001, .int (xs (i + 1)), .ref 0], M)) rfl ?_
  refine wp_scr (j := 2) (i := i) hc rfl hR (by omega) hL (by decide) ?_
  refine wp_go hc 4 (z' := (342, [some (.ref 1000001), some (.ref 0), some (.ref 598), some (.int (nI i))], [.int (nI i + 3), .ref 1000001, .int (xs (i + 2)), .int (xs (i + 1)), .ref 0], M)) rfl ?_
  refine wp_scr (j := 3) (i := i) hc rfl hR (by omega) hL (by decide) ?_
  refine wp_go hc 4 (z' := (347, [some (.ref 1000001), some (.ref 0), some (.ref 598), some (.int (nI i))], [.int (nI i + 4), .ref 1000001, .int (xs (i + 3)), .int (xs (i + 2)), .int (xs (i + 1)), .ref 0], M)) rfl ?_
  refine wp_scr (j := 4) (i := i) hc rfl hR (by omega) hL (by decide) ?_
  refine wp_go hc 4 (z' := (352, [some (.ref 1000001), some (.ref 0), some (.ref 598), some (.int (nI i))], [.int (nI i + 5), .ref 1000001, .int (xs (i + 4)), .int (xs (i + 3)), .int (xs (i + 2)), .int (xs (i + 1)), .ref 0], M)) rfl ?_
  refine wp_scr (j := 5) (i := i) hc rfl hR (by omega) hL (by decide) ?_
  refine wp_cv (As := [.int (xs (i + 1)), .int (xs (i + 2)), .int (xs (i + 3)), .int (xs (i + 4)), .int (xs (i + 5))]) (b := 0) (r := []) hc rfl (by rw [cm_88]; rfl) rfl (Nat.le_of_ble_eq_true rfl) hR.2.2.2.1 (by rw [cm_88]; exact hR.2.2.1) h1 ?_
  show mm_wp E 289 (356, [some (.ref 1000001), some (.ref 0), some (.ref 598), some (.int (nI i))], [.int r], M1) Q
  refine wp_go hc 5 (z' := (361, [some (.ref 1000001), some (.ref 0), some (.ref 598), some (.int (nI i))], [.int (nI i + 1), .ref 1000001, .ref 598, .int r], M1)) rfl ?_
  refine wp_scr (j := 1) (i := i) hc rfl hR1 (by omega) hL (by decide) ?_
  refine wp_go hc 4 (z' := (366, [some (.ref 1000001), some (.ref 0), some (.ref 598), some (.int (nI i))], [.int (nI i + 2), .ref 1000001, .int (xs (i + 1)), .ref 598, .int r], M1)) rfl ?_
  refine wp_scr (j := 2) (i := i) hc rfl hR1 (by omega) hL (by decide) ?_
  refine wp_go hc 4 (z' := (371, [some (.ref 1000001), some (.ref 0), some (.ref 598), some (.int (nI i))], [.int (nI i + 3), .ref 1000001, .int (xs (i + 2)), .int (xs (i + 1)), .ref 598, .int r], M1)) rfl ?_
  refine wp_scr (j := 3) (i := i) hc rfl hR1 (by omega) hL (by decide) ?_
  refine wp_go hc 4 (z' := (376, [some (.ref 1000001), some (.ref 0), some (.ref 598), some (.int (nI i))], [.int (nI i + 4), .ref 1000001, .int (xs (i + 3)), .int (xs (i + 2)), .int (xs (i + 1)), .ref 598, .int r], M1)) rfl ?_
  refine wp_scr (j := 4) (i := i) hc rfl hR1 (by omega) hL (by decide) ?_
  refine wp_go hc 4 (z' := (381, [some (.ref 1000001), some (.ref 0), some (.ref 598), some (.int (nI i))], [.int (nI i + 5), .ref 1000001, .int (xs (i + 4)), .int (xs (i + 3)), .int (xs (i + 2)), .int (xs (i + 1)), .ref 598, .int r], M1)) rfl ?_
  refine wp_scr (j := 5) (i := i) hc rfl hR1 (by omega) hL (by decide) ?_
  refine wp_cv (As := [.int (xs (i + 1)), .int (xs (i + 2)), .int (xs (i + 3)), .int (xs (i + 4)), .int (xs (i + 5))]) (b := 598) (r := [.int r]) hc rfl (by rw [cm_161]; rfl) rfl (Nat.le_of_ble_eq_true rfl) hR1.2.2.2.2.2 (by rw [cm_161]; exact hR1.2.2.2.2.1) h2 ?_
  show mm_wp E 289 (385, [some (.ref 1000001), some (.ref 0), some (.ref 598), some (.int (nI i))], [.int r, .int r], M2) Q
  refine wp_go hc 1 (z' := if r = r then (1560, [some (.ref 1000001), some (.ref 0), some (.ref 598), some (.int (nI i))], [], M2) else (388, [some (.ref 1000001), some (.ref 0), some (.ref 598), some (.int (nI i))], [], M2)) rfl ?_
  rw [if_pos rfl]
  exact kk
set_option maxRecDepth 100000 in
theorem lw_c4 {E : mm_EV} {L : Nat} {xs : Nat → Int32} {i : Nat} {M M2 : mm_M} {Q : mm_Rs → Prop} (hR : lw_R L xs M) (hi : i + 6 ≤ L) (hL : L ≤ 3072) (h : lw_ok E L xs 89 162 [.int (xs (i + 1))] M M2)
    (kk : mm_wp E 289 (1560, [some (.ref 1000001), some (.ref 0), some (.ref 598), some (.int (nI i))], [], M2) Q) : mm_wp E 289 (390, [some (.ref 1000001), some (.ref 0), some (.ref 598), some (.int (nI i))], [], M) Q := by
  have hc : (mm_CM 289).2.2.2.2.2.2.2 = mm_cf cd_289 := by rw [cm_289]; rfl
  obtain ⟨r, M1, h1, hR1, h2, hR2⟩ := h
  refine wp_go hc 5 (z' := (395, [some (.ref 1000001), some (.ref 0), some (.ref 598), some (.int (nI i))], [.int (nI i + 1), .ref 1000001, .ref 0], M)) rfl ?_
  refine wp_scr (j := 1) (i := i) hc rfl hR (by omega) hL (by decide) ?_
  refine wp_cv (As := [.int (xs (i + 1))]) (b := 0) (r := []) hc rfl (by rw [cm_89]; rfl) rfl (Nat.le_of_ble_eq_true rfl) hR.2.2.2.1 (by rw [cm_89]; exact hR.2.2.1) h1 ?_
  show mm_wp E 289 (399, [some (.ref 1000001), some (.ref 0), some (.ref 598), some (.int (nI i))], [.int r], M1) Q
  refine wp_go hc 5 (z' := (404, [some (.ref 1000001), some (.ref 0), some (.ref 598), some (.int (nI i))], [.int (nI i + 1), .ref 1000001, .ref 598, .int r], M1)) rfl ?_
  refine wp_scr (j := 1) (i := i) hc rfl hR1 (by omega) hL (by decide) ?_
  refine wp_cv (As := [.int (xs (i + 1))]) (b := 598) (r := [.int r]) hc rfl (by rw [cm_162]; rfl) rfl (Nat.le_of_ble_eq_true rfl) hR1.2.2.2.2.2 (by rw [cm_162]; exact hR1.2.2.2.2.1) h2 ?_
  show mm_wp E 289 (408, [some (.ref 1000001), some (.ref 0), some (.ref 598), some (.int (nI i))], [.int r, .int r], M2) Q
  refine wp_go hc 1 (z' := if r = r then (1560, [some (.ref 1000001), some (.ref 0), some (.ref 598), some (.int (nI i))], [], M2) else (411, [some (.ref 1000001), some (.ref 0), some (.ref 598), some (.int (nI i))], [], M2)) rfl ?_
  rw [if_pos rfl]
  exact kk
set_option maxRecDepth 100000 in
theorem lw_c5 {E : mm_EV} {L : Nat} {xs : Nat → Int32} {i : Nat} {M M2 : mm_M} {Q : mm_Rs → Prop} (hR : lw_R L xs M) (hi : i + 6 ≤ L) (hL : L ≤ 3072) (h : lw_ok E L xs 90 197 [] M M2)
    (kk : mm_wp E 289 (1560, [some (.ref 1000001), some (.ref 0), some (.ref 598), some (.int (nI i))], [], M2) Q) : mm_wp E 289 (413, [some (.ref 1000001), some (.ref 0), some (.ref 598), some (.int (nI i))], [], M) Q := by
  have hc : (mm_CM 289).2.2.2.2.2.2.2 = mm_cf cd_289 := by rw [cm_289]; rfl
  obtain ⟨r, M1, h1, hR1, h2, hR2⟩ := h
  refine wp_go hc 1 (z' := (414, [some (.ref 1000001), some (.ref 0), some (.ref 598), some (.int (nI i))], [.ref 0], M)) rfl ?_
  refine wp_cv (As := []) (b := 0) (r := []) hc rfl (by rw [cm_90]; rfl) rfl (Nat.le_of_ble_eq_true rfl) hR.2.2.2.1 (by rw [cm_90]; exact hR.2.2.1) h1 ?_
  show mm_wp E 289 (417, [some (.ref 1000001), some (.ref 0), some (.ref 598), some (.int (nI i))], [.int r], M1) Q
  refine wp_go hc 1 (z' := (418, [some (.ref 1000001), some (.ref 0), some (.ref 598), some (.int (nI i))], [.ref 598, .int r], M1)) rfl ?_
  refine wp_cv (As := []) (b := 598) (r := [.int r]) hc rfl (by rw [cm_197]; rfl) rfl (Nat.le_of_ble_eq_true rfl) hR1.2.2.2.2.2 (by rw [cm_197]; exact hR1.2.2.2.2.1) h2 ?_
  show mm_wp E 289 (421, [some (.ref 1000001), some (.ref 0), some (.ref 598), some (.int (nI i))], [.int r, .int r], M2) Q
  refine wp_go hc 1 (z' := if r = r then (1560, [some (.ref 1000001), some (.ref 0), some (.ref 598), some (.int (nI i))], [], M2) else (424, [some (.ref 1000001), some (.ref 0), some (.ref 598), some (.int (nI i))], [], M2)) rfl ?_
  rw [if_pos rfl]
  exact kk
set_option maxRecDepth 100000 in
theorem lw_c6 {E : mm_EV} {L : Nat} {xs : Nat → Int32} {i : Nat} {M M2 : mm_M} {Q : mm_Rs → Prop} (hR : lw_R L xs M) (hi : i + 6 ≤ L) (hL : L ≤ 3072) (h : lw_ok E L xs 91 198 [.int (xs (i + 1))] M M2)
    (kk : mm_wp E 289 (1560, [some (.ref 1000001), some (.ref 0), some (.ref 598), some (.int (nI i))], [], M2) Q) : mm_wp E 289 (426, [some (.ref 1000001), some (.ref 0), some (.ref 598), some (.int (nI i))], [], M) Q := by
  have hc : (mm_CM 289).2.2.2.2.2.2.2 = mm_cf cd_289 := by rw [cm_289]; rfl
  obtain ⟨r, M1, h1, hR1, h2, hR2⟩ := h
  refine wp_go hc 5 (z' := (431, [some (.ref 1000001), some (.ref 0), some (.ref 598), some (.int (nI i))], [.int (nI i + 1), .ref 1000001, .ref 0], M)) rfl ?_
  refine wp_scr (j := 1) (i := i) hc rfl hR (by omega) hL (by decide) ?_
  refine wp_cv (As := [.int (xs (i + 1))]) (b := 0) (r := []) hc rfl (by rw [cm_91]; rfl) rfl (Nat.le_of_ble_eq_true rfl) hR.2.2.2.1 (by rw [cm_91]; exact hR.2.2.1) h1 ?_
  show mm_wp E 289 (435, [some (.ref 1000001), some (.ref 0), some (.ref 598), some (.int (nI i))], [.int r], M1) Q
  refine wp_go hc 5 (z' := (440, [some (.ref 1000001), some (.ref 0), some (.ref 598), some (.int (nI i))], [.int (nI i + 1), .ref 1000001, .ref 598, .int r], M1)) rfl ?_
  refine wp_scr (j := 1) (i := i) hc rfl hR1 (by omega) hL (by decide) ?_
  refine wp_cv (As := [.int (xs (i + 1))]) (b := 598) (r := [.int r]) hc rfl (by rw [cm_198]; rfl) rfl (Nat.le_of_ble_eq_true rfl) hR1.2.2.2.2.2 (by rw [cm_198]; exact hR1.2.2.2.2.1) h2 ?_
  show mm_wp E 289 (444, [some (.ref 1000001), some (.ref 0), some (.ref 598), some (.int (nI i))], [.int r, .int r], M2) Q
  refine wp_go hc 1 (z' := if r = r then (1560, [some (.ref 1000001), some (.ref 0), some (.ref 598), some (.int (nI i))], [], M2) else (447, [some (.ref 1000001), some (.ref 0), some (.ref 598), some (.int (nI i))], [], M2)) rfl ?_
  rw [if_pos rfl]
  exact kk
set_option maxRecDepth 100000 in
theorem lw_c7 {E : mm_EV} {L : Nat} {xs : Nat → Int32} {i : Nat} {M M2 : mm_M} {Q : mm_Rs → Prop} (hR : lw_R L xs M) (hi : i + 6 ≤ L) (hL : L ≤ 3072) (h : lw_ok E L xs 92 199 [.int (xs (i + 1))] M M2)
    (kk : mm_wp E 289 (1560, [some (.ref 1000001), some (.ref 0), some (.ref 598), some (.int (nI i))], [], M2) Q) : mm_wp E 289 (449, [some (.ref 1000001), some (.ref 0), some (.ref 598), some (.int (nI i))], [], M) Q := by
  have hc : (mm_CM 289).2.2.2.2.2.2.2 = mm_cf cd_289 := by rw [cm_289]; rfl
  obtain ⟨r, M1, h1, hR1, h2, hR2⟩ := h
  refine wp_go hc 5 (z' := (454, [some (.ref 1000001), some (.ref 0), some (.ref 598), some (.int (nI i))], [.int (nI i + 1), .ref 1000001, .ref 0], M)) rfl ?_
  refine wp_scr (j := 1) (i := i) hc rfl hR (by omega) hL (by decide) ?_
  refine wp_cv (As := [.int (xs (i + 1))]) (b := 0) (r := []) hc rfl (by rw [cm_92]; rfl) rfl (Nat.le_of_ble_eq_true rfl) hR.2.2.2.1 (by rw [cm_92]; exact hR.2.2.1) h1 ?_
  show mm_wp E 289 (458, [some (.ref 1000001), some (.ref 0), some (.ref 598), some (.int (nI i))], [.int r], M1) Q
  refine wp_go hc 5 (z' := (463, [some (.ref 1000001), some (.ref 0), some (.ref 598), some (.int (nI i))], [.int (nI i + 1), .ref 1000001, .ref 598, .int r], M1)) rfl ?_
  refine wp_scr (j := 1) (i := i) hc rfl hR1 (by omega) hL (by decide) ?_
  refine wp_cv (As := [.int (xs (i + 1))]) (b := 598) (r := [.int r]) hc rfl (by rw [cm_199]; rfl) rfl (Nat.le_of_ble_eq_true rfl) hR1.2.2.2.2.2 (by rw [cm_199]; exact hR1.2.2.2.2.1) h2 ?_
  show mm_wp E 289 (467, [some (.ref 1000001), some (.ref 0), some (.ref 598), some (.int (nI i))], [.int r, .int r], M2) Q
  refine wp_go hc 1 (z' := if r = r then (1560, [some (.ref 1000001), some (.ref 0), some (.ref 598), some (.int (nI i))], [], M2) else (470, [some (.ref 1000001), some (.ref 0), some (.ref 598), some (.int (nI i))], [], M2)) rfl ?_
  rw [if_pos rfl]
  exact kk
set_option maxRecDepth 100000 in
theorem lw_c8 {E : mm_EV} {L : Nat} {xs : Nat → Int32} {i : Nat} {M M2 : mm_M} {Q : mm_Rs → Prop} (hR : lw_R L xs M) (hi : i + 6 ≤ L) (hL : L ≤ 3072) (h : lw_ok E L xs 93 226 [.int (xs (i + 1))] M M2)
    (kk : mm_wp E 289 (1560, [some (.ref 1000001), some (.ref 0), some (.ref 598), some (.int (nI i))], [], M2) Q) : mm_wp E 289 (472, [some (.ref 1000001), some (.ref 0), some (.ref 598), some (.int (nI i))], [], M) Q := by
  have hc : (mm_CM 289).2.2.2.2.2.2.2 = mm_cf cd_289 := by rw [cm_289]; rfl
  obtain ⟨r, M1, h1, hR1, h2, hR2⟩ := h
  refine wp_go hc 5 (z' := (477, [some (.ref 1000001), some (.ref 0), some (.ref 598), some (.int (nI i))], [.int (nI i + 1), .ref 1000001, .ref 0], M)) rfl ?_
  refine wp_scr (j := 1) (i := i) hc rfl hR (by omega) hL (by decide) ?_
  refine wp_cv (As := [.int (xs (i + 1))]) (b := 0) (r := []) hc rfl (by rw [cm_93]; rfl) rfl (Nat.le_of_ble_eq_true rfl) hR.2.2.2.1 (by rw [cm_93]; exact hR.2.2.1) h1 ?_
  show mm_wp E 289 (481, [some (.ref 1000001), some (.ref 0), some (.ref 598), some (.int (nI i))], [.int r], M1) Q
  refine wp_go hc 5 (z' := (486, [some (.ref 1000001), some (.ref 0), some (.ref 598), some (.int (nI i))], [.int (nI i + 1), .ref 1000001, .ref 598, .int r], M1)) rfl ?_
  refine wp_scr (j := 1) (i := i) hc rfl hR1 (by omega) hL (by decide) ?_
  refine wp_cv (As := [.int (xs (i + 1))]) (b := 598) (r := [.int r]) hc rfl (by rw [cm_226]; rfl) rfl (Nat.le_of_ble_eq_true rfl) hR1.2.2.2.2.2 (by rw [cm_226]; exact hR1.2.2.2.2.1) h2 ?_
  show mm_wp E 289 (490, [some (.ref 1000001), some (.ref 0), some (.ref 598), some (.int (nI i))], [.int r, .int r], M2) Q
  refine wp_go hc 1 (z' := if r = r then (1560, [some (.ref 1000001), some (.ref 0), some (.ref 598), some (.int (nI i))], [], M2) else (493, [some (.ref 1000001), some (.ref 0), some (.ref 598), some (.int (nI i))], [], M2)) rfl ?_
  rw [if_pos rfl]
  exact kk
set_option maxRecDepth 100000 in
theorem lw_c9 {E : mm_EV} {L : Nat} {xs : Nat → Int32} {i : Nat} {M M2 : mm_M} {Q : mm_Rs → Prop} (hR : lw_R L xs M) (hi : i + 6 ≤ L) (hL : L ≤ 3072) (h : lw_ok E L xs 94 227 [.int (xs (i + 1)), .int (xs (i + 2))] M M2)
    (kk : mm_wp E 289 (1560, [some (.ref 1000001), some (.ref 0), some (.ref 598), some (.int (nI i))], [], M2) Q) : mm_wp E 289 (495, [some (.ref 1000001), some (.ref 0), some (.ref 598), some (.int (nI i))], [], M) Q := by
  have hc : (mm_CM 289).2.2.2.2.2.2.2 = mm_cf cd_289 := by rw [cm_289]; rfl
  obtain ⟨r, M1, h1, hR1, h2, hR2⟩ := h
  refine wp_go hc 5 (z' := (500, [some (.ref 1000001), some (.ref 0), some (.ref 598), some (.int (nI i))], [.int (nI i + 1), .ref 1000001, .ref 0], M)) rfl ?_
  refine wp_scr (j := 1) (i := i) hc rfl hR (by omega) hL (by decide) ?_
  refine wp_go hc 4 (z' := (505, [some (.ref 1000001), some (.ref 0), some (.ref 598), some (.int (nI i))], [.int (nI i + 2), .ref 1000001, .int (xs (i + 1)), .ref 0], M)) rfl ?_
  refine wp_scr (j := 2) (i := i) hc rfl hR (by omega) hL (by decide) ?_
  refine wp_cv (As := [.int (xs (i + 1)), .int (xs (i + 2))]) (b := 0) (r := []) hc rfl (by rw [cm_94]; rfl) rfl (Nat.le_of_ble_eq_true rfl) hR.2.2.2.1 (by rw [cm_94]; exact hR.2.2.1) h1 ?_
  show mm_wp E 289 (509, [some (.ref 1000001), some (.ref 0), some (.ref 598), some (.int (nI i))], [.int r], M1) Q
  refine wp_go hc 5 (z' := (514, [some (.ref 1000001), some (.ref 0), some (.ref 598), some (.int (nI i))], [.int (nI i + 1), .ref 1000001, .ref 598, .int r], M1)) rfl ?_
  refine wp_scr (j := 1) (i := i) hc rfl hR1 (by omega) hL (by decide) ?_
  refine wp_go hc 4 (z' := (519, [some (.ref 1000001), some (.ref 0), some (.ref 598), some (.int (nI i))], [.int (nI i + 2), .ref 1000001, .int (xs (i + 1)), .ref 598, .int r], M1)) rfl ?_
  refine wp_scr (j := 2) (i := i) hc rfl hR1 (by omega) hL (by decide) ?_
  refine wp_cv (As := [.int (xs (i + 1)), .int (xs (i + 2))]) (b := 598) (r := [.int r]) hc rfl (by rw [cm_227]; rfl) rfl (Nat.le_of_ble_eq_true rfl) hR1.2.2.2.2.2 (by rw [cm_227]; exact hR1.2.2.2.2.1) h2 ?_
  show mm_wp E 289 (523, [some (.ref 1000001), some (.ref 0), some (.ref 598), some (.int (nI i))], [.int r, .int r], M2) Q
  refine wp_go hc 1 (z' := if r = r then (1560, [some (.ref 1000001), some (.ref 0), some (.ref 598), some (.int (nI i))], [], M2) else (526, [some (.ref 1000001), some (.ref 0), some (.ref 598), some (.int (nI i))], [], M2)) rfl ?_
  rw [if_pos rfl]
  exact kk
set_option maxRecDepth 100000 in
theorem lw_c10 {E : mm_EV} {L : Nat} {xs : Nat → Int32} {i : Nat} {M M2 : mm_M} {Q : mm_Rs → Prop} (hR : lw_R L xs M) (hi : i + 6 ≤ L) (hL : L ≤ 3072) (h : lw_ok E L xs 95 228 [.int (xs (i + 1))] M M2)
    (kk : mm_wp E 289 (1560, [some (.ref 1000001), some (.ref 0), some (.ref 598), some (.int (nI i))], [], M2) Q) : mm_wp E 289 (528, [some (.ref 1000001), some (.ref 0), some (.ref 598), some (.int (nI i))], [], M) Q := by
  have hc : (mm_CM 289).2.2.2.2.2.2.2 = mm_cf cd_289 := by rw [cm_289]; rfl
  obtain ⟨r, M1, h1, hR1, h2, hR2⟩ := h
  refine wp_go hc 5 (z' := (533, [some (.ref 1000001), some (.ref 0), some (.ref 598), some (.int (nI i))], [.int (nI i + 1), .ref 1000001, .ref 0], M)) rfl ?_
  refine wp_scr (j := 1) (i := i) hc rfl hR (by omega) hL (by decide) ?_
  refine wp_cv (As := [.int (xs (i + 1))]) (b := 0) (r := []) hc rfl (by rw [cm_95]; rfl) rfl (Nat.le_of_ble_eq_true rfl) hR.2.2.2.1 (by rw [cm_95]; exact hR.2.2.1) h1 ?_
  show mm_wp E 289 (537, [some (.ref 1000001), some (.ref 0), some (.ref 598), some (.int (nI i))], [.int r], M1) Q
  refine wp_go hc 5 (z' := (542, [some (.ref 1000001), some (.ref 0), some (.ref 598), some (.int (nI i))], [.int (nI i + 1), .ref 1000001, .ref 598, .int r], M1)) rfl ?_
  refine wp_scr (j := 1) (i := i) hc rfl hR1 (by omega) hL (by decide) ?_
  refine wp_cv (As := [.int (xs (i + 1))]) (b := 598) (r := [.int r]) hc rfl (by rw [cm_228]; rfl) rfl (Nat.le_of_ble_eq_true rfl) hR1.2.2.2.2.2 (by rw [cm_228]; exact hR1.2.2.2.2.1) h2 ?_
  show mm_wp E 289 (546, [some (.ref 1000001), some (.ref 0), some (.ref 598), some (.int (nI i))], [.int r, .int r], M2) Q
  refine wp_go hc 1 (z' := if r = r then (1560, [some (.ref 1000001), some (.ref 0), some (.ref 598), some (.int (nI i))], [], M2) else (549, [some (.ref 1000001), some (.ref 0), some (.ref 598), some (.int (nI i))], [], M2)) rfl ?_
  rw [if_pos rfl]
  exact kk
set_option maxRecDepth 100000 in
theorem lw_c11 {E : mm_EV} {L : Nat} {xs : Nat → Int32} {i : Nat} {M M2 : mm_M} {Q : mm_Rs → Prop} (hR : lw_R L xs M) (hi : i + 6 ≤ L) (hL : L ≤ 3072) (h : lw_ok E L xs 96 229 [.int (xs (i + 1)), .int (xs (i + 2)), .int (xs (i + 3))] M M2)
    (kk : mm_wp E 289 (1560, [some (.ref 1000001), some (.ref 0), some (.ref 598), some (.int (nI i))], [], M2) Q) : mm_wp E 289 (551, [some (.ref 1000001), some (.ref 0), some (.ref 598), some (.int (nI i))], [], M) Q := by
  have hc : (mm_CM 289).2.2.2.2.2.2.2 = mm_cf cd_289 := by rw [cm_289]; rfl
  obtain ⟨r, M1, h1, hR1, h2, hR2⟩ := h
  refine wp_go hc 5 (z' := (556, [some (.ref 1000001), some (.ref 0), some (.ref 598), some (.int (nI i))], [.int (nI i + 1), .ref 1000001, .ref 0], M)) rfl ?_
  refine wp_scr (j := 1) (i := i) hc rfl hR (by omega) hL (by decide) ?_
  refine wp_go hc 4 (z' := (561, [some (.ref 1000001), some (.ref 0), some (.ref 598), some (.int (nI i))], [.int (nI i + 2), .ref 1000001, .int (xs (i + 1)), .ref 0], M)) rfl ?_
  refine wp_scr (j := 2) (i := i) hc rfl hR (by omega) hL (by decide) ?_
  refine wp_go hc 4 (z' := (566, [some (.ref 1000001), some (.ref 0), some (.ref 598), some (.int (nI i))], [.int (nI i + 3), .ref 1000001, .int (xs (i + 2)), .int (xs (i + 1)), .ref 0], M)) rfl ?_
  refine wp_scr (j := 3) (i := i) hc rfl hR (by omega) hL (by decide) ?_
  refine wp_cv (As := [.int (xs (i + 1)), .int (xs (i + 2)), .int (xs (i + 3))]) (b := 0) (r := []) hc rfl (by rw [cm_96]; rfl) rfl (Nat.le_of_ble_eq_true rfl) hR.2.2.2.1 (by rw [cm_96]; exact hR.2.2.1) h1 ?_
  show mm_wp E 289 (570, [some (.ref 1000001), some (.ref 0), some (.ref 598), some (.int (nI i))], [.int r], M1) Q
  refine wp_go hc 5 (z' := (575, [some (.ref 1000001), some (.ref 0), some (.ref 598), some (.int (nI i))], [.int (nI i + 1), .ref 1000001, .ref 598, .int r], M1)) rfl ?_
  refine wp_scr (j := 1) (i := i) hc rfl hR1 (by omega) hL (by decide) ?_
  refine wp_go hc 4 (z' := (580, [some (.ref 1000001), some (.ref 0), some (.ref 598), some (.int (nI i))], [.int (nI i + 2), .ref 1000001, .int (xs (i + 1)), .ref 598, .int r], M1)) rfl ?_
  refine wp_scr (j := 2) (i := i) hc rfl hR1 (by omega) hL (by decide) ?_
  refine wp_go hc 4 (z' := (585, [some (.ref 1000001), some (.ref 0), some (.ref 598), some (.int (nI i))], [.int (nI i + 3), .ref 1000001, .int (xs (i + 2)), .int (xs (i + 1)), .ref 598, .int r], M1)) rfl ?_
  refine wp_scr (j := 3) (i := i) hc rfl hR1 (by omega) hL (by decide) ?_
  refine wp_cv (As := [.int (xs (i + 1)), .int (xs (i + 2)), .int (xs (i + 3))]) (b := 598) (r := [.int r]) hc rfl (by rw [cm_229]; rfl) rfl (Nat.le_of_ble_eq_true rfl) hR1.2.2.2.2.2 (by rw [cm_229]; exact hR1.2.2.2.2.1) h2 ?_
  show mm_wp E 289 (589, [some (.ref 1000001), some (.ref 0), some (.ref 598), some (.int (nI i))], [.int r, .int r], M2) Q
  refine wp_go hc 1 (z' := if r = r then (1560, [some (.ref 1000001), some (.ref 0), some (.ref 598), some (.int (nI i))], [], M2) else (592, [some (.ref 1000001), some (.ref 0), some (.ref 598), some (.int (nI i))], [], M2)) rfl ?_
  rw [if_pos rfl]
  exact kk
set_option maxRecDepth 100000 in
theorem lw_c12 {E : mm_EV} {L : Nat} {xs : Nat → Int32} {i : Nat} {M M2 : mm_M} {Q : mm_Rs → Prop} (hR : lw_R L xs M) (hi : i + 6 ≤ L) (hL : L ≤ 3072) (h : lw_ok E L xs 97 230 [.int (if xs (i + 1) = 0 then 0 else 1)] M M2)
    (kk : mm_wp E 289 (1560, [some (.ref 1000001), some (.ref 0), some (.ref 598), some (.int (nI i))], [], M2) Q) : mm_wp E 289 (594, [some (.ref 1000001), some (.ref 0), some (.ref 598), some (.int (nI i))], [], M) Q := by
  have hc : (mm_CM 289).2.2.2.2.2.2.2 = mm_cf cd_289 := by rw [cm_289]; rfl
  obtain ⟨r, M1, h1, hR1, h2, hR2⟩ := h
  refine wp_go hc 5 (z' := (599, [some (.ref 1000001), some (.ref 0), some (.ref 598), some (.int (nI i))], [.int (nI i + 1), .ref 1000001, .ref 0], M)) rfl ?_
  refine wp_scr (j := 1) (i := i) hc rfl hR (by omega) hL (by decide) ?_
  refine wp_go hc 1 (z' := if xs (i + 1) = 0 then (607, [some (.ref 1000001), some (.ref 0), some (.ref 598), some (.int (nI i))], [.ref 0], M) else (603, [some (.ref 1000001), some (.ref 0), some (.ref 598), some (.int (nI i))], [.ref 0], M)) rfl ?_
  suffices K : mm_wp E 289 (608, [some (.ref 1000001), some (.ref 0), some (.ref 598), some (.int (nI i))], [.int (if xs (i + 1) = 0 then 0 else 1), .ref 0], M) Q from wp_if (fun h => wp_go hc 1 (z' := (608, [some (.ref 1000001), some (.ref 0), some (.ref 598), some (.int (nI i))], [.int 0, .ref 0], M)) rfl (by rw [if_pos h] at K; exact K)) (fun h => wp_go hc 2 (z' := (608, [some (.ref 1000001), some (.ref 0), some (.ref 598), some (.int (nI i))], [.int 1, .ref 0], M)) rfl (by rw [if_neg h] at K; exact K))
  refine wp_cv (As := [.int (if xs (i + 1) = 0 then 0 else 1)]) (b := 0) (r := []) hc rfl (by rw [cm_97]; rfl) rfl (Nat.le_of_ble_eq_true rfl) hR.2.2.2.1 (by rw [cm_97]; exact hR.2.2.1) h1 ?_
  show mm_wp E 289 (611, [some (.ref 1000001), some (.ref 0), some (.ref 598), some (.int (nI i))], [.int r], M1) Q
  refine wp_go hc 5 (z' := (616, [some (.ref 1000001), some (.ref 0), some (.ref 598), some (.int (nI i))], [.int (nI i + 1), .ref 1000001, .ref 598, .int r], M1)) rfl ?_
  refine wp_scr (j := 1) (i := i) hc rfl hR1 (by omega) hL (by decide) ?_
  refine wp_go hc 1 (z' := if xs (i + 1) = 0 then (624, [some (.ref 1000001), some (.ref 0), some (.ref 598), some (.int (nI i))], [.ref 598, .int r], M1) else (620, [some (.ref 1000001), some (.ref 0), some (.ref 598), some (.int (nI i))], [.ref 598, .int r], M1)) rfl ?_
  suffices K : mm_wp E 289 (625, [some (.ref 1000001), some (.ref 0), some (.ref 598), some (.int (nI i))], [.int (if xs (i + 1) = 0 then 0 else 1), .ref 598, .int r], M1) Q from wp_if (fun h => wp_go hc 1 (z' := (625, [some (.ref 1000001), some (.ref 0), some (.ref 598), some (.int (nI i))], [.int 0, .ref 598, .int r], M1)) rfl (by rw [if_pos h] at K; exact K)) (fun h => wp_go hc 2 (z' := (625, [some (.ref 1000001), some (.ref 0), some (.ref 598), some (.int (nI i))], [.int 1, .ref 598, .int r], M1)) rfl (by rw [if_neg h] at K; exact K))
  refine wp_cv (As := [.int (if xs (i + 1) = 0 then 0 else 1)]) (b := 598) (r := [.int r]) hc rfl (by rw [cm_230]; rfl) rfl (Nat.le_of_ble_eq_true rfl) hR1.2.2.2.2.2 (by rw [cm_230]; exact hR1.2.2.2.2.1) h2 ?_
  show mm_wp E 289 (628, [some (.ref 1000001), some (.ref 0), some (.ref 598), some (.int (nI i))], [.int r, .int r], M2) Q
  refine wp_go hc 1 (z' := if r = r then (1560, [some (.ref 1000001), some (.ref 0), some (.ref 598), some (.int (nI i))], [], M2) else (631, [some (.ref 1000001), some (.ref 0), some (.ref 598), some (.int (nI i))], [], M2)) rfl ?_
  rw [if_pos rfl]
  exact kk
set_option maxRecDepth 100000 in
theorem lw_c13 {E : mm_EV} {L : Nat} {xs : Nat → Int32} {i : Nat} {M M2 : mm_M} {Q : mm_Rs → Prop} (hR : lw_R L xs M) (hi : i + 6 ≤ L) (hL : L ≤ 3072) (h : lw_ok E L xs 98 232 [.int (xs (i + 1))] M M2)
    (kk : mm_wp E 289 (1560, [some (.ref 1000001), some (.ref 0), some (.ref 598), some (.int (nI i))], [], M2) Q) : mm_wp E 289 (633, [some (.ref 1000001), some (.ref 0), some (.ref 598), some (.int (nI i))], [], M) Q := by
  have hc : (mm_CM 289).2.2.2.2.2.2.2 = mm_cf cd_289 := by rw [cm_289]; rfl
  obtain ⟨r, M1, h1, hR1, h2, hR2⟩ := h
  refine wp_go hc 5 (z' := (638, [some (.ref 1000001), some (.ref 0), some (.ref 598), some (.int (nI i))], [.int (nI i + 1), .ref 1000001, .ref 0], M)) rfl ?_
  refine wp_scr (j := 1) (i := i) hc rfl hR (by omega) hL (by decide) ?_
  refine wp_cv (As := [.int (xs (i + 1))]) (b := 0) (r := []) hc rfl (by rw [cm_98]; rfl) rfl (Nat.le_of_ble_eq_true rfl) hR.2.2.2.1 (by rw [cm_98]; exact hR.2.2.1) h1 ?_
  show mm_wp E 289 (642, [some (.ref 1000001), some (.ref 0), some (.ref 598), some (.int (nI i))], [.int r], M1) Q
  refine wp_go hc 5 (z' := (647, [some (.ref 1000001), some (.ref 0), some (.ref 598), some (.int (nI i))], [.int (nI i + 1), .ref 1000001, .ref 598, .int r], M1)) rfl ?_
  refine wp_scr (j := 1) (i := i) hc rfl hR1 (by omega) hL (by decide) ?_
  refine wp_cv (As := [.int (xs (i + 1))]) (b := 598) (r := [.int r]) hc rfl (by rw [cm_232]; rfl) rfl (Nat.le_of_ble_eq_true rfl) hR1.2.2.2.2.2 (by rw [cm_232]; exact hR1.2.2.2.2.1) h2 ?_
  show mm_wp E 289 (651, [some (.ref 1000001), some (.ref 0), some (.ref 598), some (.int (nI i))], [.int r, .int r], M2) Q
  refine wp_go hc 1 (z' := if r = r then (1560, [some (.ref 1000001), some (.ref 0), some (.ref 598), some (.int (nI i))], [], M2) else (654, [some (.ref 1000001), some (.ref 0), some (.ref 598), some (.int (nI i))], [], M2)) rfl ?_
  rw [if_pos rfl]
  exact kk
set_option maxRecDepth 100000 in
theorem lw_c14 {E : mm_EV} {L : Nat} {xs : Nat → Int32} {i : Nat} {M M2 : mm_M} {Q : mm_Rs → Prop} (hR : lw_R L xs M) (hi : i + 6 ≤ L) (hL : L ≤ 3072) (h : lw_ok E L xs 99 234 [.int (xs (i + 1)), .int (xs (i + 2))] M M2)
    (kk : mm_wp E 289 (1560, [some (.ref 1000001), some (.ref 0), some (.ref 598), some (.int (nI i))], [], M2) Q) : mm_wp E 289 (656, [some (.ref 1000001), some (.ref 0), some (.ref 598), some (.int (nI i))], [], M) Q := by
  have hc : (mm_CM 289).2.2.2.2.2.2.2 = mm_cf cd_289 := by rw [cm_289]; rfl
  obtain ⟨r, M1, h1, hR1, h2, hR2⟩ := h
  refine wp_go hc 5 (z' := (661, [some (.ref 1000001), some (.ref 0), some (.ref 598), some (.int (nI i))], [.int (nI i + 1), .ref 1000001, .ref 0], M)) rfl ?_
  refine wp_scr (j := 1) (i := i) hc rfl hR (by omega) hL (by decide) ?_
  refine wp_go hc 4 (z' := (666, [some (.ref 1000001), some (.ref 0), some (.ref 598), some (.int (nI i))], [.int (nI i + 2), .ref 1000001, .int (xs (i + 1)), .ref 0], M)) rfl ?_
  refine wp_scr (j := 2) (i := i) hc rfl hR (by omega) hL (by decide) ?_
  refine wp_cv (As := [.int (xs (i + 1)), .int (xs (i + 2))]) (b := 0) (r := []) hc rfl (by rw [cm_99]; rfl) rfl (Nat.le_of_ble_eq_true rfl) hR.2.2.2.1 (by rw [cm_99]; exact hR.2.2.1) h1 ?_
  show mm_wp E 289 (670, [some (.ref 1000001), some (.ref 0), some (.ref 598), some (.int (nI i))], [.int r], M1) Q
  refine wp_go hc 5 (z' := (675, [some (.ref 1000001), some (.ref 0), some (.ref 598), some (.int (nI i))], [.int (nI i + 1), .ref 1000001, .ref 598, .int r], M1)) rfl ?_
  refine wp_scr (j := 1) (i := i) hc rfl hR1 (by omega) hL (by decide) ?_
  refine wp_go hc 4 (z' := (680, [some (.ref 1000001), some (.ref 0), some (.ref 598), some (.int (nI i))], [.int (nI i + 2), .ref 1000001, .int (xs (i + 1)), .ref 598, .int r], M1)) rfl ?_
  refine wp_scr (j := 2) (i := i) hc rfl hR1 (by omega) hL (by decide) ?_
  refine wp_cv (As := [.int (xs (i + 1)), .int (xs (i + 2))]) (b := 598) (r := [.int r]) hc rfl (by rw [cm_234]; rfl) rfl (Nat.le_of_ble_eq_true rfl) hR1.2.2.2.2.2 (by rw [cm_234]; exact hR1.2.2.2.2.1) h2 ?_
  show mm_wp E 289 (684, [some (.ref 1000001), some (.ref 0), some (.ref 598), some (.int (nI i))], [.int r, .int r], M2) Q
  refine wp_go hc 1 (z' := if r = r then (1560, [some (.ref 1000001), some (.ref 0), some (.ref 598), some (.int (nI i))], [], M2) else (687, [some (.ref 1000001), some (.ref 0), some (.ref 598), some (.int (nI i))], [], M2)) rfl ?_
  rw [if_pos rfl]
  exact kk
set_option maxRecDepth 100000 in
theorem lw_c15 {E : mm_EV} {L : Nat} {xs : Nat → Int32} {i : Nat} {M M2 : mm_M} {Q : mm_Rs → Prop} (hR : lw_R L xs M) (hi : i + 6 ≤ L) (hL : L ≤ 3072) (h : lw_ok E L xs 100 215 [] M M2)
    (kk : mm_wp E 289 (1560, [some (.ref 1000001), some (.ref 0), some (.ref 598), some (.int (nI i))], [], M2) Q) : mm_wp E 289 (689, [some (.ref 1000001), some (.ref 0), some (.ref 598), some (.int (nI i))], [], M) Q := by
  have hc : (mm_CM 289).2.2.2.2.2.2.2 = mm_cf cd_289 := by rw [cm_289]; rfl
  obtain ⟨r, M1, h1, hR1, h2, hR2⟩ := h
  refine wp_go hc 1 (z' := (690, [some (.ref 1000001), some (.ref 0), some (.ref 598), some (.int (nI i))], [.ref 0], M)) rfl ?_
  refine wp_cv (As := []) (b := 0) (r := []) hc rfl (by rw [cm_100]; rfl) rfl (Nat.le_of_ble_eq_true rfl) hR.2.2.2.1 (by rw [cm_100]; exact hR.2.2.1) h1 ?_
  show mm_wp E 289 (693, [some (.ref 1000001), some (.ref 0), some (.ref 598), some (.int (nI i))], [.int r], M1) Q
  refine wp_go hc 1 (z' := (694, [some (.ref 1000001), some (.ref 0), some (.ref 598), some (.int (nI i))], [.ref 598, .int r], M1)) rfl ?_
  refine wp_cv (As := []) (b := 598) (r := [.int r]) hc rfl (by rw [cm_215]; rfl) rfl (Nat.le_of_ble_eq_true rfl) hR1.2.2.2.2.2 (by rw [cm_215]; exact hR1.2.2.2.2.1) h2 ?_
  show mm_wp E 289 (697, [some (.ref 1000001), some (.ref 0), some (.ref 598), some (.int (nI i))], [.int r, .int r], M2) Q
  refine wp_go hc 1 (z' := if r = r then (1560, [some (.ref 1000001), some (.ref 0), some (.ref 598), some (.int (nI i))], [], M2) else (700, [some (.ref 1000001), some (.ref 0), some (.ref 598), some (.int (nI i))], [], M2)) rfl ?_
  rw [if_pos rfl]
  exact kk
set_option maxRecDepth 100000 in
theorem lw_c16 {E : mm_EV} {L : Nat} {xs : Nat → Int32} {i : Nat} {M M2 : mm_M} {Q : mm_Rs → Prop} (hR : lw_R L xs M) (hi : i + 6 ≤ L) (hL : L ≤ 3072) (h : lw_ok E L xs 101 235 [.int (xs (i + 1)), .int (xs (i + 2))] M M2)
    (kk : mm_wp E 289 (1560, [some (.ref 1000001), some (.ref 0), some (.ref 598), some (.int (nI i))], [], M2) Q) : mm_wp E 289 (702, [some (.ref 1000001), some (.ref 0), some (.ref 598), some (.int (nI i))], [], M) Q := by
  have hc : (mm_CM 289).2.2.2.2.2.2.2 = mm_cf cd_289 := by rw [cm_289]; rfl
  obtain ⟨r, M1, h1, hR1, h2, hR2⟩ := h
  refine wp_go hc 5 (z' := (707, [some (.ref 1000001), some (.ref 0), some (.ref 598), some (.int (nI i))], [.int (nI i + 1), .ref 1000001, .ref 0], M)) rfl ?_
  refine wp_scr (j := 1) (i := i) hc rfl hR (by omega) hL (by decide) ?_
  refine wp_go hc 4 (z' := (712, [some (.ref 1000001), some (.ref 0), some (.ref 598), some (.int (nI i))], [.int (nI i + 2), .ref 1000001, .int (xs (i + 1)), .ref 0], M)) rfl ?_
  refine wp_scr (j := 2) (i := i) hc rfl hR (by omega) hL (by decide) ?_
  refine wp_cv (As := [.int (xs (i + 1)), .int (xs (i + 2))]) (b := 0) (r := []) hc rfl (by rw [cm_101]; rfl) rfl (Nat.le_of_ble_eq_true rfl) hR.2.2.2.1 (by rw [cm_101]; exact hR.2.2.1) h1 ?_
  show mm_wp E 289 (716, [some (.ref 1000001), some (.ref 0), some (.ref 598), some (.int (nI i))], [.int r], M1) Q
  refine wp_go hc 5 (z' := (721, [some (.ref 1000001), some (.ref 0), some (.ref 598), some (.int (nI i))], [.int (nI i + 1), .ref 1000001, .ref 598, .int r], M1)) rfl ?_
  refine wp_scr (j := 1) (i := i) hc rfl hR1 (by omega) hL (by decide) ?_
  refine wp_go hc 4 (z' := (726, [some (.ref 1000001), some (.ref 0), some (.ref 598), some (.int (nI i))], [.int (nI i + 2), .ref 1000001, .int (xs (i + 1)), .ref 598, .int r], M1)) rfl ?_
  refine wp_scr (j := 2) (i := i) hc rfl hR1 (by omega) hL (by decide) ?_
  refine wp_cv (As := [.int (xs (i + 1)), .int (xs (i + 2))]) (b := 598) (r := [.int r]) hc rfl (by rw [cm_235]; rfl) rfl (Nat.le_of_ble_eq_true rfl) hR1.2.2.2.2.2 (by rw [cm_235]; exact hR1.2.2.2.2.1) h2 ?_
  show mm_wp E 289 (730, [some (.ref 1000001), some (.ref 0), some (.ref 598), some (.int (nI i))], [.int r, .int r], M2) Q
  refine wp_go hc 1 (z' := if r = r then (1560, [some (.ref 1000001), some (.ref 0), some (.ref 598), some (.int (nI i))], [], M2) else (733, [some (.ref 1000001), some (.ref 0), some (.ref 598), some (.int (nI i))], [], M2)) rfl ?_
  rw [if_pos rfl]
  exact kk
set_option maxRecDepth 100000 in
theorem lw_c17 {E : mm_EV} {L : Nat} {xs : Nat → Int32} {i : Nat} {M M2 : mm_M} {Q : mm_Rs → Prop} (hR : lw_R L xs M) (hi : i + 6 ≤ L) (hL : L ≤ 3072) (h : lw_ok E L xs 102 236 [.int (xs (i + 1)), .int (xs (i + 2))] M M2)
    (kk : mm_wp E 289 (1560, [some (.ref 1000001), some (.ref 0), some (.ref 598), some (.int (nI i))], [], M2) Q) : mm_wp E 289 (735, [some (.ref 1000001), some (.ref 0), some (.ref 598), some (.int (nI i))], [], M) Q := by
  have hc : (mm_CM 289).2.2.2.2.2.2.2 = mm_cf cd_289 := by rw [cm_289]; rfl
  obtain ⟨r, M1, h1, hR1, h2, hR2⟩ := h
  refine wp_go hc 5 (z' := (740, [some (.ref 1000001), some (.ref 0), some (.ref 598), some (.int (nI i))], [.int (nI i + 1), .ref 1000001, .ref 0], M)) rfl ?_
  refine wp_scr (j := 1) (i := i) hc rfl hR (by omega) hL (by decide) ?_
  refine wp_go hc 4 (z' := (745, [some (.ref 1000001), some (.ref 0), some (.ref 598), some (.int (nI i))], [.int (nI i + 2), .ref 1000001, .int (xs (i + 1)), .ref 0], M)) rfl ?_
  refine wp_scr (j := 2) (i := i) hc rfl hR (by omega) hL (by decide) ?_
  refine wp_cv (As := [.int (xs (i + 1)), .int (xs (i + 2))]) (b := 0) (r := []) hc rfl (by rw [cm_102]; rfl) rfl (Nat.le_of_ble_eq_true rfl) hR.2.2.2.1 (by rw [cm_102]; exact hR.2.2.1) h1 ?_
  show mm_wp E 289 (749, [some (.ref 1000001), some (.ref 0), some (.ref 598), some (.int (nI i))], [.int r], M1) Q
  refine wp_go hc 5 (z' := (754, [some (.ref 1000001), some (.ref 0), some (.ref 598), some (.int (nI i))], [.int (nI i + 1), .ref 1000001, .ref 598, .int r], M1)) rfl ?_
  refine wp_scr (j := 1) (i := i) hc rfl hR1 (by omega) hL (by decide) ?_
  refine wp_go hc 4 (z' := (759, [some (.ref 1000001), some (.ref 0), some (.ref 598), some (.int (nI i))], [.int (nI i + 2), .ref 1000001, .int (xs (i + 1)), .ref 598, .int r], M1)) rfl ?_
  refine wp_scr (j := 2) (i := i) hc rfl hR1 (by omega) hL (by decide) ?_
  refine wp_cv (As := [.int (xs (i + 1)), .int (xs (i + 2))]) (b := 598) (r := [.int r]) hc rfl (by rw [cm_236]; rfl) rfl (Nat.le_of_ble_eq_true rfl) hR1.2.2.2.2.2 (by rw [cm_236]; exact hR1.2.2.2.2.1) h2 ?_
  show mm_wp E 289 (763, [some (.ref 1000001), some (.ref 0), some (.ref 598), some (.int (nI i))], [.int r, .int r], M2) Q
  refine wp_go hc 1 (z' := if r = r then (1560, [some (.ref 1000001), some (.ref 0), some (.ref 598), some (.int (nI i))], [], M2) else (766, [some (.ref 1000001), some (.ref 0), some (.ref 598), some (.int (nI i))], [], M2)) rfl ?_
  rw [if_pos rfl]
  exact kk
set_option maxRecDepth 100000 in
theorem lw_c18 {E : mm_EV} {L : Nat} {xs : Nat → Int32} {i : Nat} {M M2 : mm_M} {Q : mm_Rs → Prop} (hR : lw_R L xs M) (hi : i + 6 ≤ L) (hL : L ≤ 3072) (h : lw_ok E L xs 103 237 [.int (xs (i + 1)), .int (xs (i + 2))] M M2)
    (kk : mm_wp E 289 (1560, [some (.ref 1000001), some (.ref 0), some (.ref 598), some (.int (nI i))], [], M2) Q) : mm_wp E 289 (768, [some (.ref 1000001), some (.ref 0), some (.ref 598), some (.int (nI i))], [], M) Q := by
  have hc : (mm_CM 289).2.2.2.2.2.2.2 = mm_cf cd_289 := by rw [cm_289]; rfl
  obtain ⟨r, M1, h1, hR1, h2, hR2⟩ := h
  refine wp_go hc 5 (z' := (773, [some (.ref 1000001), some (.ref 0), some (.ref 598), some (.int (nI i))], [.int (nI i + 1), .ref 1000001, .ref 0], M)) rfl ?_
  refine wp_scr (j := 1) (i := i) hc rfl hR (by omega) hL (by decide) ?_
  refine wp_go hc 4 (z' := (778, [some (.ref 1000001), some (.ref 0), some (.ref 598), some (.int (nI i))], [.int (nI i + 2), .ref 1000001, .int (xs (i + 1)), .ref 0], M)) rfl ?_
  refine wp_scr (j := 2) (i := i) hc rfl hR (by omega) hL (by decide) ?_
  refine wp_cv (As := [.int (xs (i + 1)), .int (xs (i + 2))]) (b := 0) (r := []) hc rfl (by rw [cm_103]; rfl) rfl (Nat.le_of_ble_eq_true rfl) hR.2.2.2.1 (by rw [cm_103]; exact hR.2.2.1) h1 ?_
  show mm_wp E 289 (782, [some (.ref 1000001), some (.ref 0), some (.ref 598), some (.int (nI i))], [.int r], M1) Q
  refine wp_go hc 5 (z' := (787, [some (.ref 1000001), some (.ref 0), some (.ref 598), some (.int (nI i))], [.int (nI i + 1), .ref 1000001, .ref 598, .int r], M1)) rfl ?_
  refine wp_scr (j := 1) (i := i) hc rfl hR1 (by omega) hL (by decide) ?_
  refine wp_go hc 4 (z' := (792, [some (.ref 1000001), some (.ref 0), some (.ref 598), some (.int (nI i))], [.int (nI i + 2), .ref 1000001, .int (xs (i + 1)), .ref 598, .int r], M1)) rfl ?_
  refine wp_scr (j := 2) (i := i) hc rfl hR1 (by omega) hL (by decide) ?_
  refine wp_cv (As := [.int (xs (i + 1)), .int (xs (i + 2))]) (b := 598) (r := [.int r]) hc rfl (by rw [cm_237]; rfl) rfl (Nat.le_of_ble_eq_true rfl) hR1.2.2.2.2.2 (by rw [cm_237]; exact hR1.2.2.2.2.1) h2 ?_
  show mm_wp E 289 (796, [some (.ref 1000001), some (.ref 0), some (.ref 598), some (.int (nI i))], [.int r, .int r], M2) Q
  refine wp_go hc 1 (z' := if r = r then (1560, [some (.ref 1000001), some (.ref 0), some (.ref 598), some (.int (nI i))], [], M2) else (799, [some (.ref 1000001), some (.ref 0), some (.ref 598), some (.int (nI i))], [], M2)) rfl ?_
  rw [if_pos rfl]
  exact kk
set_option maxRecDepth 100000 in
theorem lw_c19 {E : mm_EV} {L : Nat} {xs : Nat → Int32} {i : Nat} {M M2 : mm_M} {Q : mm_Rs → Prop} (hR : lw_R L xs M) (hi : i + 6 ≤ L) (hL : L ≤ 3072) (h : lw_ok E L xs 104 212 [.int (xs (i + 1)), .int (xs (i + 2)), .int (if xs (i + 3) = 0 then 0 else 1)] M M2)
    (kk : mm_wp E 289 (1560, [some (.ref 1000001), some (.ref 0), some (.ref 598), some (.int (nI i))], [], M2) Q) : mm_wp E 289 (801, [some (.ref 1000001), some (.ref 0), some (.ref 598), some (.int (nI i))], [], M) Q := by
  have hc : (mm_CM 289).2.2.2.2.2.2.2 = mm_cf cd_289 := by rw [cm_289]; rfl
  obtain ⟨r, M1, h1, hR1, h2, hR2⟩ := h
  refine wp_go hc 5 (z' := (806, [some (.ref 1000001), some (.ref 0), some (.ref 598), some (.int (nI i))], [.int (nI i + 1), .ref 1000001, .ref 0], M)) rfl ?_
  refine wp_scr (j := 1) (i := i) hc rfl hR (by omega) hL (by decide) ?_
  refine wp_go hc 4 (z' := (811, [some (.ref 1000001), some (.ref 0), some (.ref 598), some (.int (nI i))], [.int (nI i + 2), .ref 1000001, .int (xs (i + 1)), .ref 0], M)) rfl ?_
  refine wp_scr (j := 2) (i := i) hc rfl hR (by omega) hL (by decide) ?_
  refine wp_go hc 4 (z' := (816, [some (.ref 1000001), some (.ref 0), some (.ref 598), some (.int (nI i))], [.int (nI i + 3), .ref 1000001, .int (xs (i + 2)), .int (xs (i + 1)), .ref 0], M)) rfl ?_
  refine wp_scr (j := 3) (i := i) hc rfl hR (by omega) hL (by decide) ?_
  refine wp_go hc 1 (z' := if xs (i + 3) = 0 then (824, [some (.ref 1000001), some (.ref 0), some (.ref 598), some (.int (nI i))], [.int (xs (i + 2)), .int (xs (i + 1)), .ref 0], M) else (820, [some (.ref 1000001), some (.ref 0), some (.ref 598), some (.int (nI i))], [.int (xs (i + 2)), .int (xs (i + 1)), .ref 0], M)) rfl ?_
  suffices K : mm_wp E 289 (825, [some (.ref 1000001), some (.ref 0), some (.ref 598), some (.int (nI i))], [.int (if xs (i + 3) = 0 then 0 else 1), .int (xs (i + 2)), .int (xs (i + 1)), .ref 0], M) Q from wp_if (fun h => wp_go hc 1 (z' := (825, [some (.ref 1000001), some (.ref 0), some (.ref 598), some (.int (nI i))], [.int 0, .int (xs (i + 2)), .int (xs (i + 1)), .ref 0], M)) rfl (by rw [if_pos h] at K; exact K)) (fun h => wp_go hc 2 (z' := (825, [some (.ref 1000001), some (.ref 0), some (.ref 598), some (.int (nI i))], [.int 1, .int (xs (i + 2)), .int (xs (i + 1)), .ref 0], M)) rfl (by rw [if_neg h] at K; exact K))
  refine wp_cv (As := [.int (xs (i + 1)), .int (xs (i + 2)), .int (if xs (i + 3) = 0 then 0 else 1)]) (b := 0) (r := []) hc rfl (by rw [cm_104]; rfl) rfl (Nat.le_of_ble_eq_true rfl) hR.2.2.2.1 (by rw [cm_104]; exact hR.2.2.1) h1 ?_
  show mm_wp E 289 (828, [some (.ref 1000001), some (.ref 0), some (.ref 598), some (.int (nI i))], [.int r], M1) Q
  refine wp_go hc 5 (z' := (833, [some (.ref 1000001), some (.ref 0), some (.ref 598), some (.int (nI i))], [.int (nI i + 1), .ref 1000001, .ref 598, .int r], M1)) rfl ?_
  refine wp_scr (j := 1) (i := i) hc rfl hR1 (by omega) hL (by decide) ?_
  refine wp_go hc 4 (z' := (838, [some (.ref 1000001), some (.ref 0), some (.ref 598), some (.int (nI i))], [.int (nI i + 2), .ref 1000001, .int (xs (i + 1)), .ref 598, .int r], M1)) rfl ?_
  refine wp_scr (j := 2) (i := i) hc rfl hR1 (by omega) hL (by decide) ?_
  refine wp_go hc 4 (z' := (843, [some (.ref 1000001), some (.ref 0), some (.ref 598), some (.int (nI i))], [.int (nI i + 3), .ref 1000001, .int (xs (i + 2)), .int (xs (i + 1)), .ref 598, .int r], M1)) rfl ?_
  refine wp_scr (j := 3) (i := i) hc rfl hR1 (by omega) hL (by decide) ?_
  refine wp_go hc 1 (z' := if xs (i + 3) = 0 then (851, [some (.ref 1000001), some (.ref 0), some (.ref 598), some (.int (nI i))], [.int (xs (i + 2)), .int (xs (i + 1)), .ref 598, .int r], M1) else (847, [some (.ref 1000001), some (.ref 0), some (.ref 598), some (.int (nI i))], [.int (xs (i + 2)), .int (xs (i + 1)), .ref 598, .int r], M1)) rfl ?_
  suffices K : mm_wp E 289 (852, [some (.ref 1000001), some (.ref 0), some (.ref 598), some (.int (nI i))], [.int (if xs (i + 3) = 0 then 0 else 1), .int (xs (i + 2)), .int (xs (i + 1)), .ref 598, .int r], M1) Q from wp_if (fun h => wp_go hc 1 (z' := (852, [some (.ref 1000001), some (.ref 0), some (.ref 598), some (.int (nI i))], [.int 0, .int (xs (i + 2)), .int (xs (i + 1)), .ref 598, .int r], M1)) rfl (by rw [if_pos h] at K; exact K)) (fun h => wp_go hc 2 (z' := (852, [some (.ref 1000001), some (.ref 0), some (.ref 598), some (.int (nI i))], [.int 1, .int (xs (i + 2)), .int (xs (i + 1)), .ref 598, .int r], M1)) rfl (by rw [if_neg h] at K; exact K))
  refine wp_cv (As := [.int (xs (i + 1)), .int (xs (i + 2)), .int (if xs (i + 3) = 0 then 0 else 1)]) (b := 598) (r := [.int r]) hc rfl (by rw [cm_212]; rfl) rfl (Nat.le_of_ble_eq_true rfl) hR1.2.2.2.2.2 (by rw [cm_212]; exact hR1.2.2.2.2.1) h2 ?_
  show mm_wp E 289 (855, [some (.ref 1000001), some (.ref 0), some (.ref 598), some (.int (nI i))], [.int r, .int r], M2) Q
  refine wp_go hc 1 (z' := if r = r then (1560, [some (.ref 1000001), some (.ref 0), some (.ref 598), some (.int (nI i))], [], M2) else (858, [some (.ref 1000001), some (.ref 0), some (.ref 598), some (.int (nI i))], [], M2)) rfl ?_
  rw [if_pos rfl]
  exact kk
set_option maxRecDepth 100000 in
theorem lw_c20 {E : mm_EV} {L : Nat} {xs : Nat → Int32} {i : Nat} {M M2 : mm_M} {Q : mm_Rs → Prop} (hR : lw_R L xs M) (hi : i + 6 ≤ L) (hL : L ≤ 3072) (h : lw_ok E L xs 105 238 [.int (xs (i + 1)), .int (xs (i + 2))] M M2)
    (kk : mm_wp E 289 (1560, [some (.ref 1000001), some (.ref 0), some (.ref 598), some (.int (nI i))], [], M2) Q) : mm_wp E 289 (860, [some (.ref 1000001), some (.ref 0), some (.ref 598), some (.int (nI i))], [], M) Q := by
  have hc : (mm_CM 289).2.2.2.2.2.2.2 = mm_cf cd_289 := by rw [cm_289]; rfl
  obtain ⟨r, M1, h1, hR1, h2, hR2⟩ := h
  refine wp_go hc 5 (z' := (865, [some (.ref 1000001), some (.ref 0), some (.ref 598), some (.int (nI i))], [.int (nI i + 1), .ref 1000001, .ref 0], M)) rfl ?_
  refine wp_scr (j := 1) (i := i) hc rfl hR (by omega) hL (by decide) ?_
  refine wp_go hc 4 (z' := (870, [some (.ref 1000001), some (.ref 0), some (.ref 598), some (.int (nI i))], [.int (nI i + 2), .ref 1000001, .int (xs (i + 1)), .ref 0], M)) rfl ?_
  refine wp_scr (j := 2) (i := i) hc rfl hR (by omega) hL (by decide) ?_
  refine wp_cv (As := [.int (xs (i + 1)), .int (xs (i + 2))]) (b := 0) (r := []) hc rfl (by rw [cm_105]; rfl) rfl (Nat.le_of_ble_eq_true rfl) hR.2.2.2.1 (by rw [cm_105]; exact hR.2.2.1) h1 ?_
  show mm_wp E 289 (874, [some (.ref 1000001), some (.ref 0), some (.ref 598), some (.int (nI i))], [.int r], M1) Q
  refine wp_go hc 5 (z' := (879, [some (.ref 1000001), some (.ref 0), some (.ref 598), some (.int (nI i))], [.int (nI i + 1), .ref 1000001, .ref 598, .int r], M1)) rfl ?_
  refine wp_scr (j := 1) (i := i) hc rfl hR1 (by omega) hL (by decide) ?_
  refine wp_go hc 4 (z' := (884, [some (.ref 1000001), some (.ref 0), some (.ref 598), some (.int (nI i))], [.int (nI i + 2), .ref 1000001, .int (xs (i + 1)), .ref 598, .int r], M1)) rfl ?_
  refine wp_scr (j := 2) (i := i) hc rfl hR1 (by omega) hL (by decide) ?_
  refine wp_cv (As := [.int (xs (i + 1)), .int (xs (i + 2))]) (b := 598) (r := [.int r]) hc rfl (by rw [cm_238]; rfl) rfl (Nat.le_of_ble_eq_true rfl) hR1.2.2.2.2.2 (by rw [cm_238]; exact hR1.2.2.2.2.1) h2 ?_
  show mm_wp E 289 (888, [some (.ref 1000001), some (.ref 0), some (.ref 598), some (.int (nI i))], [.int r, .int r], M2) Q
  refine wp_go hc 1 (z' := if r = r then (1560, [some (.ref 1000001), some (.ref 0), some (.ref 598), some (.int (nI i))], [], M2) else (891, [some (.ref 1000001), some (.ref 0), some (.ref 598), some (.int (nI i))], [], M2)) rfl ?_
  rw [if_pos rfl]
  exact kk
set_option maxRecDepth 100000 in
theorem lw_c21 {E : mm_EV} {L : Nat} {xs : Nat → Int32} {i : Nat} {M M2 : mm_M} {Q : mm_Rs → Prop} (hR : lw_R L xs M) (hi : i + 6 ≤ L) (hL : L ≤ 3072) (h : lw_ok E L xs 106 245 [.int (xs (i + 1))] M M2)
    (kk : mm_wp E 289 (1560, [some (.ref 1000001), some (.ref 0), some (.ref 598), some (.int (nI i))], [], M2) Q) : mm_wp E 289 (893, [some (.ref 1000001), some (.ref 0), some (.ref 598), some (.int (nI i))], [], M) Q := by
  have hc : (mm_CM 289).2.2.2.2.2.2.2 = mm_cf cd_289 := by rw [cm_289]; rfl
  obtain ⟨r, M1, h1, hR1, h2, hR2⟩ := h
  refine wp_go hc 5 (z' := (898, [some (.ref 1000001), some (.ref 0), some (.ref 598), some (.int (nI i))], [.int (nI i + 1), .ref 1000001, .ref 0], M)) rfl ?_
  refine wp_scr (j := 1) (i := i) hc rfl hR (by omega) hL (by decide) ?_
  refine wp_cv (As := [.int (xs (i + 1))]) (b := 0) (r := []) hc rfl (by rw [cm_106]; rfl) rfl (Nat.le_of_ble_eq_true rfl) hR.2.2.2.1 (by rw [cm_106]; exact hR.2.2.1) h1 ?_
  show mm_wp E 289 (902, [some (.ref 1000001), some (.ref 0), some (.ref 598), some (.int (nI i))], [.int r], M1) Q
  refine wp_go hc 5 (z' := (907, [some (.ref 1000001), some (.ref 0), some (.ref 598), some (.int (nI i))], [.int (nI i + 1), .ref 1000001, .ref 598, .int r], M1)) rfl ?_
  refine wp_scr (j := 1) (i := i) hc rfl hR1 (by omega) hL (by decide) ?_
  refine wp_cv (As := [.int (xs (i + 1))]) (b := 598) (r := [.int r]) hc rfl (by rw [cm_245]; rfl) rfl (Nat.le_of_ble_eq_true rfl) hR1.2.2.2.2.2 (by rw [cm_245]; exact hR1.2.2.2.2.1) h2 ?_
  show mm_wp E 289 (911, [some (.ref 1000001), some (.ref 0), some (.ref 598), some (.int (nI i))], [.int r, .int r], M2) Q
  refine wp_go hc 1 (z' := if r = r then (1560, [some (.ref 1000001), some (.ref 0), some (.ref 598), some (.int (nI i))], [], M2) else (914, [some (.ref 1000001), some (.ref 0), some (.ref 598), some (.int (nI i))], [], M2)) rfl ?_
  rw [if_pos rfl]
  exact kk
set_option maxRecDepth 100000 in
theorem lw_c22 {E : mm_EV} {L : Nat} {xs : Nat → Int32} {i : Nat} {M M2 : mm_M} {Q : mm_Rs → Prop} (hR : lw_R L xs M) (hi : i + 6 ≤ L) (hL : L ≤ 3072) (h : lw_ok E L xs 107 247 [.int (xs (i + 1)), .int (if xs (i + 2) = 0 then 0 else 1)] M M2)
    (kk : mm_wp E 289 (1560, [some (.ref 1000001), some (.ref 0), some (.ref 598), some (.int (nI i))], [], M2) Q) : mm_wp E 289 (916, [some (.ref 1000001), some (.ref 0), some (.ref 598), some (.int (nI i))], [], M) Q := by
  have hc : (mm_CM 289).2.2.2.2.2.2.2 = mm_cf cd_289 := by rw [cm_289]; rfl
  obtain ⟨r, M1, h1, hR1, h2, hR2⟩ := h
  refine wp_go hc 5 (z' := (921, [some (.ref 1000001), some (.ref 0), some (.ref 598), some (.int (nI i))], [.int (nI i + 1), .ref 1000001, .ref 0], M)) rfl ?_
  refine wp_scr (j := 1) (i := i) hc rfl hR (by omega) hL (by decide) ?_
  refine wp_go hc 4 (z' := (926, [some (.ref 1000001), some (.ref 0), some (.ref 598), some (.int (nI i))], [.int (nI i + 2), .ref 1000001, .int (xs (i + 1)), .ref 0], M)) rfl ?_
  refine wp_scr (j := 2) (i := i) hc rfl hR (by omega) hL (by decide) ?_
  refine wp_go hc 1 (z' := if xs (i + 2) = 0 then (934, [some (.ref 1000001), some (.ref 0), some (.ref 598), some (.int (nI i))], [.int (xs (i + 1)), .ref 0], M) else (930, [some (.ref 1000001), some (.ref 0), some (.ref 598), some (.int (nI i))], [.int (xs (i + 1)), .ref 0], M)) rfl ?_
  suffices K : mm_wp E 289 (935, [some (.ref 1000001), some (.ref 0), some (.ref 598), some (.int (nI i))], [.int (if xs (i + 2) = 0 then 0 else 1), .int (xs (i + 1)), .ref 0], M) Q from wp_if (fun h => wp_go hc 1 (z' := (935, [some (.ref 1000001), some (.ref 0), some (.ref 598), some (.int (nI i))], [.int 0, .int (xs (i + 1)), .ref 0], M)) rfl (by rw [if_pos h] at K; exact K)) (fun h => wp_go hc 2 (z' := (935, [some (.ref 1000001), some (.ref 0), some (.ref 598), some (.int (nI i))], [.int 1, .int (xs (i + 1)), .ref 0], M)) rfl (by rw [if_neg h] at K; exact K))
  refine wp_cv (As := [.int (xs (i + 1)), .int (if xs (i + 2) = 0 then 0 else 1)]) (b := 0) (r := []) hc rfl (by rw [cm_107]; rfl) rfl (Nat.le_of_ble_eq_true rfl) hR.2.2.2.1 (by rw [cm_107]; exact hR.2.2.1) h1 ?_
  show mm_wp E 289 (938, [some (.ref 1000001), some (.ref 0), some (.ref 598), some (.int (nI i))], [.int r], M1) Q
  refine wp_go hc 5 (z' := (943, [some (.ref 1000001), some (.ref 0), some (.ref 598), some (.int (nI i))], [.int (nI i + 1), .ref 1000001, .ref 598, .int r], M1)) rfl ?_
  refine wp_scr (j := 1) (i := i) hc rfl hR1 (by omega) hL (by decide) ?_
  refine wp_go hc 4 (z' := (948, [some (.ref 1000001), some (.ref 0), some (.ref 598), some (.int (nI i))], [.int (nI i + 2), .ref 1000001, .int (xs (i + 1)), .ref 598, .int r], M1)) rfl ?_
  refine wp_scr (j := 2) (i := i) hc rfl hR1 (by omega) hL (by decide) ?_
  refine wp_go hc 1 (z' := if xs (i + 2) = 0 then (956, [some (.ref 1000001), some (.ref 0), some (.ref 598), some (.int (nI i))], [.int (xs (i + 1)), .ref 598, .int r], M1) else (952, [some (.ref 1000001), some (.ref 0), some (.ref 598), some (.int (nI i))], [.int (xs (i + 1)), .ref 598, .int r], M1)) rfl ?_
  suffices K : mm_wp E 289 (957, [some (.ref 1000001), some (.ref 0), some (.ref 598), some (.int (nI i))], [.int (if xs (i + 2) = 0 then 0 else 1), .int (xs (i + 1)), .ref 598, .int r], M1) Q from wp_if (fun h => wp_go hc 1 (z' := (957, [some (.ref 1000001), some (.ref 0), some (.ref 598), some (.int (nI i))], [.int 0, .int (xs (i + 1)), .ref 598, .int r], M1)) rfl (by rw [if_pos h] at K; exact K)) (fun h => wp_go hc 2 (z' := (957, [some (.ref 1000001), some (.ref 0), some (.ref 598), some (.int (nI i))], [.int 1, .int (xs (i + 1)), .ref 598, .int r], M1)) rfl (by rw [if_neg h] at K; exact K))
  refine wp_cv (As := [.int (xs (i + 1)), .int (if xs (i + 2) = 0 then 0 else 1)]) (b := 598) (r := [.int r]) hc rfl (by rw [cm_247]; rfl) rfl (Nat.le_of_ble_eq_true rfl) hR1.2.2.2.2.2 (by rw [cm_247]; exact hR1.2.2.2.2.1) h2 ?_
  show mm_wp E 289 (960, [some (.ref 1000001), some (.ref 0), some (.ref 598), some (.int (nI i))], [.int r, .int r], M2) Q
  refine wp_go hc 1 (z' := if r = r then (1560, [some (.ref 1000001), some (.ref 0), some (.ref 598), some (.int (nI i))], [], M2) else (963, [some (.ref 1000001), some (.ref 0), some (.ref 598), some (.int (nI i))], [], M2)) rfl ?_
  rw [if_pos rfl]
  exact kk
set_option maxRecDepth 100000 in
theorem lw_c23 {E : mm_EV} {L : Nat} {xs : Nat → Int32} {i : Nat} {M M2 : mm_M} {Q : mm_Rs → Prop} (hR : lw_R L xs M) (hi : i + 6 ≤ L) (hL : L ≤ 3072) (h : lw_ok E L xs 108 259 [.int (xs (i + 1)), .int (xs (i + 2)), .int (xs (i + 3))] M M2)
    (kk : mm_wp E 289 (1560, [some (.ref 1000001), some (.ref 0), some (.ref 598), some (.int (nI i))], [], M2) Q) : mm_wp E 289 (965, [some (.ref 1000001), some (.ref 0), some (.ref 598), some (.int (nI i))], [], M) Q := by
  have hc : (mm_CM 289).2.2.2.2.2.2.2 = mm_cf cd_289 := by rw [cm_289]; rfl
  obtain ⟨r, M1, h1, hR1, h2, hR2⟩ := h
  refine wp_go hc 5 (z' := (970, [some (.ref 1000001), some (.ref 0), some (.ref 598), some (.int (nI i))], [.int (nI i + 1), .ref 1000001, .ref 0], M)) rfl ?_
  refine wp_scr (j := 1) (i := i) hc rfl hR (by omega) hL (by decide) ?_
  refine wp_go hc 4 (z' := (975, [some (.ref 1000001), some (.ref 0), some (.ref 598), some (.int (nI i))], [.int (nI i + 2), .ref 1000001, .int (xs (i + 1)), .ref 0], M)) rfl ?_
  refine wp_scr (j := 2) (i := i) hc rfl hR (by omega) hL (by decide) ?_
  refine wp_go hc 4 (z' := (980, [some (.ref 1000001), some (.ref 0), some (.ref 598), some (.int (nI i))], [.int (nI i + 3), .ref 1000001, .int (xs (i + 2)), .int (xs (i + 1)), .ref 0], M)) rfl ?_
  refine wp_scr (j := 3) (i := i) hc rfl hR (by omega) hL (by decide) ?_
  refine wp_cv (As := [.int (xs (i + 1)), .int (xs (i + 2)), .int (xs (i + 3))]) (b := 0) (r := []) hc rfl (by rw [cm_108]; rfl) rfl (Nat.le_of_ble_eq_true rfl) hR.2.2.2.1 (by rw [cm_108]; exact hR.2.2.1) h1 ?_
  show mm_wp E 289 (984, [some (.ref 1000001), some (.ref 0), some (.ref 598), some (.int (nI i))], [.int r], M1) Q
  refine wp_go hc 5 (z' := (989, [some (.ref 1000001), some (.ref 0), some (.ref 598), some (.int (nI i))], [.int (nI i + 1), .ref 1000001, .ref 598, .int r], M1)) rfl ?_
  refine wp_scr (j := 1) (i := i) hc rfl hR1 (by omega) hL (by decide) ?_
  refine wp_go hc 4 (z' := (994, [some (.ref 1000001), some (.ref 0), some (.ref 598), some (.int (nI i))], [.int (nI i + 2), .ref 1000001, .int (xs (i + 1)), .ref 598, .int r], M1)) rfl ?_
  refine wp_scr (j := 2) (i := i) hc rfl hR1 (by omega) hL (by decide) ?_
  refine wp_go hc 4 (z' := (999, [some (.ref 1000001), some (.ref 0), some (.ref 598), some (.int (nI i))], [.int (nI i + 3), .ref 1000001, .int (xs (i + 2)), .int (xs (i + 1)), .ref 598, .int r], M1)) rfl ?_
  refine wp_scr (j := 3) (i := i) hc rfl hR1 (by omega) hL (by decide) ?_
  refine wp_cv (As := [.int (xs (i + 1)), .int (xs (i + 2)), .int (xs (i + 3))]) (b := 598) (r := [.int r]) hc rfl (by rw [cm_259]; rfl) rfl (Nat.le_of_ble_eq_true rfl) hR1.2.2.2.2.2 (by rw [cm_259]; exact hR1.2.2.2.2.1) h2 ?_
  show mm_wp E 289 (1003, [some (.ref 1000001), some (.ref 0), some (.ref 598), some (.int (nI i))], [.int r, .int r], M2) Q
  refine wp_go hc 1 (z' := if r = r then (1560, [some (.ref 1000001), some (.ref 0), some (.ref 598), some (.int (nI i))], [], M2) else (1006, [some (.ref 1000001), some (.ref 0), some (.ref 598), some (.int (nI i))], [], M2)) rfl ?_
  rw [if_pos rfl]
  exact kk
set_option maxRecDepth 100000 in
theorem lw_c24 {E : mm_EV} {L : Nat} {xs : Nat → Int32} {i : Nat} {M M2 : mm_M} {Q : mm_Rs → Prop} (hR : lw_R L xs M) (hi : i + 6 ≤ L) (hL : L ≤ 3072) (h : lw_ok E L xs 109 261 [.int (xs (i + 1)), .int (xs (i + 2))] M M2)
    (kk : mm_wp E 289 (1560, [some (.ref 1000001), some (.ref 0), some (.ref 598), some (.int (nI i))], [], M2) Q) : mm_wp E 289 (1008, [some (.ref 1000001), some (.ref 0), some (.ref 598), some (.int (nI i))], [], M) Q := by
  have hc : (mm_CM 289).2.2.2.2.2.2.2 = mm_cf cd_289 := by rw [cm_289]; rfl
  obtain ⟨r, M1, h1, hR1, h2, hR2⟩ := h
  refine wp_go hc 5 (z' := (1013, [some (.ref 1000001), some (.ref 0), some (.ref 598), some (.int (nI i))], [.int (nI i + 1), .ref 1000001, .ref 0], M)) rfl ?_
  refine wp_scr (j := 1) (i := i) hc rfl hR (by omega) hL (by decide) ?_
  refine wp_go hc 4 (z' := (1018, [some (.ref 1000001), some (.ref 0), some (.ref 598), some (.int (nI i))], [.int (nI i + 2), .ref 1000001, .int (xs (i + 1)), .ref 0], M)) rfl ?_
  refine wp_scr (j := 2) (i := i) hc rfl hR (by omega) hL (by decide) ?_
  refine wp_cv (As := [.int (xs (i + 1)), .int (xs (i + 2))]) (b := 0) (r := []) hc rfl (by rw [cm_109]; rfl) rfl (Nat.le_of_ble_eq_true rfl) hR.2.2.2.1 (by rw [cm_109]; exact hR.2.2.1) h1 ?_
  show mm_wp E 289 (1022, [some (.ref 1000001), some (.ref 0), some (.ref 598), some (.int (nI i))], [.int r], M1) Q
  refine wp_go hc 5 (z' := (1027, [some (.ref 1000001), some (.ref 0), some (.ref 598), some (.int (nI i))], [.int (nI i + 1), .ref 1000001, .ref 598, .int r], M1)) rfl ?_
  refine wp_scr (j := 1) (i := i) hc rfl hR1 (by omega) hL (by decide) ?_
  refine wp_go hc 4 (z' := (1032, [some (.ref 1000001), some (.ref 0), some (.ref 598), some (.int (nI i))], [.int (nI i + 2), .ref 1000001, .int (xs (i + 1)), .ref 598, .int r], M1)) rfl ?_
  refine wp_scr (j := 2) (i := i) hc rfl hR1 (by omega) hL (by decide) ?_
  refine wp_cv (As := [.int (xs (i + 1)), .int (xs (i + 2))]) (b := 598) (r := [.int r]) hc rfl (by rw [cm_261]; rfl) rfl (Nat.le_of_ble_eq_true rfl) hR1.2.2.2.2.2 (by rw [cm_261]; exact hR1.2.2.2.2.1) h2 ?_
  show mm_wp E 289 (1036, [some (.ref 1000001), some (.ref 0), some (.ref 598), some (.int (nI i))], [.int r, .int r], M2) Q
  refine wp_go hc 1 (z' := if r = r then (1560, [some (.ref 1000001), some (.ref 0), some (.ref 598), some (.int (nI i))], [], M2) else (1039, [some (.ref 1000001), some (.ref 0), some (.ref 598), some (.int (nI i))], [], M2)) rfl ?_
  rw [if_pos rfl]
  exact kk
set_option maxRecDepth 100000 in
theorem lw_c25 {E : mm_EV} {L : Nat} {xs : Nat → Int32} {i : Nat} {M M2 : mm_M} {Q : mm_Rs → Prop} (hR : lw_R L xs M) (hi : i + 6 ≤ L) (hL : L ≤ 3072) (h : lw_ok E L xs 110 262 [.int (xs (i + 1))] M M2)
    (kk : mm_wp E 289 (1560, [some (.ref 1000001), some (.ref 0), some (.ref 598), some (.int (nI i))], [], M2) Q) : mm_wp E 289 (1041, [some (.ref 1000001), some (.ref 0), some (.ref 598), some (.int (nI i))], [], M) Q := by
  have hc : (mm_CM 289).2.2.2.2.2.2.2 = mm_cf cd_289 := by rw [cm_289]; rfl
  obtain ⟨r, M1, h1, hR1, h2, hR2⟩ := h
  refine wp_go hc 5 (z' := (1046, [some (.ref 1000001), some (.ref 0), some (.ref 598), some (.int (nI i))], [.int (nI i + 1), .ref 1000001, .ref 0], M)) rfl ?_
  refine wp_scr (j := 1) (i := i) hc rfl hR (by omega) hL (by decide) ?_
  refine wp_cv (As := [.int (xs (i + 1))]) (b := 0) (r := []) hc rfl (by rw [cm_110]; rfl) rfl (Nat.le_of_ble_eq_true rfl) hR.2.2.2.1 (by rw [cm_110]; exact hR.2.2.1) h1 ?_
  show mm_wp E 289 (1050, [some (.ref 1000001), some (.ref 0), some (.ref 598), some (.int (nI i))], [.int r], M1) Q
  refine wp_go hc 5 (z' := (1055, [some (.ref 1000001), some (.ref 0), some (.ref 598), some (.int (nI i))], [.int (nI i + 1), .ref 1000001, .ref 598, .int r], M1)) rfl ?_
  refine wp_scr (j := 1) (i := i) hc rfl hR1 (by omega) hL (by decide) ?_
  refine wp_cv (As := [.int (xs (i + 1))]) (b := 598) (r := [.int r]) hc rfl (by rw [cm_262]; rfl) rfl (Nat.le_of_ble_eq_true rfl) hR1.2.2.2.2.2 (by rw [cm_262]; exact hR1.2.2.2.2.1) h2 ?_
  show mm_wp E 289 (1059, [some (.ref 1000001), some (.ref 0), some (.ref 598), some (.int (nI i))], [.int r, .int r], M2) Q
  refine wp_go hc 1 (z' := if r = r then (1560, [some (.ref 1000001), some (.ref 0), some (.ref 598), some (.int (nI i))], [], M2) else (1062, [some (.ref 1000001), some (.ref 0), some (.ref 598), some (.int (nI i))], [], M2)) rfl ?_
  rw [if_pos rfl]
  exact kk
set_option maxRecDepth 100000 in
theorem lw_c26 {E : mm_EV} {L : Nat} {xs : Nat → Int32} {i : Nat} {M M2 : mm_M} {Q : mm_Rs → Prop} (hR : lw_R L xs M) (hi : i + 6 ≤ L) (hL : L ≤ 3072) (h : lw_ok E L xs 111 264 [] M M2)
    (kk : mm_wp E 289 (1560, [some (.ref 1000001), some (.ref 0), some (.ref 598), some (.int (nI i))], [], M2) Q) : mm_wp E 289 (1064, [some (.ref 1000001), some (.ref 0), some (.ref 598), some (.int (nI i))], [], M) Q := by
  have hc : (mm_CM 289).2.2.2.2.2.2.2 = mm_cf cd_289 := by rw [cm_289]; rfl
  obtain ⟨r, M1, h1, hR1, h2, hR2⟩ := h
  refine wp_go hc 1 (z' := (1065, [some (.ref 1000001), some (.ref 0), some (.ref 598), some (.int (nI i))], [.ref 0], M)) rfl ?_
  refine wp_cv (As := []) (b := 0) (r := []) hc rfl (by rw [cm_111]; rfl) rfl (Nat.le_of_ble_eq_true rfl) hR.2.2.2.1 (by rw [cm_111]; exact hR.2.2.1) h1 ?_
  show mm_wp E 289 (1068, [some (.ref 1000001), some (.ref 0), some (.ref 598), some (.int (nI i))], [.int r], M1) Q
  refine wp_go hc 1 (z' := (1069, [some (.ref 1000001), some (.ref 0), some (.ref 598), some (.int (nI i))], [.ref 598, .int r], M1)) rfl ?_
  refine wp_cv (As := []) (b := 598) (r := [.int r]) hc rfl (by rw [cm_264]; rfl) rfl (Nat.le_of_ble_eq_true rfl) hR1.2.2.2.2.2 (by rw [cm_264]; exact hR1.2.2.2.2.1) h2 ?_
  show mm_wp E 289 (1072, [some (.ref 1000001), some (.ref 0), some (.ref 598), some (.int (nI i))], [.int r, .int r], M2) Q
  refine wp_go hc 1 (z' := if r = r then (1560, [some (.ref 1000001), some (.ref 0), some (.ref 598), some (.int (nI i))], [], M2) else (1075, [some (.ref 1000001), some (.ref 0), some (.ref 598), some (.int (nI i))], [], M2)) rfl ?_
  rw [if_pos rfl]
  exact kk
set_option maxRecDepth 100000 in
theorem lw_c27 {E : mm_EV} {L : Nat} {xs : Nat → Int32} {i : Nat} {M M2 : mm_M} {Q : mm_Rs → Prop} (hR : lw_R L xs M) (hi : i + 6 ≤ L) (hL : L ≤ 3072) (h : lw_ok E L xs 112 266 [.int (xs (i + 1)), .int (xs (i + 2))] M M2)
    (kk : mm_wp E 289 (1560, [some (.ref 1000001), some (.ref 0), some (.ref 598), some (.int (nI i))], [], M2) Q) : mm_wp E 289 (1077, [some (.ref 1000001), some (.ref 0), some (.ref 598), some (.int (nI i))], [], M) Q := by
  have hc : (mm_CM 289).2.2.2.2.2.2.2 = mm_cf cd_289 := by rw [cm_289]; rfl
  obtain ⟨r, M1, h1, hR1, h2, hR2⟩ := h
  refine wp_go hc 5 (z' := (1082, [some (.ref 1000001), some (.ref 0), some (.ref 598), some (.int (nI i))], [.int (nI i + 1), .ref 1000001, .ref 0], M)) rfl ?_
  refine wp_scr (j := 1) (i := i) hc rfl hR (by omega) hL (by decide) ?_
  refine wp_go hc 4 (z' := (1087, [some (.ref 1000001), some (.ref 0), some (.ref 598), some (.int (nI i))], [.int (nI i + 2), .ref 1000001, .int (xs (i + 1)), .ref 0], M)) rfl ?_
  refine wp_scr (j := 2) (i := i) hc rfl hR (by omega) hL (by decide) ?_
  refine wp_cv (As := [.int (xs (i + 1)), .int (xs (i + 2))]) (b := 0) (r := []) hc rfl (by rw [cm_112]; rfl) rfl (Nat.le_of_ble_eq_true rfl) hR.2.2.2.1 (by rw [cm_112]; exact hR.2.2.1) h1 ?_
  show mm_wp E 289 (1091, [some (.ref 1000001), some (.ref 0), some (.ref 598), some (.int (nI i))], [.int r], M1) Q
  refine wp_go hc 5 (z' := (1096, [some (.ref 1000001), some (.ref 0), some (.ref 598), some (.int (nI i))], [.int (nI i + 1), .ref 1000001, .ref 598, .int r], M1)) rfl ?_
  refine wp_scr (j := 1) (i := i) hc rfl hR1 (by omega) hL (by decide) ?_
  refine wp_go hc 4 (z' := (1101, [some (.ref 1000001), some (.ref 0), some (.ref 598), some (.int (nI i))], [.int (nI i + 2), .ref 1000001, .int (xs (i + 1)), .ref 598, .int r], M1)) rfl ?_
  refine wp_scr (j := 2) (i := i) hc rfl hR1 (by omega) hL (by decide) ?_
  refine wp_cv (As := [.int (xs (i + 1)), .int (xs (i + 2))]) (b := 598) (r := [.int r]) hc rfl (by rw [cm_266]; rfl) rfl (Nat.le_of_ble_eq_true rfl) hR1.2.2.2.2.2 (by rw [cm_266]; exact hR1.2.2.2.2.1) h2 ?_
  show mm_wp E 289 (1105, [some (.ref 1000001), some (.ref 0), some (.ref 598), some (.int (nI i))], [.int r, .int r], M2) Q
  refine wp_go hc 1 (z' := if r = r then (1560, [some (.ref 1000001), some (.ref 0), some (.ref 598), some (.int (nI i))], [], M2) else (1108, [some (.ref 1000001), some (.ref 0), some (.ref 598), some (.int (nI i))], [], M2)) rfl ?_
  rw [if_pos rfl]
  exact kk
set_option maxRecDepth 100000 in
theorem lw_c28 {E : mm_EV} {L : Nat} {xs : Nat → Int32} {i : Nat} {M M2 : mm_M} {Q : mm_Rs → Prop} (hR : lw_R L xs M) (hi : i + 6 ≤ L) (hL : L ≤ 3072) (h : lw_ok E L xs 113 271 [.int (xs (i + 1)), .int (xs (i + 2)), .int (xs (i + 3)), .int (xs (i + 4)), .int (xs (i + 5))] M M2)
    (kk : mm_wp E 289 (1560, [some (.ref 1000001), some (.ref 0), some (.ref 598), some (.int (nI i))], [], M2) Q) : mm_wp E 289 (1110, [some (.ref 1000001), some (.ref 0), some (.ref 598), some (.int (nI i))], [], M) Q := by
  have hc : (mm_CM 289).2.2.2.2.2.2.2 = mm_cf cd_289 := by rw [cm_289]; rfl
  obtain ⟨r, M1, h1, hR1, h2, hR2⟩ := h
  refine wp_go hc 5 (z' := (1115, [some (.ref 1000001), some (.ref 0), some (.ref 598), some (.int (nI i))], [.int (nI i + 1), .ref 1000001, .ref 0], M)) rfl ?_
  refine wp_scr (j := 1) (i := i) hc rfl hR (by omega) hL (by decide) ?_
  refine wp_go hc 4 (z' := (1120, [some (.ref 1000001), some (.ref 0), some (.ref 598), some (.int (nI i))], [.int (nI i + 2), .ref 1000001, .int (xs (i + 1)), .ref 0], M)) rfl ?_
  refine wp_scr (j := 2) (i := i) hc rfl hR (by omega) hL (by decide) ?_
  refine wp_go hc 4 (z' := (1125, [some (.ref 1000001), some (.ref 0), some (.ref 598), some (.int (nI i))], [.int (nI i + 3), .ref 1000001, .int (xs (i + 2)), .int (xs (i + 1)), .ref 0], M)) rfl ?_
  refine wp_scr (j := 3) (i := i) hc rfl hR (by omega) hL (by decide) ?_
  refine wp_go hc 4 (z' := (1130, [some (.ref 1000001), some (.ref 0), some (.ref 598), some (.int (nI i))], [.int (nI i + 4), .ref 1000001, .int (xs (i + 3)), .int (xs (i + 2)), .int (xs (i + 1)), .ref 0], M)) rfl ?_
  refine wp_scr (j := 4) (i := i) hc rfl hR (by omega) hL (by decide) ?_
  refine wp_go hc 4 (z' := (1135, [some (.ref 1000001), some (.ref 0), some (.ref 598), some (.int (nI i))], [.int (nI i + 5), .ref 1000001, .int (xs (i + 4)), .int (xs (i + 3)), .int (xs (i + 2)), .int (xs (i + 1)), .ref 0], M)) rfl ?_
  refine wp_scr (j := 5) (i := i) hc rfl hR (by omega) hL (by decide) ?_
  refine wp_cv (As := [.int (xs (i + 1)), .int (xs (i + 2)), .int (xs (i + 3)), .int (xs (i + 4)), .int (xs (i + 5))]) (b := 0) (r := []) hc rfl (by rw [cm_113]; rfl) rfl (Nat.le_of_ble_eq_true rfl) hR.2.2.2.1 (by rw [cm_113]; exact hR.2.2.1) h1 ?_
  show mm_wp E 289 (1139, [some (.ref 1000001), some (.ref 0), some (.ref 598), some (.int (nI i))], [.int r], M1) Q
  refine wp_go hc 5 (z' := (1144, [some (.ref 1000001), some (.ref 0), some (.ref 598), some (.int (nI i))], [.int (nI i + 1), .ref 1000001, .ref 598, .int r], M1)) rfl ?_
  refine wp_scr (j := 1) (i := i) hc rfl hR1 (by omega) hL (by decide) ?_
  refine wp_go hc 4 (z' := (1149, [some (.ref 1000001), some (.ref 0), some (.ref 598), some (.int (nI i))], [.int (nI i + 2), .ref 1000001, .int (xs (i + 1)), .ref 598, .int r], M1)) rfl ?_
  refine wp_scr (j := 2) (i := i) hc rfl hR1 (by omega) hL (by decide) ?_
  refine wp_go hc 4 (z' := (1154, [some (.ref 1000001), some (.ref 0), some (.ref 598), some (.int (nI i))], [.int (nI i + 3), .ref 1000001, .int (xs (i + 2)), .int (xs (i + 1)), .ref 598, .int r], M1)) rfl ?_
  refine wp_scr (j := 3) (i := i) hc rfl hR1 (by omega) hL (by decide) ?_
  refine wp_go hc 4 (z' := (1159, [some (.ref 1000001), some (.ref 0), some (.ref 598), some (.int (nI i))], [.int (nI i + 4), .ref 1000001, .int (xs (i + 3)), .int (xs (i + 2)), .int (xs (i + 1)), .ref 598, .int r], M1)) rfl ?_
  refine wp_scr (j := 4) (i := i) hc rfl hR1 (by omega) hL (by decide) ?_
  refine wp_go hc 4 (z' := (1164, [some (.ref 1000001), some (.ref 0), some (.ref 598), some (.int (nI i))], [.int (nI i + 5), .ref 1000001, .int (xs (i + 4)), .int (xs (i + 3)), .int (xs (i + 2)), .int (xs (i + 1)), .ref 598, .int r], M1)) rfl ?_
  refine wp_scr (j := 5) (i := i) hc rfl hR1 (by omega) hL (by decide) ?_
  refine wp_cv (As := [.int (xs (i + 1)), .int (xs (i + 2)), .int (xs (i + 3)), .int (xs (i + 4)), .int (xs (i + 5))]) (b := 598) (r := [.int r]) hc rfl (by rw [cm_271]; rfl) rfl (Nat.le_of_ble_eq_true rfl) hR1.2.2.2.2.2 (by rw [cm_271]; exact hR1.2.2.2.2.1) h2 ?_
  show mm_wp E 289 (1168, [some (.ref 1000001), some (.ref 0), some (.ref 598), some (.int (nI i))], [.int r, .int r], M2) Q
  refine wp_go hc 1 (z' := if r = r then (1560, [some (.ref 1000001), some (.ref 0), some (.ref 598), some (.int (nI i))], [], M2) else (1171, [some (.ref 1000001), some (.ref 0), some (.ref 598), some (.int (nI i))], [], M2)) rfl ?_
  rw [if_pos rfl]
  exact kk
set_option maxRecDepth 100000 in
theorem lw_c29 {E : mm_EV} {L : Nat} {xs : Nat → Int32} {i : Nat} {M M2 : mm_M} {Q : mm_Rs → Prop} (hR : lw_R L xs M) (hi : i + 6 ≤ L) (hL : L ≤ 3072) (h : lw_ok E L xs 114 274 [.int (xs (i + 1)), .int (xs (i + 2)), .int (xs (i + 3)), .int (if xs (i + 4) = 0 then 0 else 1)] M M2)
    (kk : mm_wp E 289 (1560, [some (.ref 1000001), some (.ref 0), some (.ref 598), some (.int (nI i))], [], M2) Q) : mm_wp E 289 (1173, [some (.ref 1000001), some (.ref 0), some (.ref 598), some (.int (nI i))], [], M) Q := by
  have hc : (mm_CM 289).2.2.2.2.2.2.2 = mm_cf cd_289 := by rw [cm_289]; rfl
  obtain ⟨r, M1, h1, hR1, h2, hR2⟩ := h
  refine wp_go hc 5 (z' := (1178, [some (.ref 1000001), some (.ref 0), some (.ref 598), some (.int (nI i))], [.int (nI i + 1), .ref 1000001, .ref 0], M)) rfl ?_
  refine wp_scr (j := 1) (i := i) hc rfl hR (by omega) hL (by decide) ?_
  refine wp_go hc 4 (z' := (1183, [some (.ref 1000001), some (.ref 0), some (.ref 598), some (.int (nI i))], [.int (nI i + 2), .ref 1000001, .int (xs (i + 1)), .ref 0], M)) rfl ?_
  refine wp_scr (j := 2) (i := i) hc rfl hR (by omega) hL (by decide) ?_
  refine wp_go hc 4 (z' := (1188, [some (.ref 1000001), some (.ref 0), some (.ref 598), some (.int (nI i))], [.int (nI i + 3), .ref 1000001, .int (xs (i + 2)), .int (xs (i + 1)), .ref 0], M)) rfl ?_
  refine wp_scr (j := 3) (i := i) hc rfl hR (by omega) hL (by decide) ?_
  refine wp_go hc 4 (z' := (1193, [some (.ref 1000001), some (.ref 0), some (.ref 598), some (.int (nI i))], [.int (nI i + 4), .ref 1000001, .int (xs (i + 3)), .int (xs (i + 2)), .int (xs (i + 1)), .ref 0], M)) rfl ?_
  refine wp_scr (j := 4) (i := i) hc rfl hR (by omega) hL (by decide) ?_
  refine wp_go hc 1 (z' := if xs (i + 4) = 0 then (1201, [some (.ref 1000001), some (.ref 0), some (.ref 598), some (.int (nI i))], [.int (xs (i + 3)), .int (xs (i + 2)), .int (xs (i + 1)), .ref 0], M) else (1197, [some (.ref 1000001), some (.ref 0), some (.ref 598), some (.int (nI i))], [.int (xs (i + 3)), .int (xs (i + 2)), .int (xs (i + 1)), .ref 0], M)) rfl ?_
  suffices K : mm_wp E 289 (1202, [some (.ref 1000001), some (.ref 0), some (.ref 598), some (.int (nI i))], [.int (if xs (i + 4) = 0 then 0 else 1), .int (xs (i + 3)), .int (xs (i + 2)), .int (xs (i + 1)), .ref 0], M) Q from wp_if (fun h => wp_go hc 1 (z' := (1202, [some (.ref 1000001), some (.ref 0), some (.ref 598), some (.int (nI i))], [.int 0, .int (xs (i + 3)), .int (xs (i + 2)), .int (xs (i + 1)), .ref 0], M)) rfl (by rw [if_pos h] at K; exact K)) (fun h => wp_go hc 2 (z' := (1202, [some (.ref 1000001), some (.ref 0), some (.ref 598), some (.int (nI i))], [.int 1, .int (xs (i + 3)), .int (xs (i + 2)), .int (xs (i + 1)), .ref 0], M)) rfl (by rw [if_neg h] at K; exact K))
  refine wp_cv (As := [.int (xs (i + 1)), .int (xs (i + 2)), .int (xs (i + 3)), .int (if xs (i + 4) = 0 then 0 else 1)]) (b := 0) (r := []) hc rfl (by rw [cm_114]; rfl) rfl (Nat.le_of_ble_eq_true rfl) hR.2.2.2.1 (by rw [cm_114]; exact hR.2.2.1) h1 ?_
  show mm_wp E 289 (1205, [some (.ref 1000001), some (.ref 0), some (.ref 598), some (.int (nI i))], [.int r], M1) Q
  refine wp_go hc 5 (z' := (1210, [some (.ref 1000001), some (.ref 0), some (.ref 598), some (.int (nI i))], [.int (nI i + 1), .ref 1000001, .ref 598, .int r], M1)) rfl ?_
  refine wp_scr (j := 1) (i := i) hc rfl hR1 (by omega) hL (by decide) ?_
  refine wp_go hc 4 (z' := (1215, [some (.ref 1000001), some (.ref 0), some (.ref 598), some (.int (nI i))], [.int (nI i + 2), .ref 1000001, .int (xs (i + 1)), .ref 598, .int r], M1)) rfl ?_
  refine wp_scr (j := 2) (i := i) hc rfl hR1 (by omega) hL (by decide) ?_
  refine wp_go hc 4 (z' := (1220, [some (.ref 1000001), some (.ref 0), some (.ref 598), some (.int (nI i))], [.int (nI i + 3), .ref 1000001, .int (xs (i + 2)), .int (xs (i + 1)), .ref 598, .int r], M1)) rfl ?_
  refine wp_scr (j := 3) (i := i) hc rfl hR1 (by omega) hL (by decide) ?_
  refine wp_go hc 4 (z' := (1225, [some (.ref 1000001), some (.ref 0), some (.ref 598), some (.int (nI i))], [.int (nI i + 4), .ref 1000001, .int (xs (i + 3)), .int (xs (i + 2)), .int (xs (i + 1)), .ref 598, .int r], M1)) rfl ?_
  refine wp_scr (j := 4) (i := i) hc rfl hR1 (by omega) hL (by decide) ?_
  refine wp_go hc 1 (z' := if xs (i + 4) = 0 then (1233, [some (.ref 1000001), some (.ref 0), some (.ref 598), some (.int (nI i))], [.int (xs (i + 3)), .int (xs (i + 2)), .int (xs (i + 1)), .ref 598, .int r], M1) else (1229, [some (.ref 1000001), some (.ref 0), some (.ref 598), some (.int (nI i))], [.int (xs (i + 3)), .int (xs (i + 2)), .int (xs (i + 1)), .ref 598, .int r], M1)) rfl ?_
  suffices K : mm_wp E 289 (1234, [some (.ref 1000001), some (.ref 0), some (.ref 598), some (.int (nI i))], [.int (if xs (i + 4) = 0 then 0 else 1), .int (xs (i + 3)), .int (xs (i + 2)), .int (xs (i + 1)), .ref 598, .int r], M1) Q from wp_if (fun h => wp_go hc 1 (z' := (1234, [some (.ref 1000001), some (.ref 0), some (.ref 598), some (.int (nI i))], [.int 0, .int (xs (i + 3)), .int (xs (i + 2)), .int (xs (i + 1)), .ref 598, .int r], M1)) rfl (by rw [if_pos h] at K; exact K)) (fun h => wp_go hc 2 (z' := (1234, [some (.ref 1000001), some (.ref 0), some (.ref 598), some (.int (nI i))], [.int 1, .int (xs (i + 3)), .int (xs (i + 2)), .int (xs (i + 1)), .ref 598, .int r], M1)) rfl (by rw [if_neg h] at K; exact K))
  refine wp_cv (As := [.int (xs (i + 1)), .int (xs (i + 2)), .int (xs (i + 3)), .int (if xs (i + 4) = 0 then 0 else 1)]) (b := 598) (r := [.int r]) hc rfl (by rw [cm_274]; rfl) rfl (Nat.le_of_ble_eq_true rfl) hR1.2.2.2.2.2 (by rw [cm_274]; exact hR1.2.2.2.2.1) h2 ?_
  show mm_wp E 289 (1237, [some (.ref 1000001), some (.ref 0), some (.ref 598), some (.int (nI i))], [.int r, .int r], M2) Q
  refine wp_go hc 1 (z' := if r = r then (1560, [some (.ref 1000001), some (.ref 0), some (.ref 598), some (.int (nI i))], [], M2) else (1240, [some (.ref 1000001), some (.ref 0), some (.ref 598), some (.int (nI i))], [], M2)) rfl ?_
  rw [if_pos rfl]
  exact kk
set_option maxRecDepth 100000 in
theorem lw_c30 {E : mm_EV} {L : Nat} {xs : Nat → Int32} {i : Nat} {M M2 : mm_M} {Q : mm_Rs → Prop} (hR : lw_R L xs M) (hi : i + 6 ≤ L) (hL : L ≤ 3072) (h : lw_ok E L xs 115 275 [.int (xs (i + 1)), .int (xs (i + 2)), .int (xs (i + 3)), .int (if xs (i + 4) = 0 then 0 else 1)] M M2)
    (kk : mm_wp E 289 (1560, [some (.ref 1000001), some (.ref 0), some (.ref 598), some (.int (nI i))], [], M2) Q) : mm_wp E 289 (1242, [some (.ref 1000001), some (.ref 0), some (.ref 598), some (.int (nI i))], [], M) Q := by
  have hc : (mm_CM 289).2.2.2.2.2.2.2 = mm_cf cd_289 := by rw [cm_289]; rfl
  obtain ⟨r, M1, h1, hR1, h2, hR2⟩ := h
  refine wp_go hc 5 (z' := (1247, [some (.ref 1000001), some (.ref 0), some (.ref 598), some (.int (nI i))], [.int (nI i + 1), .ref 1000001, .ref 0], M)) rfl ?_
  refine wp_scr (j := 1) (i := i) hc rfl hR (by omega) hL (by decide) ?_
  refine wp_go hc 4 (z' := (1252, [some (.ref 1000001), some (.ref 0), some (.ref 598), some (.int (nI i))], [.int (nI i + 2), .ref 1000001, .int (xs (i + 1)), .ref 0], M)) rfl ?_
  refine wp_scr (j := 2) (i := i) hc rfl hR (by omega) hL (by decide) ?_
  refine wp_go hc 4 (z' := (1257, [some (.ref 1000001), some (.ref 0), some (.ref 598), some (.int (nI i))], [.int (nI i + 3), .ref 1000001, .int (xs (i + 2)), .int (xs (i + 1)), .ref 0], M)) rfl ?_
  refine wp_scr (j := 3) (i := i) hc rfl hR (by omega) hL (by decide) ?_
  refine wp_go hc 4 (z' := (1262, [some (.ref 1000001), some (.ref 0), some (.ref 598), some (.int (nI i))], [.int (nI i + 4), .ref 1000001, .int (xs (i + 3)), .int (xs (i + 2)), .int (xs (i + 1)), .ref 0], M)) rfl ?_
  refine wp_scr (j := 4) (i := i) hc rfl hR (by omega) hL (by decide) ?_
  refine wp_go hc 1 (z' := if xs (i + 4) = 0 then (1270, [some (.ref 1000001), some (.ref 0), some (.ref 598), some (.int (nI i))], [.int (xs (i + 3)), .int (xs (i + 2)), .int (xs (i + 1)), .ref 0], M) else (1266, [some (.ref 1000001), some (.ref 0), some (.ref 598), some (.int (nI i))], [.int (xs (i + 3)), .int (xs (i + 2)), .int (xs (i + 1)), .ref 0], M)) rfl ?_
  suffices K : mm_wp E 289 (1271, [some (.ref 1000001), some (.ref 0), some (.ref 598), some (.int (nI i))], [.int (if xs (i + 4) = 0 then 0 else 1), .int (xs (i + 3)), .int (xs (i + 2)), .int (xs (i + 1)), .ref 0], M) Q from wp_if (fun h => wp_go hc 1 (z' := (1271, [some (.ref 1000001), some (.ref 0), some (.ref 598), some (.int (nI i))], [.int 0, .int (xs (i + 3)), .int (xs (i + 2)), .int (xs (i + 1)), .ref 0], M)) rfl (by rw [if_pos h] at K; exact K)) (fun h => wp_go hc 2 (z' := (1271, [some (.ref 1000001), some (.ref 0), some (.ref 598), some (.int (nI i))], [.int 1, .int (xs (i + 3)), .int (xs (i + 2)), .int (xs (i + 1)), .ref 0], M)) rfl (by rw [if_neg h] at K; exact K))
  refine wp_cv (As := [.int (xs (i + 1)), .int (xs (i + 2)), .int (xs (i + 3)), .int (if xs (i + 4) = 0 then 0 else 1)]) (b := 0) (r := []) hc rfl (by rw [cm_115]; rfl) rfl (Nat.le_of_ble_eq_true rfl) hR.2.2.2.1 (by rw [cm_115]; exact hR.2.2.1) h1 ?_
  show mm_wp E 289 (1274, [some (.ref 1000001), some (.ref 0), some (.ref 598), some (.int (nI i))], [.int r], M1) Q
  refine wp_go hc 5 (z' := (1279, [some (.ref 1000001), some (.ref 0), some (.ref 598), some (.int (nI i))], [.int (nI i + 1), .ref 1000001, .ref 598, .int r], M1)) rfl ?_
  refine wp_scr (j := 1) (i := i) hc rfl hR1 (by omega) hL (by decide) ?_
  refine wp_go hc 4 (z' := (1284, [some (.ref 1000001), some (.ref 0), some (.ref 598), some (.int (nI i))], [.int (nI i + 2), .ref 1000001, .int (xs (i + 1)), .ref 598, .int r], M1)) rfl ?_
  refine wp_scr (j := 2) (i := i) hc rfl hR1 (by omega) hL (by decide) ?_
  refine wp_go hc 4 (z' := (1289, [some (.ref 1000001), some (.ref 0), some (.ref 598), some (.int (nI i))], [.int (nI i + 3), .ref 1000001, .int (xs (i + 2)), .int (xs (i + 1)), .ref 598, .int r], M1)) rfl ?_
  refine wp_scr (j := 3) (i := i) hc rfl hR1 (by omega) hL (by decide) ?_
  refine wp_go hc 4 (z' := (1294, [some (.ref 1000001), some (.ref 0), some (.ref 598), some (.int (nI i))], [.int (nI i + 4), .ref 1000001, .int (xs (i + 3)), .int (xs (i + 2)), .int (xs (i + 1)), .ref 598, .int r], M1)) rfl ?_
  refine wp_scr (j := 4) (i := i) hc rfl hR1 (by omega) hL (by decide) ?_
  refine wp_go hc 1 (z' := if xs (i + 4) = 0 then (1302, [some (.ref 1000001), some (.ref 0), some (.ref 598), some (.int (nI i))], [.int (xs (i + 3)), .int (xs (i + 2)), .int (xs (i + 1)), .ref 598, .int r], M1) else (1298, [some (.ref 1000001), some (.ref 0), some (.ref 598), some (.int (nI i))], [.int (xs (i + 3)), .int (xs (i + 2)), .int (xs (i + 1)), .ref 598, .int r], M1)) rfl ?_
  suffices K : mm_wp E 289 (1303, [some (.ref 1000001), some (.ref 0), some (.ref 598), some (.int (nI i))], [.int (if xs (i + 4) = 0 then 0 else 1), .int (xs (i + 3)), .int (xs (i + 2)), .int (xs (i + 1)), .ref 598, .int r], M1) Q from wp_if (fun h => wp_go hc 1 (z' := (1303, [some (.ref 1000001), some (.ref 0), some (.ref 598), some (.int (nI i))], [.int 0, .int (xs (i + 3)), .int (xs (i + 2)), .int (xs (i + 1)), .ref 598, .int r], M1)) rfl (by rw [if_pos h] at K; exact K)) (fun h => wp_go hc 2 (z' := (1303, [some (.ref 1000001), some (.ref 0), some (.ref 598), some (.int (nI i))], [.int 1, .int (xs (i + 3)), .int (xs (i + 2)), .int (xs (i + 1)), .ref 598, .int r], M1)) rfl (by rw [if_neg h] at K; exact K))
  refine wp_cv (As := [.int (xs (i + 1)), .int (xs (i + 2)), .int (xs (i + 3)), .int (if xs (i + 4) = 0 then 0 else 1)]) (b := 598) (r := [.int r]) hc rfl (by rw [cm_275]; rfl) rfl (Nat.le_of_ble_eq_true rfl) hR1.2.2.2.2.2 (by rw [cm_275]; exact hR1.2.2.2.2.1) h2 ?_
  show mm_wp E 289 (1306, [some (.ref 1000001), some (.ref 0), some (.ref 598), some (.int (nI i))], [.int r, .int r], M2) Q
  refine wp_go hc 1 (z' := if r = r then (1560, [some (.ref 1000001), some (.ref 0), some (.ref 598), some (.int (nI i))], [], M2) else (1309, [some (.ref 1000001), some (.ref 0), some (.ref 598), some (.int (nI i))], [], M2)) rfl ?_
  rw [if_pos rfl]
  exact kk
set_option maxRecDepth 100000 in
theorem lw_c31 {E : mm_EV} {L : Nat} {xs : Nat → Int32} {i : Nat} {M M2 : mm_M} {Q : mm_Rs → Prop} (hR : lw_R L xs M) (hi : i + 6 ≤ L) (hL : L ≤ 3072) (h : lw_ok E L xs 116 277 [.int (xs (i + 1))] M M2)
    (kk : mm_wp E 289 (1560, [some (.ref 1000001), some (.ref 0), some (.ref 598), some (.int (nI i))], [], M2) Q) : mm_wp E 289 (1311, [some (.ref 1000001), some (.ref 0), some (.ref 598), some (.int (nI i))], [], M) Q := by
  have hc : (mm_CM 289).2.2.2.2.2.2.2 = mm_cf cd_289 := by rw [cm_289]; rfl
  obtain ⟨r, M1, h1, hR1, h2, hR2⟩ := h
  refine wp_go hc 5 (z' := (1316, [some (.ref 1000001), some (.ref 0), some (.ref 598), some (.int (nI i))], [.int (nI i + 1), .ref 1000001, .ref 0], M)) rfl ?_
  refine wp_scr (j := 1) (i := i) hc rfl hR (by omega) hL (by decide) ?_
  refine wp_cv (As := [.int (xs (i + 1))]) (b := 0) (r := []) hc rfl (by rw [cm_116]; rfl) rfl (Nat.le_of_ble_eq_true rfl) hR.2.2.2.1 (by rw [cm_116]; exact hR.2.2.1) h1 ?_
  show mm_wp E 289 (1320, [some (.ref 1000001), some (.ref 0), some (.ref 598), some (.int (nI i))], [.int r], M1) Q
  refine wp_go hc 5 (z' := (1325, [some (.ref 1000001), some (.ref 0), some (.ref 598), some (.int (nI i))], [.int (nI i + 1), .ref 1000001, .ref 598, .int r], M1)) rfl ?_
  refine wp_scr (j := 1) (i := i) hc rfl hR1 (by omega) hL (by decide) ?_
  refine wp_cv (As := [.int (xs (i + 1))]) (b := 598) (r := [.int r]) hc rfl (by rw [cm_277]; rfl) rfl (Nat.le_of_ble_eq_true rfl) hR1.2.2.2.2.2 (by rw [cm_277]; exact hR1.2.2.2.2.1) h2 ?_
  show mm_wp E 289 (1329, [some (.ref 1000001), some (.ref 0), some (.ref 598), some (.int (nI i))], [.int r, .int r], M2) Q
  refine wp_go hc 1 (z' := if r = r then (1560, [some (.ref 1000001), some (.ref 0), some (.ref 598), some (.int (nI i))], [], M2) else (1332, [some (.ref 1000001), some (.ref 0), some (.ref 598), some (.int (nI i))], [], M2)) rfl ?_
  rw [if_pos rfl]
  exact kk
set_option maxRecDepth 100000 in
theorem lw_c32 {E : mm_EV} {L : Nat} {xs : Nat → Int32} {i : Nat} {M M2 : mm_M} {Q : mm_Rs → Prop} (hR : lw_R L xs M) (hi : i + 6 ≤ L) (hL : L ≤ 3072) (h : lw_ok E L xs 117 278 [.int (xs (i + 1))] M M2)
    (kk : mm_wp E 289 (1560, [some (.ref 1000001), some (.ref 0), some (.ref 598), some (.int (nI i))], [], M2) Q) : mm_wp E 289 (1334, [some (.ref 1000001), some (.ref 0), some (.ref 598), some (.int (nI i))], [], M) Q := by
  have hc : (mm_CM 289).2.2.2.2.2.2.2 = mm_cf cd_289 := by rw [cm_289]; rfl
  obtain ⟨r, M1, h1, hR1, h2, hR2⟩ := h
  refine wp_go hc 5 (z' := (1339, [some (.ref 1000001), some (.ref 0), some (.ref 598), some (.int (nI i))], [.int (nI i + 1), .ref 1000001, .ref 0], M)) rfl ?_
  refine wp_scr (j := 1) (i := i) hc rfl hR (by omega) hL (by decide) ?_
  refine wp_cv (As := [.int (xs (i + 1))]) (b := 0) (r := []) hc rfl (by rw [cm_117]; rfl) rfl (Nat.le_of_ble_eq_true rfl) hR.2.2.2.1 (by rw [cm_117]; exact hR.2.2.1) h1 ?_
  show mm_wp E 289 (1343, [some (.ref 1000001), some (.ref 0), some (.ref 598), some (.int (nI i))], [.int r], M1) Q
  refine wp_go hc 5 (z' := (1348, [some (.ref 1000001), some (.ref 0), some (.ref 598), some (.int (nI i))], [.int (nI i + 1), .ref 1000001, .ref 598, .int r], M1)) rfl ?_
  refine wp_scr (j := 1) (i := i) hc rfl hR1 (by omega) hL (by decide) ?_
  refine wp_cv (As := [.int (xs (i + 1))]) (b := 598) (r := [.int r]) hc rfl (by rw [cm_278]; rfl) rfl (Nat.le_of_ble_eq_true rfl) hR1.2.2.2.2.2 (by rw [cm_278]; exact hR1.2.2.2.2.1) h2 ?_
  show mm_wp E 289 (1352, [some (.ref 1000001), some (.ref 0), some (.ref 598), some (.int (nI i))], [.int r, .int r], M2) Q
  refine wp_go hc 1 (z' := if r = r then (1560, [some (.ref 1000001), some (.ref 0), some (.ref 598), some (.int (nI i))], [], M2) else (1355, [some (.ref 1000001), some (.ref 0), some (.ref 598), some (.int (nI i))], [], M2)) rfl ?_
  rw [if_pos rfl]
  exact kk
set_option maxRecDepth 100000 in
theorem lw_c33 {E : mm_EV} {L : Nat} {xs : Nat → Int32} {i : Nat} {M M2 : mm_M} {Q : mm_Rs → Prop} (hR : lw_R L xs M) (hi : i + 6 ≤ L) (hL : L ≤ 3072) (h : lw_ok E L xs 118 279 [.int (xs (i + 1)), .int (xs (i + 2)), .int (if xs (i + 3) = 0 then 0 else 1), .int (if xs (i + 4) = 0 then 0 else 1)] M M2)
    (kk : mm_wp E 289 (1560, [some (.ref 1000001), some (.ref 0), some (.ref 598), some (.int (nI i))], [], M2) Q) : mm_wp E 289 (1357, [some (.ref 1000001), some (.ref 0), some (.ref 598), some (.int (nI i))], [], M) Q := by
  have hc : (mm_CM 289).2.2.2.2.2.2.2 = mm_cf cd_289 := by rw [cm_289]; rfl
  obtain ⟨r, M1, h1, hR1, h2, hR2⟩ := h
  refine wp_go hc 5 (z' := (1362, [some (.ref 1000001), some (.ref 0), some (.ref 598), some (.int (nI i))], [.int (nI i + 1), .ref 1000001, .ref 0], M)) rfl ?_
  refine wp_scr (j := 1) (i := i) hc rfl hR (by omega) hL (by decide) ?_
  refine wp_go hc 4 (z' := (1367, [some (.ref 1000001), some (.ref 0), some (.ref 598), some (.int (nI i))], [.int (nI i + 2), .ref 1000001, .int (xs (i + 1)), .ref 0], M)) rfl ?_
  refine wp_scr (j := 2) (i := i) hc rfl hR (by omega) hL (by decide) ?_
  refine wp_go hc 4 (z' := (1372, [some (.ref 1000001), some (.ref 0), some (.ref 598), some (.int (nI i))], [.int (nI i + 3), .ref 1000001, .int (xs (i + 2)), .int (xs (i + 1)), .ref 0], M)) rfl ?_
  refine wp_scr (j := 3) (i := i) hc rfl hR (by omega) hL (by decide) ?_
  refine wp_go hc 1 (z' := if xs (i + 3) = 0 then (1380, [some (.ref 1000001), some (.ref 0), some (.ref 598), some (.int (nI i))], [.int (xs (i + 2)), .int (xs (i + 1)), .ref 0], M) else (1376, [some (.ref 1000001), some (.ref 0), some (.ref 598), some (.int (nI i))], [.int (xs (i + 2)), .int (xs (i + 1)), .ref 0], M)) rfl ?_
  suffices K : mm_wp E 289 (1381, [some (.ref 1000001), some (.ref 0), some (.ref 598), some (.int (nI i))], [.int (if xs (i + 3) = 0 then 0 else 1), .int (xs (i + 2)), .int (xs (i + 1)), .ref 0], M) Q from wp_if (fun h => wp_go hc 1 (z' := (1381, [some (.ref 1000001), some (.ref 0), some (.ref 598), some (.int (nI i))], [.int 0, .int (xs (i + 2)), .int (xs (i + 1)), .ref 0], M)) rfl (by rw [if_pos h] at K; exact K)) (fun h => wp_go hc 2 (z' := (1381, [some (.ref 1000001), some (.ref 0), some (.ref 598), some (.int (nI i))], [.int 1, .int (xs (i + 2)), .int (xs (i + 1)), .ref 0], M)) rfl (by rw [if_neg h] at K; exact K))
  refine wp_go hc 4 (z' := (1385, [some (.ref 1000001), some (.ref 0), some (.ref 598), some (.int (nI i))], [.int (nI i + 4), .ref 1000001, .int (if xs (i + 3) = 0 then 0 else 1), .int (xs (i + 2)), .int (xs (i + 1)), .ref 0], M)) rfl ?_
  refine wp_scr (j := 4) (i := i) hc rfl hR (by omega) hL (by decide) ?_
  refine wp_go hc 1 (z' := if xs (i + 4) = 0 then (1393, [some (.ref 1000001), some (.ref 0), some (.ref 598), some (.int (nI i))], [.int (if xs (i + 3) = 0 then 0 else 1), .int (xs (i + 2)), .int (xs (i + 1)), .ref 0], M) else (1389, [some (.ref 1000001), some (.ref 0), some (.ref 598), some (.int (nI i))], [.int (if xs (i + 3) = 0 then 0 else 1), .int (xs (i + 2)), .int (xs (i + 1)), .ref 0], M)) rfl ?_
  suffices K : mm_wp E 289 (1394, [some (.ref 1000001), some (.ref 0), some (.ref 598), some (.int (nI i))], [.int (if xs (i + 4) = 0 then 0 else 1), .int (if xs (i + 3) = 0 then 0 else 1), .int (xs (i + 2)), .int (xs (i + 1)), .ref 0], M) Q from wp_if (fun h => wp_go hc 1 (z' := (1394, [some (.ref 1000001), some (.ref 0), some (.ref 598), some (.int (nI i))], [.int 0, .int (if xs (i + 3) = 0 then 0 else 1), .int (xs (i + 2)), .int (xs (i + 1)), .ref 0], M)) rfl (by rw [if_pos h] at K; exact K)) (fun h => wp_go hc 2 (z' := (1394, [some (.ref 1000001), some (.ref 0), some (.ref 598), some (.int (nI i))], [.int 1, .int (if xs (i + 3) = 0 then 0 else 1), .int (xs (i + 2)), .int (xs (i + 1)), .ref 0], M)) rfl (by rw [if_neg h] at K; exact K))
  refine wp_cv (As := [.int (xs (i + 1)), .int (xs (i + 2)), .int (if xs (i + 3) = 0 then 0 else 1), .int (if xs (i + 4) = 0 then 0 else 1)]) (b := 0) (r := []) hc rfl (by rw [cm_118]; rfl) rfl (Nat.le_of_ble_eq_true rfl) hR.2.2.2.1 (by rw [cm_118]; exact hR.2.2.1) h1 ?_
  show mm_wp E 289 (1397, [some (.ref 1000001), some (.ref 0), some (.ref 598), some (.int (nI i))], [.int r], M1) Q
  refine wp_go hc 5 (z' := (1402, [some (.ref 1000001), some (.ref 0), some (.ref 598), some (.int (nI i))], [.int (nI i + 1), .ref 1000001, .ref 598, .int r], M1)) rfl ?_
  refine wp_scr (j := 1) (i := i) hc rfl hR1 (by omega) hL (by decide) ?_
  refine wp_go hc 4 (z' := (1407, [some (.ref 1000001), some (.ref 0), some (.ref 598), some (.int (nI i))], [.int (nI i + 2), .ref 1000001, .int (xs (i + 1)), .ref 598, .int r], M1)) rfl ?_
  refine wp_scr (j := 2) (i := i) hc rfl hR1 (by omega) hL (by decide) ?_
  refine wp_go hc 4 (z' := (1412, [some (.ref 1000001), some (.ref 0), some (.ref 598), some (.int (nI i))], [.int (nI i + 3), .ref 1000001, .int (xs (i + 2)), .int (xs (i + 1)), .ref 598, .int r], M1)) rfl ?_
  refine wp_scr (j := 3) (i := i) hc rfl hR1 (by omega) hL (by decide) ?_
  refine wp_go hc 1 (z' := if xs (i + 3) = 0 then (1420, [some (.ref 1000001), some (.ref 0), some (.ref 598), some (.int (nI i))], [.int (xs (i + 2)), .int (xs (i + 1)), .ref 598, .int r], M1) else (1416, [some (.ref 1000001), some (.ref 0), some (.ref 598), some (.int (nI i))], [.int (xs (i + 2)), .int (xs (i + 1)), .ref 598, .int r], M1)) rfl ?_
  suffices K : mm_wp E 289 (1421, [some (.ref 1000001), some (.ref 0), some (.ref 598), some (.int (nI i))], [.int (if xs (i + 3) = 0 then 0 else 1), .int (xs (i + 2)), .int (xs (i + 1)), .ref 598, .int r], M1) Q from wp_if (fun h => wp_go hc 1 (z' := (1421, [some (.ref 1000001), some (.ref 0), some (.ref 598), some (.int (nI i))], [.int 0, .int (xs (i + 2)), .int (xs (i + 1)), .ref 598, .int r], M1)) rfl (by rw [if_pos h] at K; exact K)) (fun h => wp_go hc 2 (z' := (1421, [some (.ref 1000001), some (.ref 0), some (.ref 598), some (.int (nI i))], [.int 1, .int (xs (i + 2)), .int (xs (i + 1)), .ref 598, .int r], M1)) rfl (by rw [if_neg h] at K; exact K))
  refine wp_go hc 4 (z' := (1425, [some (.ref 1000001), some (.ref 0), some (.ref 598), some (.int (nI i))], [.int (nI i + 4), .ref 1000001, .int (if xs (i + 3) = 0 then 0 else 1), .int (xs (i + 2)), .int (xs (i + 1)), .ref 598, .int r], M1)) rfl ?_
  refine wp_scr (j := 4) (i := i) hc rfl hR1 (by omega) hL (by decide) ?_
  refine wp_go hc 1 (z' := if xs (i + 4) = 0 then (1433, [some (.ref 1000001), some (.ref 0), some (.ref 598), some (.int (nI i))], [.int (if xs (i + 3) = 0 then 0 else 1), .int (xs (i + 2)), .int (xs (i + 1)), .ref 598, .int r], M1) else (1429, [some (.ref 1000001), some (.ref 0), some (.ref 598), some (.int (nI i))], [.int (if xs (i + 3) = 0 then 0 else 1), .int (xs (i + 2)), .int (xs (i + 1)), .ref 598, .int r], M1)) rfl ?_
  suffices K : mm_wp E 289 (1434, [some (.ref 1000001), some (.ref 0), some (.ref 598), some (.int (nI i))], [.int (if xs (i + 4) = 0 then 0 else 1), .int (if xs (i + 3) = 0 then 0 else 1), .int (xs (i + 2)), .int (xs (i + 1)), .ref 598, .int r], M1) Q from wp_if (fun h => wp_go hc 1 (z' := (1434, [some (.ref 1000001), some (.ref 0), some (.ref 598), some (.int (nI i))], [.int 0, .int (if xs (i + 3) = 0 then 0 else 1), .int (xs (i + 2)), .int (xs (i + 1)), .ref 598, .int r], M1)) rfl (by rw [if_pos h] at K; exact K)) (fun h => wp_go hc 2 (z' := (1434, [some (.ref 1000001), some (.ref 0), some (.ref 598), some (.int (nI i))], [.int 1, .int (if xs (i + 3) = 0 then 0 else 1), .int (xs (i + 2)), .int (xs (i + 1)), .ref 598, .int r], M1)) rfl (by rw [if_neg h] at K; exact K))
  refine wp_cv (As := [.int (xs (i + 1)), .int (xs (i + 2)), .int (if xs (i + 3) = 0 then 0 else 1), .int (if xs (i + 4) = 0 then 0 else 1)]) (b := 598) (r := [.int r]) hc rfl (by rw [cm_279]; rfl) rfl (Nat.le_of_ble_eq_true rfl) hR1.2.2.2.2.2 (by rw [cm_279]; exact hR1.2.2.2.2.1) h2 ?_
  show mm_wp E 289 (1437, [some (.ref 1000001), some (.ref 0), some (.ref 598), some (.int (nI i))], [.int r, .int r], M2) Q
  refine wp_go hc 1 (z' := if r = r then (1560, [some (.ref 1000001), some (.ref 0), some (.ref 598), some (.int (nI i))], [], M2) else (1440, [some (.ref 1000001), some (.ref 0), some (.ref 598), some (.int (nI i))], [], M2)) rfl ?_
  rw [if_pos rfl]
  exact kk
set_option maxRecDepth 100000 in
theorem lw_c34 {E : mm_EV} {L : Nat} {xs : Nat → Int32} {i : Nat} {M M2 : mm_M} {Q : mm_Rs → Prop} (hR : lw_R L xs M) (hi : i + 6 ≤ L) (hL : L ≤ 3072) (h : lw_ok E L xs 119 282 [.int (xs (i + 1))] M M2)
    (kk : mm_wp E 289 (1560, [some (.ref 1000001), some (.ref 0), some (.ref 598), some (.int (nI i))], [], M2) Q) : mm_wp E 289 (1442, [some (.ref 1000001), some (.ref 0), some (.ref 598), some (.int (nI i))], [], M) Q := by
  have hc : (mm_CM 289).2.2.2.2.2.2.2 = mm_cf cd_289 := by rw [cm_289]; rfl
  obtain ⟨r, M1, h1, hR1, h2, hR2⟩ := h
  refine wp_go hc 5 (z' := (1447, [some (.ref 1000001), some (.ref 0), some (.ref 598), some (.int (nI i))], [.int (nI i + 1), .ref 1000001, .ref 0], M)) rfl ?_
  refine wp_scr (j := 1) (i := i) hc rfl hR (by omega) hL (by decide) ?_
  refine wp_cv (As := [.int (xs (i + 1))]) (b := 0) (r := []) hc rfl (by rw [cm_119]; rfl) rfl (Nat.le_of_ble_eq_true rfl) hR.2.2.2.1 (by rw [cm_119]; exact hR.2.2.1) h1 ?_
  show mm_wp E 289 (1451, [some (.ref 1000001), some (.ref 0), some (.ref 598), some (.int (nI i))], [.int r], M1) Q
  refine wp_go hc 5 (z' := (1456, [some (.ref 1000001), some (.ref 0), some (.ref 598), some (.int (nI i))], [.int (nI i + 1), .ref 1000001, .ref 598, .int r], M1)) rfl ?_
  refine wp_scr (j := 1) (i := i) hc rfl hR1 (by omega) hL (by decide) ?_
  refine wp_cv (As := [.int (xs (i + 1))]) (b := 598) (r := [.int r]) hc rfl (by rw [cm_282]; rfl) rfl (Nat.le_of_ble_eq_true rfl) hR1.2.2.2.2.2 (by rw [cm_282]; exact hR1.2.2.2.2.1) h2 ?_
  show mm_wp E 289 (1460, [some (.ref 1000001), some (.ref 0), some (.ref 598), some (.int (nI i))], [.int r, .int r], M2) Q
  refine wp_go hc 1 (z' := if r = r then (1560, [some (.ref 1000001), some (.ref 0), some (.ref 598), some (.int (nI i))], [], M2) else (1463, [some (.ref 1000001), some (.ref 0), some (.ref 598), some (.int (nI i))], [], M2)) rfl ?_
  rw [if_pos rfl]
  exact kk
set_option maxRecDepth 100000 in
theorem lw_c35 {E : mm_EV} {L : Nat} {xs : Nat → Int32} {i : Nat} {M M2 : mm_M} {Q : mm_Rs → Prop} (hR : lw_R L xs M) (hi : i + 6 ≤ L) (hL : L ≤ 3072) (h : lw_ok E L xs 120 283 [.int (xs (i + 1))] M M2)
    (kk : mm_wp E 289 (1560, [some (.ref 1000001), some (.ref 0), some (.ref 598), some (.int (nI i))], [], M2) Q) : mm_wp E 289 (1465, [some (.ref 1000001), some (.ref 0), some (.ref 598), some (.int (nI i))], [], M) Q := by
  have hc : (mm_CM 289).2.2.2.2.2.2.2 = mm_cf cd_289 := by rw [cm_289]; rfl
  obtain ⟨r, M1, h1, hR1, h2, hR2⟩ := h
  refine wp_go hc 5 (z' := (1470, [some (.ref 1000001), some (.ref 0), some (.ref 598), some (.int (nI i))], [.int (nI i + 1), .ref 1000001, .ref 0], M)) rfl ?_
  refine wp_scr (j := 1) (i := i) hc rfl hR (by omega) hL (by decide) ?_
  refine wp_cv (As := [.int (xs (i + 1))]) (b := 0) (r := []) hc rfl (by rw [cm_120]; rfl) rfl (Nat.le_of_ble_eq_true rfl) hR.2.2.2.1 (by rw [cm_120]; exact hR.2.2.1) h1 ?_
  show mm_wp E 289 (1474, [some (.ref 1000001), some (.ref 0), some (.ref 598), some (.int (nI i))], [.int r], M1) Q
  refine wp_go hc 5 (z' := (1479, [some (.ref 1000001), some (.ref 0), some (.ref 598), some (.int (nI i))], [.int (nI i + 1), .ref 1000001, .ref 598, .int r], M1)) rfl ?_
  refine wp_scr (j := 1) (i := i) hc rfl hR1 (by omega) hL (by decide) ?_
  refine wp_cv (As := [.int (xs (i + 1))]) (b := 598) (r := [.int r]) hc rfl (by rw [cm_283]; rfl) rfl (Nat.le_of_ble_eq_true rfl) hR1.2.2.2.2.2 (by rw [cm_283]; exact hR1.2.2.2.2.1) h2 ?_
  show mm_wp E 289 (1483, [some (.ref 1000001), some (.ref 0), some (.ref 598), some (.int (nI i))], [.int r, .int r], M2) Q
  refine wp_go hc 1 (z' := if r = r then (1560, [some (.ref 1000001), some (.ref 0), some (.ref 598), some (.int (nI i))], [], M2) else (1486, [some (.ref 1000001), some (.ref 0), some (.ref 598), some (.int (nI i))], [], M2)) rfl ?_
  rw [if_pos rfl]
  exact kk
set_option maxRecDepth 100000 in
theorem lw_c36 {E : mm_EV} {L : Nat} {xs : Nat → Int32} {i : Nat} {M M2 : mm_M} {Q : mm_Rs → Prop} (hR : lw_R L xs M) (hi : i + 6 ≤ L) (hL : L ≤ 3072) (h : lw_ok E L xs 121 284 [.int (xs (i + 1))] M M2)
    (kk : mm_wp E 289 (1560, [some (.ref 1000001), some (.ref 0), some (.ref 598), some (.int (nI i))], [], M2) Q) : mm_wp E 289 (1488, [some (.ref 1000001), some (.ref 0), some (.ref 598), some (.int (nI i))], [], M) Q := by
  have hc : (mm_CM 289).2.2.2.2.2.2.2 = mm_cf cd_289 := by rw [cm_289]; rfl
  obtain ⟨r, M1, h1, hR1, h2, hR2⟩ := h
  refine wp_go hc 5 (z' := (1493, [some (.ref 1000001), some (.ref 0), some (.ref 598), some (.int (nI i))], [.int (nI i + 1), .ref 1000001, .ref 0], M)) rfl ?_
  refine wp_scr (j := 1) (i := i) hc rfl hR (by omega) hL (by decide) ?_
  refine wp_cv (As := [.int (xs (i + 1))]) (b := 0) (r := []) hc rfl (by rw [cm_121]; rfl) rfl (Nat.le_of_ble_eq_true rfl) hR.2.2.2.1 (by rw [cm_121]; exact hR.2.2.1) h1 ?_
  show mm_wp E 289 (1497, [some (.ref 1000001), some (.ref 0), some (.ref 598), some (.int (nI i))], [.int r], M1) Q
  refine wp_go hc 5 (z' := (1502, [some (.ref 1000001), some (.ref 0), some (.ref 598), some (.int (nI i))], [.int (nI i + 1), .ref 1000001, .ref 598, .int r], M1)) rfl ?_
  refine wp_scr (j := 1) (i := i) hc rfl hR1 (by omega) hL (by decide) ?_
  refine wp_cv (As := [.int (xs (i + 1))]) (b := 598) (r := [.int r]) hc rfl (by rw [cm_284]; rfl) rfl (Nat.le_of_ble_eq_true rfl) hR1.2.2.2.2.2 (by rw [cm_284]; exact hR1.2.2.2.2.1) h2 ?_
  show mm_wp E 289 (1506, [some (.ref 1000001), some (.ref 0), some (.ref 598), some (.int (nI i))], [.int r, .int r], M2) Q
  refine wp_go hc 1 (z' := if r = r then (1560, [some (.ref 1000001), some (.ref 0), some (.ref 598), some (.int (nI i))], [], M2) else (1509, [some (.ref 1000001), some (.ref 0), some (.ref 598), some (.int (nI i))], [], M2)) rfl ?_
  rw [if_pos rfl]
  exact kk
set_option maxRecDepth 100000 in
theorem lw_c37 {E : mm_EV} {L : Nat} {xs : Nat → Int32} {i : Nat} {M M2 : mm_M} {Q : mm_Rs → Prop} (hR : lw_R L xs M) (hi : i + 6 ≤ L) (hL : L ≤ 3072) (h : lw_ok E L xs 122 285 [] M M2)
    (kk : mm_wp E 289 (1560, [some (.ref 1000001), some (.ref 0), some (.ref 598), some (.int (nI i))], [], M2) Q) : mm_wp E 289 (1511, [some (.ref 1000001), some (.ref 0), some (.ref 598), some (.int (nI i))], [], M) Q := by
  have hc : (mm_CM 289).2.2.2.2.2.2.2 = mm_cf cd_289 := by rw [cm_289]; rfl
  obtain ⟨r, M1, h1, hR1, h2, hR2⟩ := h
  refine wp_go hc 1 (z' := (1512, [some (.ref 1000001), some (.ref 0), some (.ref 598), some (.int (nI i))], [.ref 0], M)) rfl ?_
  refine wp_cv (As := []) (b := 0) (r := []) hc rfl (by rw [cm_122]; rfl) rfl (Nat.le_of_ble_eq_true rfl) hR.2.2.2.1 (by rw [cm_122]; exact hR.2.2.1) h1 ?_
  show mm_wp E 289 (1515, [some (.ref 1000001), some (.ref 0), some (.ref 598), some (.int (nI i))], [.int r], M1) Q
  refine wp_go hc 1 (z' := (1516, [some (.ref 1000001), some (.ref 0), some (.ref 598), some (.int (nI i))], [.ref 598, .int r], M1)) rfl ?_
  refine wp_cv (As := []) (b := 598) (r := [.int r]) hc rfl (by rw [cm_285]; rfl) rfl (Nat.le_of_ble_eq_true rfl) hR1.2.2.2.2.2 (by rw [cm_285]; exact hR1.2.2.2.2.1) h2 ?_
  show mm_wp E 289 (1519, [some (.ref 1000001), some (.ref 0), some (.ref 598), some (.int (nI i))], [.int r, .int r], M2) Q
  refine wp_go hc 1 (z' := if r = r then (1560, [some (.ref 1000001), some (.ref 0), some (.ref 598), some (.int (nI i))], [], M2) else (1522, [some (.ref 1000001), some (.ref 0), some (.ref 598), some (.int (nI i))], [], M2)) rfl ?_
  rw [if_pos rfl]
  exact kk
set_option maxRecDepth 100000 in
theorem lw_c38 {E : mm_EV} {L : Nat} {xs : Nat → Int32} {i : Nat} {M M2 : mm_M} {Q : mm_Rs → Prop} (hR : lw_R L xs M) (hi : i + 6 ≤ L) (hL : L ≤ 3072) (h : lw_ok E L xs 123 286 [] M M2)
    (kk : mm_wp E 289 (1560, [some (.ref 1000001), some (.ref 0), some (.ref 598), some (.int (nI i))], [], M2) Q) : mm_wp E 289 (1524, [some (.ref 1000001), some (.ref 0), some (.ref 598), some (.int (nI i))], [], M) Q := by
  have hc : (mm_CM 289).2.2.2.2.2.2.2 = mm_cf cd_289 := by rw [cm_289]; rfl
  obtain ⟨r, M1, h1, hR1, h2, hR2⟩ := h
  refine wp_go hc 1 (z' := (1525, [some (.ref 1000001), some (.ref 0), some (.ref 598), some (.int (nI i))], [.ref 0], M)) rfl ?_
  refine wp_cv (As := []) (b := 0) (r := []) hc rfl (by rw [cm_123]; rfl) rfl (Nat.le_of_ble_eq_true rfl) hR.2.2.2.1 (by rw [cm_123]; exact hR.2.2.1) h1 ?_
  show mm_wp E 289 (1528, [some (.ref 1000001), some (.ref 0), some (.ref 598), some (.int (nI i))], [.int r], M1) Q
  refine wp_go hc 1 (z' := (1529, [some (.ref 1000001), some (.ref 0), some (.ref 598), some (.int (nI i))], [.ref 598, .int r], M1)) rfl ?_
  refine wp_cv (As := []) (b := 598) (r := [.int r]) hc rfl (by rw [cm_286]; rfl) rfl (Nat.le_of_ble_eq_true rfl) hR1.2.2.2.2.2 (by rw [cm_286]; exact hR1.2.2.2.2.1) h2 ?_
  show mm_wp E 289 (1532, [some (.ref 1000001), some (.ref 0), some (.ref 598), some (.int (nI i))], [.int r, .int r], M2) Q
  refine wp_go hc 1 (z' := if r = r then (1560, [some (.ref 1000001), some (.ref 0), some (.ref 598), some (.int (nI i))], [], M2) else (1535, [some (.ref 1000001), some (.ref 0), some (.ref 598), some (.int (nI i))], [], M2)) rfl ?_
  rw [if_pos rfl]
  exact kk
set_option maxRecDepth 100000 in
theorem lw_c39 {E : mm_EV} {L : Nat} {xs : Nat → Int32} {i : Nat} {M M2 : mm_M} {Q : mm_Rs → Prop} (hR : lw_R L xs M) (hi : i + 6 ≤ L) (hL : L ≤ 3072) (h : lw_ok E L xs 124 287 [.int (xs (i + 1))] M M2)
    (kk : mm_wp E 289 (1560, [some (.ref 1000001), some (.ref 0), some (.ref 598), some (.int (nI i))], [], M2) Q) : mm_wp E 289 (1537, [some (.ref 1000001), some (.ref 0), some (.ref 598), some (.int (nI i))], [], M) Q := by
  have hc : (mm_CM 289).2.2.2.2.2.2.2 = mm_cf cd_289 := by rw [cm_289]; rfl
  obtain ⟨r, M1, h1, hR1, h2, hR2⟩ := h
  refine wp_go hc 5 (z' := (1542, [some (.ref 1000001), some (.ref 0), some (.ref 598), some (.int (nI i))], [.int (nI i + 1), .ref 1000001, .ref 0], M)) rfl ?_
  refine wp_scr (j := 1) (i := i) hc rfl hR (by omega) hL (by decide) ?_
  refine wp_cv (As := [.int (xs (i + 1))]) (b := 0) (r := []) hc rfl (by rw [cm_124]; rfl) rfl (Nat.le_of_ble_eq_true rfl) hR.2.2.2.1 (by rw [cm_124]; exact hR.2.2.1) h1 ?_
  show mm_wp E 289 (1546, [some (.ref 1000001), some (.ref 0), some (.ref 598), some (.int (nI i))], [.int r], M1) Q
  refine wp_go hc 5 (z' := (1551, [some (.ref 1000001), some (.ref 0), some (.ref 598), some (.int (nI i))], [.int (nI i + 1), .ref 1000001, .ref 598, .int r], M1)) rfl ?_
  refine wp_scr (j := 1) (i := i) hc rfl hR1 (by omega) hL (by decide) ?_
  refine wp_cv (As := [.int (xs (i + 1))]) (b := 598) (r := [.int r]) hc rfl (by rw [cm_287]; rfl) rfl (Nat.le_of_ble_eq_true rfl) hR1.2.2.2.2.2 (by rw [cm_287]; exact hR1.2.2.2.2.1) h2 ?_
  show mm_wp E 289 (1555, [some (.ref 1000001), some (.ref 0), some (.ref 598), some (.int (nI i))], [.int r, .int r], M2) Q
  refine wp_go hc 1 (z' := if r = r then (1560, [some (.ref 1000001), some (.ref 0), some (.ref 598), some (.int (nI i))], [], M2) else (1558, [some (.ref 1000001), some (.ref 0), some (.ref 598), some (.int (nI i))], [], M2)) rfl ?_
  rw [if_pos rfl]
  exact kk
