/-! A scene's constructor. -/
theorem wp_gf {E : mm_EV} {me pc : Nat} {cd : Nat → Option mm_In} {Lc : List (Option Value)} {r : List Value} {Q : mm_Rs → Prop} {M : mm_M} {a ci k N idx : Nat} {tm : List Nat} {v : Value} (hc : (mm_CM me).2.2.2.2.2.2.2 = cd) (hi : cd pc = some (.getfield idx, 3, ci, k)) (h : M.1 a = (ci, N, tm)) (ha : a < M.2.1.1) (hk : k < N) (hv : mm_sv M a k (tm.getD k 0) = v) (kk : mm_wp E me (pc + 3, Lc, v :: r, M) Q) : mm_wp E me (pc, Lc, .ref a :: r, M) Q := by
  refine wp_st (stp_of hc hi ?_) kk
  show mm_exe (.getfield idx) 3 ci k pc Lc (.ref a :: r) M = _
  unfold mm_exe
  dsimp only
  have hf : mm_fld M a ci k = some v := by
    unfold mm_fld
    rw [h, if_pos ⟨rfl, ha, hk⟩, hv]
  rw [hf]
set_option maxHeartbeats 1000000 in
theorem sp_66 {d L : Nat} {xs : Nat → Int32} {o : List (Nat × mm_Kd)} {og : List (Nat × (Nat → Int32))} {b sl : Nat} (hb : b + 20 < 1000000)
    (hs0 : mm_SH L 584 b = (5, 8, [b + 4, b + 8, b + 9, b + 10, 0, 0, 0, 0])) (hs1 : mm_SH L 584 (b + 1) = (103, 3, [b + 5, b + 6, b + 7])) (hs2 : ∀ j, j < 3 → mm_SH L 584 (b + 2 + j) = (100, 10, [])) (hs5 : mm_SH L 584 (b + 5) = (100, 3, [])) (hs6 : mm_SH L 584 (b + 6) = (100, 10, [])) (hs7 : mm_SH L 584 (b + 7) = (100, 60, []))
    (hg0 : mm_G0 b = fun k => if k = 7 then 31 else 0) (hg1 : ∀ j, j < 4 → mm_G0 (b + 1 + j) = fun _ => 0) (hg5 : mm_G0 (b + 5) = fun _ => 0) (hg6 : mm_G0 (b + 6) = fun k => if k < 10 then 3 else 0) (hg7 : mm_G0 (b + 7) = fun _ => 0) (ho : ∀ q ∈ o, q.1 < b) (hog : ∀ q ∈ og, q.1 < b) :
    mm_Ev mm_ct mm_CM (d + 1) 66 [.ref b] (zz L xs ((b, (5, 8, [2, 2, 2, 2, 0, 0, 0, 0])) :: o) ((b, fun _ => 0) :: og) (b + 1) sl) (none, zz L xs o og (b + 8) (sl + 106)) := by
  have hc : (mm_CM 66).2.2.2.2.2.2.2 = mm_cf cd_66 := by rw [cm_66]; rfl
  refine ev_of (mx := 2) (by rw [cm_66]; decide) (by rw [cm_66]; rfl) (by show 1 ≤ _; decide) ?_
  show mm_wp _ _ (0, [some (.ref b), none], [], zz L xs ((b, (5, 8, [2, 2, 2, 2, 0, 0, 0, 0])) :: o) ((b, fun _ => 0) :: og) (b + 1) sl) _
  refine wp_go hc 1 (z' := (1, [some (.ref b), none], [.ref b], zz L xs ((b, (5, 8, [2, 2, 2, 2, 0, 0, 0, 0])) :: o) ((b, fun _ => 0) :: og) (b + 1) sl)) rfl ?_
  refine wp_oi hc rfl (Nat.le_of_ble_eq_true rfl) ?_
  refine wp_go hc 3 (z' := (8, [some (.ref b), none], [.int 10, .int 3, .ref b], zz L xs ((b, (5, 8, [2, 2, 2, 2, 0, 0, 0, 0])) :: o) ((b, fun _ => 0) :: og) (b + 1) sl)) rfl ?_
  refine wq_mn (N := 3) (K := 10) hc rfl rfl rfl (by decide) (by omega) (by rw [hs1]; rfl) (fun j hj => hs2 j hj) (fun j hj => hg1 j hj) (fun j hj => lk_c (by omega) (lk_none ho (by omega))) (fun j hj => lk_c (by omega) (lk_none hog (by omega))) ?_
  show mm_wp _ _ (12, [some (.ref b), none], [.ref (b + 1), .ref b], zz L xs ((b, (5, 8, [2, 2, 2, 2, 0, 0, 0, 0])) :: o) ((b, fun _ => 0) :: og) (b + 5) (sl + 33)) _
  refine wz_pr hc rfl (by omega) (by decide) (Nat.le_of_ble_eq_true rfl) (Nat.le_of_ble_eq_true rfl) ⟨rfl, rfl⟩ (fun _ => decide_eq_true (by rw [cm_66]; rfl)) ?_
  refine wp_go hc 2 (z' := (17, [some (.ref b), none], [.int 3, .ref b], zz L xs ((b, (5, 8, [b + 4, 2, 2, 2, 0, 0, 0, 0])) :: o) ((b, fun _ => 0) :: og) (b + 5) (sl + 33))) rfl ?_
  refine wz_nwa (len := 3) hc rfl rfl (by decide) (by omega) (by decide) hs5 hg5 (lk_c (by omega) (lk_none ho (by omega))) (lk_c (by omega) (lk_none hog (by omega))) ?_
  show mm_wp _ _ (19, [some (.ref b), none], [.ref (b + 5), .ref b], zz L xs ((b, (5, 8, [b + 4, 2, 2, 2, 0, 0, 0, 0])) :: o) ((b, fun _ => 0) :: og) (b + 6) (sl + 36)) _
  refine wz_pr hc rfl (by omega) (by decide) (Nat.le_of_ble_eq_true rfl) (Nat.le_of_ble_eq_true rfl) ⟨rfl, rfl⟩ (fun _ => decide_eq_true (by rw [cm_66]; rfl)) ?_
  refine wp_go hc 2 (z' := (25, [some (.ref b), none], [.int 10, .ref b], zz L xs ((b, (5, 8, [b + 4, b + 8, 2, 2, 0, 0, 0, 0])) :: o) ((b, fun _ => 0) :: og) (b + 6) (sl + 36))) rfl ?_
  refine wz_nwb (len := 10) hc rfl rfl (by decide) (by omega) (by decide) hs6 (lk_c (by omega) (lk_none ho (by omega))) ?_
  show mm_wp _ _ (27, [some (.ref b), none], [.ref (b + 6), .ref b], zz L xs ((b, (5, 8, [b + 4, b + 8, 2, 2, 0, 0, 0, 0])) :: o) ((b + 6, fun _ => 0) :: (b, fun _ => 0) :: og) (b + 7) (sl + 46)) _
  refine wz_pr hc rfl (by omega) (by decide) (Nat.le_of_ble_eq_true rfl) (Nat.le_of_ble_eq_true rfl) ⟨rfl, rfl⟩ (fun _ => decide_eq_true (by rw [cm_66]; rfl)) ?_
  refine wp_go hc 2 (z' := (33, [some (.ref b), none], [.int 60, .ref b], zz L xs ((b, (5, 8, [b + 4, b + 8, b + 9, 2, 0, 0, 0, 0])) :: o) ((b + 6, fun _ => 0) :: (b, fun _ => 0) :: og) (b + 7) (sl + 46))) rfl ?_
  refine wz_nwa (len := 60) hc rfl rfl (by decide) (by omega) (by decide) hs7 hg7 (lk_c (by omega) (lk_none ho (by omega))) (lk_c (by omega) (lk_c (by omega) (lk_none hog (by omega)))) ?_
  show mm_wp _ _ (35, [some (.ref b), none], [.ref (b + 7), .ref b], zz L xs ((b, (5, 8, [b + 4, b + 8, b + 9, 2, 0, 0, 0, 0])) :: o) ((b + 6, fun _ => 0) :: (b, fun _ => 0) :: og) (b + 8) (sl + 106)) _
  refine wz_pr hc rfl (by omega) (by decide) (Nat.le_of_ble_eq_true rfl) (Nat.le_of_ble_eq_true rfl) ⟨rfl, rfl⟩ (fun _ => decide_eq_true (by rw [cm_66]; rfl)) ?_
  refine wp_go hc 2 (z' := (41, [some (.ref b), none], [.int 31, .ref b], zz L xs ((b, (5, 8, [b + 4, b + 8, b + 9, b + 10, 0, 0, 0, 0])) :: o) ((b + 6, fun _ => 0) :: (b, fun _ => 0) :: og) (b + 8) (sl + 106))) rfl ?_
  refine wq_pi [] [(b + 6, fun _ => 0)] hc rfl rfl (lk_c (by omega) rfl) (by omega) (by decide) (Nat.le_of_ble_eq_true rfl) rfl ⟨rfl, rfl⟩ (fun _ => decide_eq_true (by rw [cm_66]; rfl)) ?_
  refine wp_go hc 2 (z' := (46, [some (.ref b), some (.int (nI 0))], [], zz L xs ((b, (5, 8, [b + 4, b + 8, b + 9, b + 10, 0, 0, 0, 0])) :: o) ((b + 6, fun _ => 0) :: (b, fun j => if j = 7 then 31 else (fun _ => 0) j) :: og) (b + 8) (sl + 106))) rfl ?_
  have hloop : ∀ (m i : Nat), i + m = 10 → mm_wp (mm_Ev mm_ct mm_CM d) 66 (46, [some (.ref b), some (.int (nI i))], [], zz L xs ((b, (5, 8, [b + 4, b + 8, b + 9, b + 10, 0, 0, 0, 0])) :: o) ((b + 6, fun j => if j < i then 3 else 0) :: (b, fun j => if j = 7 then 31 else (fun _ => 0) j) :: og) (b + 8) (sl + 106)) (fun r => r = (none, zz L xs o og (b + 8) (sl + 106))) := by
    intro m
    induction m with
    | zero =>
      intro i hi
      have hi : i = 10 := by omega
      subst hi
      refine wp_go hc 3 (z' := if (10 : Int32) ≤ nI 10 then (65, [some (.ref b), some (.int (nI 10))], [], zz L xs ((b, (5, 8, [b + 4, b + 8, b + 9, b + 10, 0, 0, 0, 0])) :: o) ((b + 6, fun j => if j < 10 then 3 else 0) :: (b, fun j => if j = 7 then 31 else (fun _ => 0) j) :: og) (b + 8) (sl + 106)) else (52, [some (.ref b), some (.int (nI 10))], [], zz L xs ((b, (5, 8, [b + 4, b + 8, b + 9, b + 10, 0, 0, 0, 0])) :: o) ((b + 6, fun j => if j < 10 then 3 else 0) :: (b, fun j => if j = 7 then 31 else (fun _ => 0) j) :: og) (b + 8) (sl + 106))) rfl ?_
      rw [if_pos (by decide)]
      refine wp_rt (res := (none, zz L xs ((b, (5, 8, [b + 4, b + 8, b + 9, b + 10, 0, 0, 0, 0])) :: o) ((b + 6, fun j => if j < 10 then 3 else 0) :: (b, fun j => if j = 7 then 31 else (fun _ => 0) j) :: og) (b + 8) (sl + 106))) ⟨.return_, 1, 0, 0, by rw [hc]; rfl, rfl, rfl, rfl, by rw [cm_66]; rfl⟩ ?_
      rw [zz, zz_s_dn hs0 (by omega) (lk_none ho (by omega)), zz_g_dn hg6 (by omega) (lk_c (by omega) (lk_none hog (by omega))), zz_g_dn hg0 (by omega) (lk_none hog (by omega))]
    | succ m ih =>
      intro i hi
      refine wp_go hc 3 (z' := if (10 : Int32) ≤ nI i then (65, [some (.ref b), some (.int (nI i))], [], zz L xs ((b, (5, 8, [b + 4, b + 8, b + 9, b + 10, 0, 0, 0, 0])) :: o) ((b + 6, fun j => if j < i then 3 else 0) :: (b, fun j => if j = 7 then 31 else (fun _ => 0) j) :: og) (b + 8) (sl + 106)) else (52, [some (.ref b), some (.int (nI i))], [], zz L xs ((b, (5, 8, [b + 4, b + 8, b + 9, b + 10, 0, 0, 0, 0])) :: o) ((b + 6, fun j => if j < i then 3 else 0) :: (b, fun j => if j = 7 then 31 else (fun _ => 0) j) :: og) (b + 8) (sl + 106))) rfl ?_
      have h10 : ¬ (10 : Int32) ≤ nI i := nI_ge (a := i) (b := 10) (by omega) (by decide)
      rw [if_neg h10]
      refine wp_go hc 1 (z' := (53, [some (.ref b), some (.int (nI i))], [.ref b], zz L xs ((b, (5, 8, [b + 4, b + 8, b + 9, b + 10, 0, 0, 0, 0])) :: o) ((b + 6, fun j => if j < i then 3 else 0) :: (b, fun j => if j = 7 then 31 else (fun _ => 0) j) :: og) (b + 8) (sl + 106))) rfl ?_
      refine wp_gf hc rfl zz_s_hd (by show b < b + 8; omega) (by decide) (v := .ref (b + 6)) rfl ?_
      refine wp_go hc 2 (z' := (58, [some (.ref b), some (.int (nI i))], [.int 3, .int (nI i), .ref (b + 6)], zz L xs ((b, (5, 8, [b + 4, b + 8, b + 9, b + 10, 0, 0, 0, 0])) :: o) ((b + 6, fun j => if j < i then 3 else 0) :: (b, fun j => if j = 7 then 31 else (fun _ => 0) j) :: og) (b + 8) (sl + 106))) rfl ?_
      refine wq_is (i := i) (len := 10) [] hc rfl rfl (by omega) (by rw [zz_s_tl (by omega), zz_s_lt (lk_none ho (by omega)) (by omega), hs6]) rfl (by omega) (by decide) ?_
      refine wp_go hc 2 (z' := (46, [some (.ref b), some (.int (nI i + 1))], [], zz L xs ((b, (5, 8, [b + 4, b + 8, b + 9, b + 10, 0, 0, 0, 0])) :: o) ((b + 6, fun j => if j = i then 3 else (fun j => if j < i then 3 else 0) j) :: (b, fun j => if j = 7 then 31 else (fun _ => 0) j) :: og) (b + 8) (sl + 106))) rfl ?_
      have e : (fun j => if j = i then (3 : Int32) else (fun j => if j < i then 3 else 0) j) = fun j => if j < i + 1 then 3 else 0 := by
        funext j
        by_cases h1 : j = i
        · subst h1; simp
        · have h2 : j < i + 1 ↔ j < i := by omega
          simp [h1, h2]
      rw [e, ← nI_succ]
      exact ih (i + 1) (by omega)
  have e0 : (fun _ => (0 : Int32)) = fun (j : Nat) => if j < 0 then (3 : Int32) else 0 := by
    funext j
    simp
  have := hloop 10 0 rfl
  rw [← e0] at this
  exact this
