/-! The constructors without loops. -/
theorem lk_none {α : Type} {l : List (Nat × α)} {b a : Nat} (h : ∀ q ∈ l, q.1 < b) (ha : b ≤ a) : mm_lk l a = none := by
  induction l with
  | nil => rfl
  | cons q l ih =>
    have h1 := h q List.mem_cons_self
    rw [mm_lk, if_neg (by omega)]
    exact ih (fun q hq => h q (List.mem_cons_of_mem _ hq))
theorem lk_c {α : Type} {l : List (Nat × α)} {b a : Nat} {v : α} (h : a ≠ b) (ho : mm_lk l a = none) : mm_lk ((b, v) :: l) a = none := by
  rw [mm_lk, if_neg h]
  exact ho
theorem lt_c {α : Type} {l : List (Nat × α)} {b c : Nat} {v : α} (h : c < b) (ho : ∀ q ∈ l, q.1 < b) : ∀ q ∈ ((c, v) :: l), q.1 < b := List.forall_mem_cons.mpr ⟨h, ho⟩
theorem lt_m {α : Type} {l : List (Nat × α)} {b c : Nat} (h : b ≤ c) (ho : ∀ q ∈ l, q.1 < b) : ∀ q ∈ l, q.1 < c := fun q hq => Nat.lt_of_lt_of_le (ho q hq) h
set_option maxHeartbeats 1000000 in
theorem sp_77 {d L : Nat} {xs : Nat → Int32} {o : List (Nat × mm_Kd)} {og : List (Nat × (Nat → Int32))} {b sl : Nat} (hb : b + 11 < 1000000) (hs0 : mm_SH L 584 (b) = (6, 8, [b + 4, b + 5, b + 6, b + 7, b + 8, 0, 0, 0])) (hs1 : mm_SH L 584 (b + 1) = (100, 24, [])) (hs2 : mm_SH L 584 (b + 2) = (100, 72, [])) (hs3 : mm_SH L 584 (b + 3) = (100, 300, [])) (hs4 : mm_SH L 584 (b + 4) = (100, 8, [])) (hs5 : mm_SH L 584 (b + 5) = (100, 8, [])) (hg0 : mm_G0 (b) = fun _ => 0) (hg1 : mm_G0 (b + 1) = fun _ => 0) (hg2 : mm_G0 (b + 2) = fun _ => 0) (hg3 : mm_G0 (b + 3) = fun _ => 0) (hg4 : mm_G0 (b + 4) = fun _ => 0) (hg5 : mm_G0 (b + 5) = fun _ => 0) (ho : ∀ q ∈ o, q.1 < b) (hog : ∀ q ∈ og, q.1 < b) :
    mm_Ev mm_ct mm_CM (d + 1) 77 [.ref b] (zz L xs ((b, (6, 8, [2, 2, 2, 2, 2, 0, 0, 0])) :: o) ((b, fun _ => 0) :: og) (b + 1) sl) (none, zz L xs o og (b + 6) (sl + 412)) := by
  have hc : (mm_CM 77).2.2.2.2.2.2.2 = mm_cf cd_77 := by rw [cm_77]; rfl
  refine ev_of (mx := 1) (by rw [cm_77]; decide) (by rw [cm_77]; rfl) (by show 1 ≤ _; decide) ?_
  show mm_wp _ _ (0, [some (.ref b)], [], zz L xs ((b, (6, 8, [2, 2, 2, 2, 2, 0, 0, 0])) :: o) ((b, fun _ => 0) :: og) (b + 1) sl) _
  refine wp_go hc 1 (z' := (1, [some (.ref b)], [.ref b], zz L xs ((b, (6, 8, [2, 2, 2, 2, 2, 0, 0, 0])) :: o) ((b, fun _ => 0) :: og) (b + 1) (sl))) rfl ?_
  refine wp_oi hc rfl (Nat.le_of_ble_eq_true rfl) ?_
  refine wp_go hc 2 (z' := (7, [some (.ref b)], [.int 24, .ref b], zz L xs ((b, (6, 8, [2, 2, 2, 2, 2, 0, 0, 0])) :: o) ((b, fun _ => 0) :: og) (b + 1) (sl))) rfl ?_
  refine wz_nwa (len := 24) hc rfl rfl (by decide) (by omega) (by decide) hs1 hg1 (lk_c (by omega) (lk_none ho (by omega))) (lk_c (by omega) (lk_none hog (by omega))) ?_
  show mm_wp _ _ (9, [some (.ref b)], [.ref (b + 1), .ref b], zz L xs ((b, (6, 8, [2, 2, 2, 2, 2, 0, 0, 0])) :: o) ((b, fun _ => 0) :: og) (b + 2) (sl + 24)) _
  refine wz_pr hc rfl (by omega) (by decide) (Nat.le_of_ble_eq_true rfl) (Nat.le_of_ble_eq_true rfl) ⟨rfl, rfl⟩ (fun _ => decide_eq_true (by rw [cm_77]; rfl)) ?_
  show mm_wp _ _ (12, [some (.ref b)], [], zz L xs ((b, (6, 8, [b + 4, 2, 2, 2, 2, 0, 0, 0])) :: o) ((b, fun _ => 0) :: og) (b + 2) (sl + 24)) _
  refine wp_go hc 2 (z' := (15, [some (.ref b)], [.int 72, .ref b], zz L xs ((b, (6, 8, [b + 4, 2, 2, 2, 2, 0, 0, 0])) :: o) ((b, fun _ => 0) :: og) (b + 2) (sl + 24))) rfl ?_
  refine wz_nwa (len := 72) hc rfl rfl (by decide) (by omega) (by decide) hs2 hg2 (lk_c (by omega) (lk_none ho (by omega))) (lk_c (by omega) (lk_none hog (by omega))) ?_
  show mm_wp _ _ (17, [some (.ref b)], [.ref (b + 2), .ref b], zz L xs ((b, (6, 8, [b + 4, 2, 2, 2, 2, 0, 0, 0])) :: o) ((b, fun _ => 0) :: og) (b + 3) (sl + 96)) _
  refine wz_pr hc rfl (by omega) (by decide) (Nat.le_of_ble_eq_true rfl) (Nat.le_of_ble_eq_true rfl) ⟨rfl, rfl⟩ (fun _ => decide_eq_true (by rw [cm_77]; rfl)) ?_
  show mm_wp _ _ (20, [some (.ref b)], [], zz L xs ((b, (6, 8, [b + 4, b + 5, 2, 2, 2, 0, 0, 0])) :: o) ((b, fun _ => 0) :: og) (b + 3) (sl + 96)) _
  refine wp_go hc 2 (z' := (24, [some (.ref b)], [.int 300, .ref b], zz L xs ((b, (6, 8, [b + 4, b + 5, 2, 2, 2, 0, 0, 0])) :: o) ((b, fun _ => 0) :: og) (b + 3) (sl + 96))) rfl ?_
  refine wz_nwa (len := 300) hc rfl rfl (by decide) (by omega) (by decide) hs3 hg3 (lk_c (by omega) (lk_none ho (by omega))) (lk_c (by omega) (lk_none hog (by omega))) ?_
  show mm_wp _ _ (26, [some (.ref b)], [.ref (b + 3), .ref b], zz L xs ((b, (6, 8, [b + 4, b + 5, 2, 2, 2, 0, 0, 0])) :: o) ((b, fun _ => 0) :: og) (b + 4) (sl + 396)) _
  refine wz_pr hc rfl (by omega) (by decide) (Nat.le_of_ble_eq_true rfl) (Nat.le_of_ble_eq_true rfl) ⟨rfl, rfl⟩ (fun _ => decide_eq_true (by rw [cm_77]; rfl)) ?_
  show mm_wp _ _ (29, [some (.ref b)], [], zz L xs ((b, (6, 8, [b + 4, b + 5, b + 6, 2, 2, 0, 0, 0])) :: o) ((b, fun _ => 0) :: og) (b + 4) (sl + 396)) _
  refine wp_go hc 2 (z' := (32, [some (.ref b)], [.int 8, .ref b], zz L xs ((b, (6, 8, [b + 4, b + 5, b + 6, 2, 2, 0, 0, 0])) :: o) ((b, fun _ => 0) :: og) (b + 4) (sl + 396))) rfl ?_
  refine wz_nwa (len := 8) hc rfl rfl (by decide) (by omega) (by decide) hs4 hg4 (lk_c (by omega) (lk_none ho (by omega))) (lk_c (by omega) (lk_none hog (by omega))) ?_
  show mm_wp _ _ (34, [some (.ref b)], [.ref (b + 4), .ref b], zz L xs ((b, (6, 8, [b + 4, b + 5, b + 6, 2, 2, 0, 0, 0])) :: o) ((b, fun _ => 0) :: og) (b + 5) (sl + 404)) _
  refine wz_pr hc rfl (by omega) (by decide) (Nat.le_of_ble_eq_true rfl) (Nat.le_of_ble_eq_true rfl) ⟨rfl, rfl⟩ (fun _ => decide_eq_true (by rw [cm_77]; rfl)) ?_
  show mm_wp _ _ (37, [some (.ref b)], [], zz L xs ((b, (6, 8, [b + 4, b + 5, b + 6, b + 7, 2, 0, 0, 0])) :: o) ((b, fun _ => 0) :: og) (b + 5) (sl + 404)) _
  refine wp_go hc 2 (z' := (40, [some (.ref b)], [.int 8, .ref b], zz L xs ((b, (6, 8, [b + 4, b + 5, b + 6, b + 7, 2, 0, 0, 0])) :: o) ((b, fun _ => 0) :: og) (b + 5) (sl + 404))) rfl ?_
  refine wz_nwa (len := 8) hc rfl rfl (by decide) (by omega) (by decide) hs5 hg5 (lk_c (by omega) (lk_none ho (by omega))) (lk_c (by omega) (lk_none hog (by omega))) ?_
  show mm_wp _ _ (42, [some (.ref b)], [.ref (b + 5), .ref b], zz L xs ((b, (6, 8, [b + 4, b + 5, b + 6, b + 7, 2, 0, 0, 0])) :: o) ((b, fun _ => 0) :: og) (b + 6) (sl + 412)) _
  refine wz_pr hc rfl (by omega) (by decide) (Nat.le_of_ble_eq_true rfl) (Nat.le_of_ble_eq_true rfl) ⟨rfl, rfl⟩ (fun _ => decide_eq_true (by rw [cm_77]; rfl)) ?_
  show mm_wp _ _ (45, [some (.ref b)], [], zz L xs ((b, (6, 8, [b + 4, b + 5, b + 6, b + 7, b + 8, 0, 0, 0])) :: o) ((b, fun _ => 0) :: og) (b + 6) (sl + 412)) _
  refine wp_rt (res := (none, zz L xs ((b, (6, 8, [b + 4, b + 5, b + 6, b + 7, b + 8, 0, 0, 0])) :: o) ((b, fun _ => 0) :: og) (b + 6) (sl + 412))) ⟨.return_, 1, 0, 0, by rw [hc]; rfl, rfl, rfl, rfl, by rw [cm_77]; rfl⟩ ?_
  have e2 : mm_G0 b = fun _ => 0 := by
    rw [hg0]
  rw [zz, zz_s_dn hs0 (by omega) (lk_none ho (by omega)), zz_g_dn e2 (by omega) (lk_none hog (by omega))]
set_option maxHeartbeats 1000000 in
theorem sp_0 {d L : Nat} {xs : Nat → Int32} {o : List (Nat × mm_Kd)} {og : List (Nat × (Nat → Int32))} {b sl : Nat} (hb : b + 8 < 1000000) (hs0 : mm_SH L 584 (b) = (0, 2, [b + 4, b + 5])) (hs1 : mm_SH L 584 (b + 1) = (100, 15, [])) (hs2 : mm_SH L 584 (b + 2) = (100, 64, [])) (hg0 : mm_G0 (b) = fun _ => 0) (hg1 : mm_G0 (b + 1) = fun _ => 0) (hg2 : mm_G0 (b + 2) = fun _ => 0) (ho : ∀ q ∈ o, q.1 < b) (hog : ∀ q ∈ og, q.1 < b) :
    mm_Ev mm_ct mm_CM (d + 1) 0 [.ref b] (zz L xs ((b, (0, 2, [2, 2])) :: o) ((b, fun _ => 0) :: og) (b + 1) sl) (none, zz L xs o og (b + 3) (sl + 79)) := by
  have hc : (mm_CM 0).2.2.2.2.2.2.2 = mm_cf cd_0 := by rw [cm_0]; rfl
  refine ev_of (mx := 1) (by rw [cm_0]; decide) (by rw [cm_0]; rfl) (by show 1 ≤ _; decide) ?_
  show mm_wp _ _ (0, [some (.ref b)], [], zz L xs ((b, (0, 2, [2, 2])) :: o) ((b, fun _ => 0) :: og) (b + 1) sl) _
  refine wp_go hc 1 (z' := (1, [some (.ref b)], [.ref b], zz L xs ((b, (0, 2, [2, 2])) :: o) ((b, fun _ => 0) :: og) (b + 1) (sl))) rfl ?_
  refine wp_oi hc rfl (Nat.le_of_ble_eq_true rfl) ?_
  refine wp_go hc 2 (z' := (7, [some (.ref b)], [.int 15, .ref b], zz L xs ((b, (0, 2, [2, 2])) :: o) ((b, fun _ => 0) :: og) (b + 1) (sl))) rfl ?_
  refine wz_nwa (len := 15) hc rfl rfl (by decide) (by omega) (by decide) hs1 hg1 (lk_c (by omega) (lk_none ho (by omega))) (lk_c (by omega) (lk_none hog (by omega))) ?_
  show mm_wp _ _ (9, [some (.ref b)], [.ref (b + 1), .ref b], zz L xs ((b, (0, 2, [2, 2])) :: o) ((b, fun _ => 0) :: og) (b + 2) (sl + 15)) _
  refine wz_pr hc rfl (by omega) (by decide) (Nat.le_of_ble_eq_true rfl) (Nat.le_of_ble_eq_true rfl) ⟨rfl, rfl⟩ (fun _ => decide_eq_true (by rw [cm_0]; rfl)) ?_
  show mm_wp _ _ (12, [some (.ref b)], [], zz L xs ((b, (0, 2, [b + 4, 2])) :: o) ((b, fun _ => 0) :: og) (b + 2) (sl + 15)) _
  refine wp_go hc 2 (z' := (15, [some (.ref b)], [.int 64, .ref b], zz L xs ((b, (0, 2, [b + 4, 2])) :: o) ((b, fun _ => 0) :: og) (b + 2) (sl + 15))) rfl ?_
  refine wz_nwa (len := 64) hc rfl rfl (by decide) (by omega) (by decide) hs2 hg2 (lk_c (by omega) (lk_none ho (by omega))) (lk_c (by omega) (lk_none hog (by omega))) ?_
  show mm_wp _ _ (17, [some (.ref b)], [.ref (b + 2), .ref b], zz L xs ((b, (0, 2, [b + 4, 2])) :: o) ((b, fun _ => 0) :: og) (b + 3) (sl + 79)) _
  refine wz_pr hc rfl (by omega) (by decide) (Nat.le_of_ble_eq_true rfl) (Nat.le_of_ble_eq_true rfl) ⟨rfl, rfl⟩ (fun _ => decide_eq_true (by rw [cm_0]; rfl)) ?_
  show mm_wp _ _ (20, [some (.ref b)], [], zz L xs ((b, (0, 2, [b + 4, b + 5])) :: o) ((b, fun _ => 0) :: og) (b + 3) (sl + 79)) _
  refine wp_rt (res := (none, zz L xs ((b, (0, 2, [b + 4, b + 5])) :: o) ((b, fun _ => 0) :: og) (b + 3) (sl + 79))) ⟨.return_, 1, 0, 0, by rw [hc]; rfl, rfl, rfl, rfl, by rw [cm_0]; rfl⟩ ?_
  have e2 : mm_G0 b = fun _ => 0 := by
    rw [hg0]
  rw [zz, zz_s_dn hs0 (by omega) (lk_none ho (by omega)), zz_g_dn e2 (by omega) (lk_none hog (by omega))]
set_option maxHeartbeats 1000000 in
theorem sp_15 {d L : Nat} {xs : Nat → Int32} {o : List (Nat × mm_Kd)} {og : List (Nat × (Nat → Int32))} {b sl : Nat} (hb : b + 9 < 1000000) (hs0 : mm_SH L 584 (b) = (2, 4, [b + 4, b + 5, b + 6, 1])) (hs1 : mm_SH L 584 (b + 1) = (100, 10, [])) (hs2 : mm_SH L 584 (b + 2) = (100, 10, [])) (hs3 : mm_SH L 584 (b + 3) = (101, 501, [])) (hg0 : mm_G0 (b) = fun _ => 0) (hg1 : mm_G0 (b + 1) = fun _ => 0) (hg2 : mm_G0 (b + 2) = fun _ => 0) (hg3 : mm_G0 (b + 3) = fun _ => 0) (ho : ∀ q ∈ o, q.1 < b) (hog : ∀ q ∈ og, q.1 < b) :
    mm_Ev mm_ct mm_CM (d + 1) 15 [.ref b] (zz L xs ((b, (2, 4, [2, 2, 2, 1])) :: o) ((b, fun _ => 0) :: og) (b + 1) sl) (none, zz L xs o og (b + 4) (sl + 521)) := by
  have hc : (mm_CM 15).2.2.2.2.2.2.2 = mm_cf cd_15 := by rw [cm_15]; rfl
  refine ev_of (mx := 1) (by rw [cm_15]; decide) (by rw [cm_15]; rfl) (by show 1 ≤ _; decide) ?_
  show mm_wp _ _ (0, [some (.ref b)], [], zz L xs ((b, (2, 4, [2, 2, 2, 1])) :: o) ((b, fun _ => 0) :: og) (b + 1) sl) _
  refine wp_go hc 1 (z' := (1, [some (.ref b)], [.ref b], zz L xs ((b, (2, 4, [2, 2, 2, 1])) :: o) ((b, fun _ => 0) :: og) (b + 1) (sl))) rfl ?_
  refine wp_oi hc rfl (Nat.le_of_ble_eq_true rfl) ?_
  refine wp_go hc 2 (z' := (7, [some (.ref b)], [.int 10, .ref b], zz L xs ((b, (2, 4, [2, 2, 2, 1])) :: o) ((b, fun _ => 0) :: og) (b + 1) (sl))) rfl ?_
  refine wz_nwa (len := 10) hc rfl rfl (by decide) (by omega) (by decide) hs1 hg1 (lk_c (by omega) (lk_none ho (by omega))) (lk_c (by omega) (lk_none hog (by omega))) ?_
  show mm_wp _ _ (9, [some (.ref b)], [.ref (b + 1), .ref b], zz L xs ((b, (2, 4, [2, 2, 2, 1])) :: o) ((b, fun _ => 0) :: og) (b + 2) (sl + 10)) _
  refine wz_pr hc rfl (by omega) (by decide) (Nat.le_of_ble_eq_true rfl) (Nat.le_of_ble_eq_true rfl) ⟨rfl, rfl⟩ (fun _ => decide_eq_true (by rw [cm_15]; rfl)) ?_
  show mm_wp _ _ (12, [some (.ref b)], [], zz L xs ((b, (2, 4, [b + 4, 2, 2, 1])) :: o) ((b, fun _ => 0) :: og) (b + 2) (sl + 10)) _
  refine wp_go hc 2 (z' := (15, [some (.ref b)], [.int 10, .ref b], zz L xs ((b, (2, 4, [b + 4, 2, 2, 1])) :: o) ((b, fun _ => 0) :: og) (b + 2) (sl + 10))) rfl ?_
  refine wz_nwa (len := 10) hc rfl rfl (by decide) (by omega) (by decide) hs2 hg2 (lk_c (by omega) (lk_none ho (by omega))) (lk_c (by omega) (lk_none hog (by omega))) ?_
  show mm_wp _ _ (17, [some (.ref b)], [.ref (b + 2), .ref b], zz L xs ((b, (2, 4, [b + 4, 2, 2, 1])) :: o) ((b, fun _ => 0) :: og) (b + 3) (sl + 20)) _
  refine wz_pr hc rfl (by omega) (by decide) (Nat.le_of_ble_eq_true rfl) (Nat.le_of_ble_eq_true rfl) ⟨rfl, rfl⟩ (fun _ => decide_eq_true (by rw [cm_15]; rfl)) ?_
  show mm_wp _ _ (20, [some (.ref b)], [], zz L xs ((b, (2, 4, [b + 4, b + 5, 2, 1])) :: o) ((b, fun _ => 0) :: og) (b + 3) (sl + 20)) _
  refine wp_go hc 2 (z' := (24, [some (.ref b)], [.int 501, .ref b], zz L xs ((b, (2, 4, [b + 4, b + 5, 2, 1])) :: o) ((b, fun _ => 0) :: og) (b + 3) (sl + 20))) rfl ?_
  refine wz_nwa (len := 501) hc rfl rfl (by decide) (by omega) (by decide) hs3 hg3 (lk_c (by omega) (lk_none ho (by omega))) (lk_c (by omega) (lk_none hog (by omega))) ?_
  show mm_wp _ _ (26, [some (.ref b)], [.ref (b + 3), .ref b], zz L xs ((b, (2, 4, [b + 4, b + 5, 2, 1])) :: o) ((b, fun _ => 0) :: og) (b + 4) (sl + 521)) _
  refine wz_pr hc rfl (by omega) (by decide) (Nat.le_of_ble_eq_true rfl) (Nat.le_of_ble_eq_true rfl) ⟨rfl, rfl⟩ (fun _ => decide_eq_true (by rw [cm_15]; rfl)) ?_
  show mm_wp _ _ (29, [some (.ref b)], [], zz L xs ((b, (2, 4, [b + 4, b + 5, b + 6, 1])) :: o) ((b, fun _ => 0) :: og) (b + 4) (sl + 521)) _
  refine wp_rt (res := (none, zz L xs ((b, (2, 4, [b + 4, b + 5, b + 6, 1])) :: o) ((b, fun _ => 0) :: og) (b + 4) (sl + 521))) ⟨.return_, 1, 0, 0, by rw [hc]; rfl, rfl, rfl, rfl, by rw [cm_15]; rfl⟩ ?_
  have e2 : mm_G0 b = fun _ => 0 := by
    rw [hg0]
  rw [zz, zz_s_dn hs0 (by omega) (lk_none ho (by omega)), zz_g_dn e2 (by omega) (lk_none hog (by omega))]
set_option maxHeartbeats 1000000 in
theorem sp_32 {d L : Nat} {xs : Nat → Int32} {o : List (Nat × mm_Kd)} {og : List (Nat × (Nat → Int32))} {b sl : Nat} (hb : b + 8 < 1000000) (hs0 : mm_SH L 584 (b) = (3, 5, [b + 4, b + 5, 0, 0, 0])) (hs1 : mm_SH L 584 (b + 1) = (100, 1440, [])) (hs2 : mm_SH L 584 (b + 2) = (100, 1440, [])) (hg0 : mm_G0 (b) = fun _ => 0) (hg1 : mm_G0 (b + 1) = fun _ => 0) (hg2 : mm_G0 (b + 2) = fun _ => 0) (ho : ∀ q ∈ o, q.1 < b) (hog : ∀ q ∈ og, q.1 < b) :
    mm_Ev mm_ct mm_CM (d + 1) 32 [.ref b] (zz L xs ((b, (3, 5, [2, 2, 0, 0, 0])) :: o) ((b, fun _ => 0) :: og) (b + 1) sl) (none, zz L xs o og (b + 3) (sl + 2880)) := by
  have hc : (mm_CM 32).2.2.2.2.2.2.2 = mm_cf cd_32 := by rw [cm_32]; rfl
  refine ev_of (mx := 1) (by rw [cm_32]; decide) (by rw [cm_32]; rfl) (by show 1 ≤ _; decide) ?_
  show mm_wp _ _ (0, [some (.ref b)], [], zz L xs ((b, (3, 5, [2, 2, 0, 0, 0])) :: o) ((b, fun _ => 0) :: og) (b + 1) sl) _
  refine wp_go hc 1 (z' := (1, [some (.ref b)], [.ref b], zz L xs ((b, (3, 5, [2, 2, 0, 0, 0])) :: o) ((b, fun _ => 0) :: og) (b + 1) (sl))) rfl ?_
  refine wp_oi hc rfl (Nat.le_of_ble_eq_true rfl) ?_
  refine wp_go hc 2 (z' := (8, [some (.ref b)], [.int 1440, .ref b], zz L xs ((b, (3, 5, [2, 2, 0, 0, 0])) :: o) ((b, fun _ => 0) :: og) (b + 1) (sl))) rfl ?_
  refine wz_nwa (len := 1440) hc rfl rfl (by decide) (by omega) (by decide) hs1 hg1 (lk_c (by omega) (lk_none ho (by omega))) (lk_c (by omega) (lk_none hog (by omega))) ?_
  show mm_wp _ _ (10, [some (.ref b)], [.ref (b + 1), .ref b], zz L xs ((b, (3, 5, [2, 2, 0, 0, 0])) :: o) ((b, fun _ => 0) :: og) (b + 2) (sl + 1440)) _
  refine wz_pr hc rfl (by omega) (by decide) (Nat.le_of_ble_eq_true rfl) (Nat.le_of_ble_eq_true rfl) ⟨rfl, rfl⟩ (fun _ => decide_eq_true (by rw [cm_32]; rfl)) ?_
  show mm_wp _ _ (13, [some (.ref b)], [], zz L xs ((b, (3, 5, [b + 4, 2, 0, 0, 0])) :: o) ((b, fun _ => 0) :: og) (b + 2) (sl + 1440)) _
  refine wp_go hc 2 (z' := (17, [some (.ref b)], [.int 1440, .ref b], zz L xs ((b, (3, 5, [b + 4, 2, 0, 0, 0])) :: o) ((b, fun _ => 0) :: og) (b + 2) (sl + 1440))) rfl ?_
  refine wz_nwa (len := 1440) hc rfl rfl (by decide) (by omega) (by decide) hs2 hg2 (lk_c (by omega) (lk_none ho (by omega))) (lk_c (by omega) (lk_none hog (by omega))) ?_
  show mm_wp _ _ (19, [some (.ref b)], [.ref (b + 2), .ref b], zz L xs ((b, (3, 5, [b + 4, 2, 0, 0, 0])) :: o) ((b, fun _ => 0) :: og) (b + 3) (sl + 2880)) _
  refine wz_pr hc rfl (by omega) (by decide) (Nat.le_of_ble_eq_true rfl) (Nat.le_of_ble_eq_true rfl) ⟨rfl, rfl⟩ (fun _ => decide_eq_true (by rw [cm_32]; rfl)) ?_
  show mm_wp _ _ (22, [some (.ref b)], [], zz L xs ((b, (3, 5, [b + 4, b + 5, 0, 0, 0])) :: o) ((b, fun _ => 0) :: og) (b + 3) (sl + 2880)) _
  refine wp_rt (res := (none, zz L xs ((b, (3, 5, [b + 4, b + 5, 0, 0, 0])) :: o) ((b, fun _ => 0) :: og) (b + 3) (sl + 2880))) ⟨.return_, 1, 0, 0, by rw [hc]; rfl, rfl, rfl, rfl, by rw [cm_32]; rfl⟩ ?_
  have e2 : mm_G0 b = fun _ => 0 := by
    rw [hg0]
  rw [zz, zz_s_dn hs0 (by omega) (lk_none ho (by omega)), zz_g_dn e2 (by omega) (lk_none hog (by omega))]
set_option maxHeartbeats 1000000 in
theorem sp_43 {d L : Nat} {xs : Nat → Int32} {o : List (Nat × mm_Kd)} {og : List (Nat × (Nat → Int32))} {b sl : Nat} (hb : b + 15 < 1000000) (hs0 : mm_SH L 584 (b) = (4, 10, [b + 4, b + 5, b + 6, 0, 0, b + 7, 0, 0, 0, 0])) (hs1 : mm_SH L 584 (b + 1) = (100, 301, [])) (hs2 : mm_SH L 584 (b + 2) = (100, 301, [])) (hs3 : mm_SH L 584 (b + 3) = (100, 301, [])) (hq0 : mm_SH L 584 (b + 4) = (6, 8, [b + 8, b + 9, b + 10, b + 11, b + 12, 0, 0, 0])) (hq1 : mm_SH L 584 (b + 5) = (100, 24, [])) (hq2 : mm_SH L 584 (b + 6) = (100, 72, [])) (hq3 : mm_SH L 584 (b + 7) = (100, 300, [])) (hq4 : mm_SH L 584 (b + 8) = (100, 8, [])) (hq5 : mm_SH L 584 (b + 9) = (100, 8, [])) (hq6 : mm_G0 (b + 4) = fun _ => 0) (hq7 : mm_G0 (b + 5) = fun _ => 0) (hq8 : mm_G0 (b + 6) = fun _ => 0) (hq9 : mm_G0 (b + 7) = fun _ => 0) (hq10 : mm_G0 (b + 8) = fun _ => 0) (hq11 : mm_G0 (b + 9) = fun _ => 0) (hg0 : mm_G0 (b) = fun k => if k = 8 then (-1) else if k = 9 then (-1) else 0) (hg1 : mm_G0 (b + 1) = fun _ => 0) (hg2 : mm_G0 (b + 2) = fun _ => 0) (hg3 : mm_G0 (b + 3) = fun _ => 0) (ho : ∀ q ∈ o, q.1 < b) (hog : ∀ q ∈ og, q.1 < b) :
    mm_Ev mm_ct mm_CM (d + 2) 43 [.ref b] (zz L xs ((b, (4, 10, [2, 2, 2, 0, 0, 2, 0, 0, 0, 0])) :: o) ((b, fun _ => 0) :: og) (b + 1) sl) (none, zz L xs o og (b + 10) (sl + 1323)) := by
  have hc : (mm_CM 43).2.2.2.2.2.2.2 = mm_cf cd_43 := by rw [cm_43]; rfl
  refine ev_of (mx := 1) (by rw [cm_43]; decide) (by rw [cm_43]; rfl) (by show 1 ≤ _; decide) ?_
  show mm_wp _ _ (0, [some (.ref b)], [], zz L xs ((b, (4, 10, [2, 2, 2, 0, 0, 2, 0, 0, 0, 0])) :: o) ((b, fun _ => 0) :: og) (b + 1) sl) _
  refine wp_go hc 1 (z' := (1, [some (.ref b)], [.ref b], zz L xs ((b, (4, 10, [2, 2, 2, 0, 0, 2, 0, 0, 0, 0])) :: o) ((b, fun _ => 0) :: og) (b + 1) (sl))) rfl ?_
  refine wp_oi hc rfl (Nat.le_of_ble_eq_true rfl) ?_
  refine wp_go hc 2 (z' := (8, [some (.ref b)], [.int 301, .ref b], zz L xs ((b, (4, 10, [2, 2, 2, 0, 0, 2, 0, 0, 0, 0])) :: o) ((b, fun _ => 0) :: og) (b + 1) (sl))) rfl ?_
  refine wz_nwa (len := 301) hc rfl rfl (by decide) (by omega) (by decide) hs1 hg1 (lk_c (by omega) (lk_none ho (by omega))) (lk_c (by omega) (lk_none hog (by omega))) ?_
  show mm_wp _ _ (10, [some (.ref b)], [.ref (b + 1), .ref b], zz L xs ((b, (4, 10, [2, 2, 2, 0, 0, 2, 0, 0, 0, 0])) :: o) ((b, fun _ => 0) :: og) (b + 2) (sl + 301)) _
  refine wz_pr hc rfl (by omega) (by decide) (Nat.le_of_ble_eq_true rfl) (Nat.le_of_ble_eq_true rfl) ⟨rfl, rfl⟩ (fun _ => decide_eq_true (by rw [cm_43]; rfl)) ?_
  show mm_wp _ _ (13, [some (.ref b)], [], zz L xs ((b, (4, 10, [b + 4, 2, 2, 0, 0, 2, 0, 0, 0, 0])) :: o) ((b, fun _ => 0) :: og) (b + 2) (sl + 301)) _
  refine wp_go hc 2 (z' := (17, [some (.ref b)], [.int 301, .ref b], zz L xs ((b, (4, 10, [b + 4, 2, 2, 0, 0, 2, 0, 0, 0, 0])) :: o) ((b, fun _ => 0) :: og) (b + 2) (sl + 301))) rfl ?_
  refine wz_nwa (len := 301) hc rfl rfl (by decide) (by omega) (by decide) hs2 hg2 (lk_c (by omega) (lk_none ho (by omega))) (lk_c (by omega) (lk_none hog (by omega))) ?_
  show mm_wp _ _ (19, [some (.ref b)], [.ref (b + 2), .ref b], zz L xs ((b, (4, 10, [b + 4, 2, 2, 0, 0, 2, 0, 0, 0, 0])) :: o) ((b, fun _ => 0) :: og) (b + 3) (sl + 602)) _
  refine wz_pr hc rfl (by omega) (by decide) (Nat.le_of_ble_eq_true rfl) (Nat.le_of_ble_eq_true rfl) ⟨rfl, rfl⟩ (fun _ => decide_eq_true (by rw [cm_43]; rfl)) ?_
  show mm_wp _ _ (22, [some (.ref b)], [], zz L xs ((b, (4, 10, [b + 4, b + 5, 2, 0, 0, 2, 0, 0, 0, 0])) :: o) ((b, fun _ => 0) :: og) (b + 3) (sl + 602)) _
  refine wp_go hc 2 (z' := (26, [some (.ref b)], [.int 301, .ref b], zz L xs ((b, (4, 10, [b + 4, b + 5, 2, 0, 0, 2, 0, 0, 0, 0])) :: o) ((b, fun _ => 0) :: og) (b + 3) (sl + 602))) rfl ?_
  refine wz_nwa (len := 301) hc rfl rfl (by decide) (by omega) (by decide) hs3 hg3 (lk_c (by omega) (lk_none ho (by omega))) (lk_c (by omega) (lk_none hog (by omega))) ?_
  show mm_wp _ _ (28, [some (.ref b)], [.ref (b + 3), .ref b], zz L xs ((b, (4, 10, [b + 4, b + 5, 2, 0, 0, 2, 0, 0, 0, 0])) :: o) ((b, fun _ => 0) :: og) (b + 4) (sl + 903)) _
  refine wz_pr hc rfl (by omega) (by decide) (Nat.le_of_ble_eq_true rfl) (Nat.le_of_ble_eq_true rfl) ⟨rfl, rfl⟩ (fun _ => decide_eq_true (by rw [cm_43]; rfl)) ?_
  show mm_wp _ _ (31, [some (.ref b)], [], zz L xs ((b, (4, 10, [b + 4, b + 5, b + 6, 0, 0, 2, 0, 0, 0, 0])) :: o) ((b, fun _ => 0) :: og) (b + 4) (sl + 903)) _
  refine wp_go hc 1 (z' := (32, [some (.ref b)], [.ref b], zz L xs ((b, (4, 10, [b + 4, b + 5, b + 6, 0, 0, 2, 0, 0, 0, 0])) :: o) ((b, fun _ => 0) :: og) (b + 4) (sl + 903))) rfl ?_
  refine wp_new hc rfl (by show b + 4 < 1000000; omega) ?_
  rw [zz_al]
  show mm_wp _ _ (35, [some (.ref b)], [.ref (b + 4), .ref b], zz L xs ((b + 4, (6, 8, [2, 2, 2, 2, 2, 0, 0, 0])) :: (b, (4, 10, [b + 4, b + 5, b + 6, 0, 0, 2, 0, 0, 0, 0])) :: o) ((b + 4, fun _ => 0) :: (b, fun _ => 0) :: og) (b + 5) (sl + 911)) _
  refine wp_go hc 1 (z' := (36, [some (.ref b)], [.ref (b + 4), .ref (b + 4), .ref b], zz L xs ((b + 4, (6, 8, [2, 2, 2, 2, 2, 0, 0, 0])) :: (b, (4, 10, [b + 4, b + 5, b + 6, 0, 0, 2, 0, 0, 0, 0])) :: o) ((b + 4, fun _ => 0) :: (b, fun _ => 0) :: og) (b + 5) (sl + 911))) rfl ?_
  refine wp_ci (As := []) (b := b + 4) (r := [.ref (b + 4), .ref b]) hc rfl (by rw [cm_77]; rfl) rfl (Nat.le_of_ble_eq_true rfl) (ev_mono (sp_77 (d := 0) (b := b + 4) (by omega) hq0 hq1 hq2 hq3 hq4 hq5 hq6 hq7 hq8 hq9 hq10 hq11 (lt_c (by omega) (lt_m (by omega) ho)) (lt_c (by omega) (lt_m (by omega) hog))) (by omega)) ?_
  show mm_wp _ _ (39, [some (.ref b)], [.ref (b + 4), .ref b], zz L xs ((b, (4, 10, [b + 4, b + 5, b + 6, 0, 0, 2, 0, 0, 0, 0])) :: o) ((b, fun _ => 0) :: og) (b + 10) (sl + 1323)) _
  refine wz_pr hc rfl (by omega) (by decide) (Nat.le_of_ble_eq_true rfl) (Nat.le_of_ble_eq_true rfl) ⟨rfl, rfl⟩ (fun _ => decide_eq_true (by rw [cm_43]; rfl)) ?_
  show mm_wp _ _ (42, [some (.ref b)], [], zz L xs ((b, (4, 10, [b + 4, b + 5, b + 6, 0, 0, b + 7, 0, 0, 0, 0])) :: o) ((b, fun _ => 0) :: og) (b + 10) (sl + 1323)) _
  refine wp_go hc 2 (z' := (44, [some (.ref b)], [.int (-1), .ref b], zz L xs ((b, (4, 10, [b + 4, b + 5, b + 6, 0, 0, b + 7, 0, 0, 0, 0])) :: o) ((b, fun _ => 0) :: og) (b + 10) (sl + 1323))) rfl ?_
  refine wz_pi hc rfl (by omega) (by decide) (Nat.le_of_ble_eq_true rfl) rfl ⟨rfl, rfl⟩ (fun _ => decide_eq_true (by rw [cm_43]; rfl)) ?_
  show mm_wp _ _ (47, [some (.ref b)], [], zz L xs ((b, (4, 10, [b + 4, b + 5, b + 6, 0, 0, b + 7, 0, 0, 0, 0])) :: o) ((b, fun j => if j = 8 then (-1) else (fun _ => 0) j) :: og) (b + 10) (sl + 1323)) _
  refine wp_go hc 2 (z' := (49, [some (.ref b)], [.int (-1), .ref b], zz L xs ((b, (4, 10, [b + 4, b + 5, b + 6, 0, 0, b + 7, 0, 0, 0, 0])) :: o) ((b, fun j => if j = 8 then (-1) else (fun _ => 0) j) :: og) (b + 10) (sl + 1323))) rfl ?_
  refine wz_pi hc rfl (by omega) (by decide) (Nat.le_of_ble_eq_true rfl) rfl ⟨rfl, rfl⟩ (fun _ => decide_eq_true (by rw [cm_43]; rfl)) ?_
  show mm_wp _ _ (52, [some (.ref b)], [], zz L xs ((b, (4, 10, [b + 4, b + 5, b + 6, 0, 0, b + 7, 0, 0, 0, 0])) :: o) ((b, fun j => if j = 9 then (-1) else (fun j => if j = 8 then (-1) else (fun _ => 0) j) j) :: og) (b + 10) (sl + 1323)) _
  refine wp_rt (res := (none, zz L xs ((b, (4, 10, [b + 4, b + 5, b + 6, 0, 0, b + 7, 0, 0, 0, 0])) :: o) ((b, fun j => if j = 9 then (-1) else (fun j => if j = 8 then (-1) else (fun _ => 0) j) j) :: og) (b + 10) (sl + 1323))) ⟨.return_, 1, 0, 0, by rw [hc]; rfl, rfl, rfl, rfl, by rw [cm_43]; rfl⟩ ?_
  have e2 : mm_G0 b = fun j => if j = 9 then (-1) else (fun j => if j = 8 then (-1) else (fun _ => 0) j) j := by
    rw [hg0]
    funext k
    by_cases h1 : k = 8
    · subst h1; rfl
    · by_cases h2 : k = 9
      · subst h2; rfl
      · simp [h1, h2]
  rw [zz, zz_s_dn hs0 (by omega) (lk_none ho (by omega)), zz_g_dn e2 (by omega) (lk_none hog (by omega))]
