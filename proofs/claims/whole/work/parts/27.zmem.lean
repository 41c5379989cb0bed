/-! The memory while the constructors run: what is finished is as it will be, what isn't stands in a list. -/
def mm_lk {α : Type} : List (Nat × α) → Nat → Option α
  | [], _ => none
  | q :: l, a => if a = q.1 then some q.2 else mm_lk l a
def zz_sc (a : Nat) : Bool := a == 2 || (decide (25 ≤ a) && decide (a < 265) && (a - 25) % 8 == 0) || a == 290 || (decide (313 ≤ a) && decide (a < 553) && (a - 313) % 8 == 0)
/-- the ints behind the constructors -/
def mm_G0 (a k : Nat) : Int32 :=
  if zz_sc a = true then (if k = 7 then 31 else 0)
  else if 6 ≤ a ∧ zz_sc (a - 6) = true then (if k < 10 then 3 else 0)
  else if a = 11 ∨ a = 299 then (if k < 3 then 30 else 0)
  else if a = 1 ∨ a = 289 then (if k = 9 then 1 else if k = 11 then (-1) else 0)
  else if a = 580 then (if k = 8 then (-1) else if k = 9 then (-1) else 0)
  else if a = 598 then (if k = 5 then (-1) else if k = 6 then (-1) else 0)
  else if a = 599 ∨ a = 600 then (if k = 3 then 1 else if k = 4 then 31 else if k = 6 then (-1) else if 10 ≤ k ∧ k < 13 then 30 else 0)
  else 0
def zz_s (L : Nat) (o : List (Nat × mm_Kd)) (n a : Nat) : mm_Kd := (mm_lk o a).getD (if a < n then mm_SH L 584 a else if a = 1000000 then (110, 7, []) else if a = 1000001 then (110, L, []) else (200, 0, []))
def zz_g (xs : Nat → Int32) (og : List (Nat × (Nat → Int32))) (n a : Nat) : Nat → Int32 := (mm_lk og a).getD (if a < n then mm_G0 a else fun k => if a = 1000000 then mm_fac k else if a = 1000001 then xs k else 0)
abbrev zz (L : Nat) (xs : Nat → Int32) (o : List (Nat × mm_Kd)) (og : List (Nat × (Nat → Int32))) (n sl : Nat) : mm_M := (zz_s L o n, (n, sl), zz_g xs og n, fun _ _ => 0)
section ZZ
variable {L : Nat} {xs : Nat → Int32} {o : List (Nat × mm_Kd)} {og : List (Nat × (Nat → Int32))} {n sl : Nat}
theorem zz_s_hd {b : Nat} {kd : mm_Kd} : zz_s L ((b, kd) :: o) n b = kd := by simp [zz_s, mm_lk]
theorem zz_s_lt {b : Nat} (h : mm_lk o b = none) (hb : b < n) : zz_s L o n b = mm_SH L 584 b := by simp [zz_s, h, hb]
theorem zz_s_tl {a b : Nat} {kd : mm_Kd} (h : a ≠ b) : zz_s L ((b, kd) :: o) n a = zz_s L o n a := by simp [zz_s, mm_lk, h]
theorem zz_s_al {k len : Nat} {tm : List Nat} : mm_u1 (zz_s L o n) n (k, len, tm) = zz_s L ((n, (k, len, tm)) :: o) (n + 1) := by
  funext a
  by_cases h : a = n
  · subst h; simp [mm_u1, zz_s, mm_lk]
  · have e : a < n + 1 ↔ a < n := by omega
    simp [mm_u1, zz_s, mm_lk, h, e]
theorem zz_g_al : mm_u1 (zz_g xs og n) n (fun _ => 0) = zz_g xs ((n, fun _ => 0) :: og) (n + 1) := by
  funext a
  by_cases h : a = n
  · subst h; simp [mm_u1, zz_g, mm_lk]
  · have e : a < n + 1 ↔ a < n := by omega
    simp [mm_u1, zz_g, mm_lk, h, e]
theorem zz_al {k len s : Nat} {tm : List Nat} : mm_al (zz L xs o og n sl) k len s tm = zz L xs ((n, (k, len, tm)) :: o) ((n, fun _ => 0) :: og) (n + 1) (sl + s) := by
  unfold mm_al
  dsimp only
  rw [zz_s_al, zz_g_al]
  have e : mm_u1 (fun (_ _ : Nat) => (0 : Int64)) n (fun _ => 0) = fun _ _ => 0 := by
    funext a
    simp [mm_u1]
  rw [e]
theorem zz_s_dn {b : Nat} {kd : mm_Kd} (h : mm_SH L 584 b = kd) (hb : b < n) (ho : mm_lk o b = none) : zz_s L ((b, kd) :: o) n = zz_s L o n := by
  funext a
  by_cases e : a = b
  · subst e; simp [zz_s, mm_lk, hb, ho, h]
  · simp [zz_s, mm_lk, e]
theorem zz_g_dn {b : Nat} {f : Nat → Int32} (h : mm_G0 b = f) (hb : b < n) (ho : mm_lk og b = none) : zz_g xs ((b, f) :: og) n = zz_g xs og n := by
  funext a
  by_cases e : a = b
  · subst e; simp [zz_g, mm_lk, hb, ho, h]
  · simp [zz_g, mm_lk, e]
theorem zz_s_up {b : Nat} {kd kd' : mm_Kd} : mm_u1 (zz_s L ((b, kd) :: o) n) b kd' = zz_s L ((b, kd') :: o) n := by
  funext a
  by_cases e : a = b
  · subst e; simp [mm_u1, zz_s, mm_lk]
  · simp [mm_u1, zz_s, mm_lk, e]
theorem zz_s_sw {b c : Nat} {kd kd' : mm_Kd} (h : b ≠ c) : zz_s L ((b, kd) :: (c, kd') :: o) n = zz_s L ((c, kd') :: (b, kd) :: o) n := by
  funext a
  by_cases e : a = b
  · subst e; simp [zz_s, mm_lk, h]
  · by_cases e2 : a = c
    · subst e2; simp [zz_s, mm_lk, e]
    · simp [zz_s, mm_lk, e, e2]
theorem zz_g_sw {b c : Nat} {f f' : Nat → Int32} (h : b ≠ c) : zz_g xs ((b, f) :: (c, f') :: og) n = zz_g xs ((c, f') :: (b, f) :: og) n := by
  funext a
  by_cases e : a = b
  · subst e; simp [zz_g, mm_lk, h]
  · by_cases e2 : a = c
    · subst e2; simp [zz_g, mm_lk, e]
    · simp [zz_g, mm_lk, e, e2]
theorem zz_g_up {b k : Nat} {f : Nat → Int32} {x : Int32} : mm_u2 (zz_g xs ((b, f) :: og) n) b k x = zz_g xs ((b, fun j => if j = k then x else f j) :: og) n := by
  funext a
  by_cases e : a = b
  · subst e
    funext j
    simp [mm_u2, zz_g, mm_lk]
  · funext j
    simp [mm_u2, zz_g, mm_lk, e]
variable {E : mm_EV} {me pc : Nat} {cd : Nat → Option mm_In} {Lc : List (Option Value)} {r : List Value} {Q : mm_Rs → Prop}
/-- a new int array (long, boolean) that is at once as it will be -/
theorem wz_nwa {t : ArrayType} {x : Int32} {len r1 r2 : Nat} (hc : (mm_CM me).2.2.2.2.2.2.2 = cd) (hi : cd pc = some (.newarray t, 2, r1, r2)) (hx : x = nI len) (hb : len ≤ 1000000) (hn : n < 1000000) (hk : 100 ≤ mm_kd t) (hs : mm_SH L 584 n = (mm_kd t, len, [])) (hg : mm_G0 n = fun _ => 0) (ho : mm_lk o n = none) (hog : mm_lk og n = none) (k : mm_wp E me (pc + 2, Lc, .ref n :: r, zz L xs o og (n + 1) (sl + len)) Q) : mm_wp E me (pc, Lc, .int x :: r, zz L xs o og n sl) Q := by
  subst hx
  have e : (nI len).toNatClampNeg = len := nI_clamp (by omega)
  refine wp_nwa hc hi (nI_pos (by omega)) (by rw [e]; exact hb) hn hk ?_
  rw [e, zz_al]
  show mm_wp E me (pc + 2, Lc, .ref n :: r, (zz_s L ((n, mm_kd t, len, []) :: o) (n + 1), (n + 1, sl + len), zz_g xs ((n, fun _ => 0) :: og) (n + 1), fun _ _ => 0)) Q
  rw [zz_s_dn (n := n + 1) hs (by omega) ho, zz_g_dn (n := n + 1) hg (by omega) hog]
  exact k
/-- a new int array whose ints are still to come -/
theorem wz_nwb {t : ArrayType} {x : Int32} {len r1 r2 : Nat} (hc : (mm_CM me).2.2.2.2.2.2.2 = cd) (hi : cd pc = some (.newarray t, 2, r1, r2)) (hx : x = nI len) (hb : len ≤ 1000000) (hn : n < 1000000) (hk : 100 ≤ mm_kd t) (hs : mm_SH L 584 n = (mm_kd t, len, [])) (ho : mm_lk o n = none) (k : mm_wp E me (pc + 2, Lc, .ref n :: r, zz L xs o ((n, fun _ => 0) :: og) (n + 1) (sl + len)) Q) : mm_wp E me (pc, Lc, .int x :: r, zz L xs o og n sl) Q := by
  subst hx
  have e : (nI len).toNatClampNeg = len := nI_clamp (by omega)
  refine wp_nwa hc hi (nI_pos (by omega)) (by rw [e]; exact hb) hn hk ?_
  rw [e, zz_al]
  show mm_wp E me (pc + 2, Lc, .ref n :: r, (zz_s L ((n, mm_kd t, len, []) :: o) (n + 1), (n + 1, sl + len), zz_g xs ((n, fun _ => 0) :: og) (n + 1), fun _ _ => 0)) Q
  rw [zz_s_dn (n := n + 1) hs (by omega) ho]
  exact k
/-- a reference into a field of the object that stands first -/
theorem wz_pr {b v ci N idx kf : Nat} {tm : List Nat} (hc : (mm_CM me).2.2.2.2.2.2.2 = cd) (hi : cd pc = some (.putfield idx, 3, ci, kf)) (hb : b < n) (hk : kf < N) (hl : kf < tm.length) (ht : 2 ≤ tm.getD kf 0) (hty : narrow (mm_tf ci kf) (.ref v) = .ref v ∧ fits (mm_tf ci kf) (.ref v) = true) (hin : mm_fi ci kf = true → decide ((mm_CM me).1.name = "<init>") = true) (k : mm_wp E me (pc + 3, Lc, r, zz L xs ((b, (ci, N, tm.set kf (v + 3))) :: o) og n sl) Q) : mm_wp E me (pc, Lc, .ref v :: .ref b :: r, zz L xs ((b, (ci, N, tm)) :: o) og n sl) Q := by
  have e : (zz L xs ((b, (ci, N, tm)) :: o) og n sl).1 b = (ci, N, tm) := zz_s_hd
  obtain ⟨t, ht2⟩ : ∃ t, tm.getD kf 0 = t + 2 := ⟨tm.getD kf 0 - 2, by omega⟩
  have hp : mm_put (zz L xs ((b, (ci, N, tm)) :: o) og n sl) b ci kf (.ref v) = some (zz L xs ((b, (ci, N, tm.set kf (v + 3))) :: o) og n sl) := by
    unfold mm_put
    rw [e, if_pos ⟨rfl, hb, hk⟩]
    dsimp only
    rw [ht2]
    dsimp only
    rw [zz_s_up]
  exact wp_put hc hi hp (by rw [e]; exact hl) hty.1 hty.2 hin k
/-- an int into a field of the object that stands first -/
theorem wz_pi {b ci N idx kf : Nat} {tm : List Nat} {x : Int32} {f : Nat → Int32} (hc : (mm_CM me).2.2.2.2.2.2.2 = cd) (hi : cd pc = some (.putfield idx, 3, ci, kf)) (hb : b < n) (hk : kf < N) (hl : kf < tm.length) (ht : tm.getD kf 0 = 0) (hty : narrow (mm_tf ci kf) (.int x) = .int x ∧ fits (mm_tf ci kf) (.int x) = true) (hin : mm_fi ci kf = true → decide ((mm_CM me).1.name = "<init>") = true) (k : mm_wp E me (pc + 3, Lc, r, zz L xs ((b, (ci, N, tm)) :: o) ((b, fun j => if j = kf then x else f j) :: og) n sl) Q) : mm_wp E me (pc, Lc, .int x :: .ref b :: r, zz L xs ((b, (ci, N, tm)) :: o) ((b, f) :: og) n sl) Q := by
  have e : (zz L xs ((b, (ci, N, tm)) :: o) ((b, f) :: og) n sl).1 b = (ci, N, tm) := zz_s_hd
  have hp : mm_put (zz L xs ((b, (ci, N, tm)) :: o) ((b, f) :: og) n sl) b ci kf (.int x) = some (zz L xs ((b, (ci, N, tm)) :: o) ((b, fun j => if j = kf then x else f j) :: og) n sl) := by
    unfold mm_put
    rw [e, if_pos ⟨rfl, hb, hk⟩]
    dsimp only
    rw [ht]
    show some (zz_s L ((b, (ci, N, tm)) :: o) n, (n, sl), mm_u2 (zz_g xs ((b, f) :: og) n) b kf x, fun (_ _ : Nat) => (0 : Int64)) = _
    rw [zz_g_up]
  exact wp_put hc hi hp (by rw [e]; exact hl) hty.1 hty.2 hin k
end ZZ
/-! The same with the thing at any place of the list. -/
theorem lk_app {α : Type} : ∀ (p l : List (Nat × α)) (a : Nat), mm_lk (p ++ l) a = (match mm_lk p a with | some v => some v | none => mm_lk l a)
  | [], _, _ => rfl
  | q :: p, l, a => by
    have ih := lk_app p l a
    by_cases h : a = q.1
    · simp [mm_lk, h]
    · simp only [List.cons_append, mm_lk, h, if_false]
      exact ih
theorem lk_mid {α : Type} {p l : List (Nat × α)} {b : Nat} {v : α} (h : mm_lk p b = none) : mm_lk (p ++ (b, v) :: l) b = some v := by
  rw [lk_app, h]
  simp [mm_lk]
theorem lk_oth {α : Type} {p l : List (Nat × α)} {a b : Nat} {v w : α} (h : a ≠ b) : mm_lk (p ++ (b, v) :: l) a = mm_lk (p ++ (b, w) :: l) a := by
  rw [lk_app, lk_app]
  simp [mm_lk, h]
theorem lk_del {α : Type} {p l : List (Nat × α)} {a b : Nat} {v : α} (h : a ≠ b) : mm_lk (p ++ (b, v) :: l) a = mm_lk (p ++ l) a := by
  rw [lk_app, lk_app]
  simp [mm_lk, h]
section ZQ
variable {L : Nat} {xs : Nat → Int32} {o p : List (Nat × mm_Kd)} {og pg : List (Nat × (Nat → Int32))} {n sl : Nat}
theorem zq_s_at {b : Nat} {kd : mm_Kd} (h : mm_lk p b = none) : zz_s L (p ++ (b, kd) :: o) n b = kd := by
  unfold zz_s
  rw [lk_mid h]
  rfl
theorem zq_s_up {b : Nat} {kd kd' : mm_Kd} (h : mm_lk p b = none) : mm_u1 (zz_s L (p ++ (b, kd) :: o) n) b kd' = zz_s L (p ++ (b, kd') :: o) n := by
  funext a
  by_cases e : a = b
  · subst e
    rw [mm_u1_eq, zq_s_at h]
  · rw [mm_u1_ne e]
    unfold zz_s
    rw [lk_oth e]
theorem zq_s_dn {b : Nat} {kd : mm_Kd} (h : mm_SH L 584 b = kd) (hb : b < n) (hp : mm_lk p b = none) (ho : mm_lk o b = none) : zz_s L (p ++ (b, kd) :: o) n = zz_s L (p ++ o) n := by
  funext a
  by_cases e : a = b
  · subst e
    rw [zq_s_at hp]
    unfold zz_s
    rw [lk_app, hp]
    simp [ho, hb, h]
  · unfold zz_s
    rw [lk_del e]
theorem zq_g_at {b : Nat} {f : Nat → Int32} (h : mm_lk pg b = none) : zz_g xs (pg ++ (b, f) :: og) n b = f := by
  unfold zz_g
  rw [lk_mid h]
  rfl
theorem zq_g_up {b k : Nat} {f : Nat → Int32} {x : Int32} (h : mm_lk pg b = none) : mm_u2 (zz_g xs (pg ++ (b, f) :: og) n) b k x = zz_g xs (pg ++ (b, fun j => if j = k then x else f j) :: og) n := by
  funext a
  by_cases e : a = b
  · subst e
    funext j
    rw [zq_g_at h]
    have : mm_u2 (zz_g xs (pg ++ (a, f) :: og) n) a k x a j = if j = k then x else zz_g xs (pg ++ (a, f) :: og) n a j := by simp [mm_u2]
    rw [this, zq_g_at h]
  · rw [mm_u2_ne e]
    unfold zz_g
    rw [lk_oth e]
theorem zq_g_dn {b : Nat} {f : Nat → Int32} (h : mm_G0 b = f) (hb : b < n) (hp : mm_lk pg b = none) (ho : mm_lk og b = none) : zz_g xs (pg ++ (b, f) :: og) n = zz_g xs (pg ++ og) n := by
  funext a
  by_cases e : a = b
  · subst e
    rw [zq_g_at hp]
    unfold zz_g
    rw [lk_app, hp]
    simp [ho, hb, h]
  · unfold zz_g
    rw [lk_del e]
theorem zz_mn {N K : Nat} (hs : mm_SH L 584 n = (103, N, (List.range N).map (fun j => n + 1 + j + 3))) (hs2 : ∀ j, j < N → mm_SH L 584 (n + 1 + j) = (100, K, [])) (hg : ∀ j, j < N + 1 → mm_G0 (n + j) = fun _ => 0) (ho : ∀ j, j < N + 1 → mm_lk o (n + j) = none) (hog : ∀ j, j < N + 1 → mm_lk og (n + j) = none) : mm_mn (zz L xs o og n sl) N K = zz L xs o og (n + 1 + N) (sl + N + N * K) := by
  have e1 : (fun b => if b = n then (103, N, (List.range N).map (fun j => n + 1 + j + 3)) else if n < b ∧ b < n + 1 + N then (100, K, []) else zz_s L o n b) = zz_s L o (n + 1 + N) := by
    funext a
    rcases (by omega : a < n ∨ a = n ∨ (n < a ∧ a < n + 1 + N) ∨ n + 1 + N ≤ a) with h | h | h | h
    · rw [if_neg (by omega), if_neg (by omega)]
      simp only [zz_s, h, if_true, show a < n + 1 + N by omega]
    · subst h
      rw [if_pos rfl]
      have := ho 0 (by omega)
      rw [Nat.add_zero] at this
      rw [zz_s_lt this (by omega), hs]
    · rw [if_neg (by omega), if_pos h]
      obtain ⟨j, rfl⟩ : ∃ j, a = n + 1 + j := ⟨a - n - 1, by omega⟩
      have := ho (1 + j) (by omega)
      rw [← Nat.add_assoc] at this
      rw [zz_s_lt this (by omega), hs2 j (by omega)]
    · rw [if_neg (by omega), if_neg (by omega)]
      simp only [zz_s, show ¬ a < n by omega, show ¬ a < n + 1 + N by omega, if_false]
  have e2 : (fun b => if n ≤ b ∧ b < n + 1 + N then (fun _ => (0 : Int32)) else zz_g xs og n b) = zz_g xs og (n + 1 + N) := by
    funext a
    rcases (by omega : a < n ∨ (n ≤ a ∧ a < n + 1 + N) ∨ n + 1 + N ≤ a) with h | h | h
    · rw [if_neg (by omega)]
      simp only [zz_g, h, if_true, show a < n + 1 + N by omega]
    · rw [if_pos h]
      obtain ⟨j, rfl⟩ : ∃ j, a = n + j := ⟨a - n, by omega⟩
      unfold zz_g
      rw [hog j (by omega), if_pos h.2, hg j (by omega)]
      rfl
    · rw [if_neg (by omega)]
      simp only [zz_g, show ¬ a < n by omega, show ¬ a < n + 1 + N by omega, if_false]
  have e3 : (fun b => if n ≤ b ∧ b < n + 1 + N then (fun _ => (0 : Int64)) else (fun _ => 0)) = fun (_ _ : Nat) => (0 : Int64) := by
    funext a
    split <;> rfl
  unfold mm_mn
  dsimp only
  rw [e1, e2, e3]
variable {E : mm_EV} {me pc : Nat} {cd : Nat → Option mm_In} {Lc : List (Option Value)} {r : List Value} {Q : mm_Rs → Prop}
theorem wq_mn {x y : Int32} {N K j r1 r2 idx : Nat} (hc : (mm_CM me).2.2.2.2.2.2.2 = cd) (hi : cd pc = some (.multianewarray idx j, 4, r1, r2)) (hx : x = nI N) (hy : y = nI K) (hK : K ≤ 1000000) (hn : n + 1 + N < 1000000) (hs : mm_SH L 584 n = (103, N, (List.range N).map (fun j => n + 1 + j + 3))) (hs2 : ∀ j, j < N → mm_SH L 584 (n + 1 + j) = (100, K, [])) (hg : ∀ j, j < N + 1 → mm_G0 (n + j) = fun _ => 0) (ho : ∀ j, j < N + 1 → mm_lk o (n + j) = none) (hog : ∀ j, j < N + 1 → mm_lk og (n + j) = none) (k : mm_wp E me (pc + 4, Lc, .ref n :: r, zz L xs o og (n + 1 + N) (sl + N + N * K)) Q) : mm_wp E me (pc, Lc, .int y :: .int x :: r, zz L xs o og n sl) Q := by
  subst hx
  subst hy
  have e : (nI N).toNatClampNeg = N := nI_clamp (by omega)
  have e2 : (nI K).toNatClampNeg = K := nI_clamp (by omega)
  refine wp_mnw hc hi (nI_pos (by omega)) (nI_pos (by omega)) (by rw [e2]; exact hK) (by rw [e]; exact hn) ?_
  rw [e, e2, zz_mn hs hs2 hg ho hog]
  exact k
theorem wq_anw {x : Int32} {N r1 r2 idx : Nat} (hc : (mm_CM me).2.2.2.2.2.2.2 = cd) (hi : cd pc = some (.anewarray idx, 3, r1, r2)) (hx : x = nI N) (hN : N ≤ 1000000) (hn : n < 1000000) (hg : mm_G0 n = fun _ => 0) (hog : mm_lk og n = none) (k : mm_wp E me (pc + 3, Lc, .ref n :: r, zz L xs ((n, (r1, N, List.replicate N 2)) :: o) og (n + 1) (sl + N)) Q) : mm_wp E me (pc, Lc, .int x :: r, zz L xs o og n sl) Q := by
  subst hx
  have e : (nI N).toNatClampNeg = N := nI_clamp (by omega)
  refine wp_anw hc hi (nI_pos (by omega)) (by rw [e]; exact hN) hn ?_
  rw [e, zz_al]
  show mm_wp E me (pc + 3, Lc, .ref n :: r, (zz_s L ((n, r1, N, List.replicate N 2) :: o) (n + 1), (n + 1, sl + N), zz_g xs ((n, fun _ => 0) :: og) (n + 1), fun _ _ => 0)) Q
  rw [zz_g_dn (n := n + 1) hg (by omega) hog]
  exact k
theorem wq_pr {b v ci N idx kf : Nat} {tm : List Nat} (p : List (Nat × mm_Kd)) (hc : (mm_CM me).2.2.2.2.2.2.2 = cd) (hi : cd pc = some (.putfield idx, 3, ci, kf)) (hp : mm_lk p b = none) (hb : b < n) (hk : kf < N) (hl : kf < tm.length) (ht : 2 ≤ tm.getD kf 0) (hty : narrow (mm_tf ci kf) (.ref v) = .ref v ∧ fits (mm_tf ci kf) (.ref v) = true) (hin : mm_fi ci kf = true → decide ((mm_CM me).1.name = "<init>") = true) (k : mm_wp E me (pc + 3, Lc, r, zz L xs (p ++ (b, (ci, N, tm.set kf (v + 3))) :: o) og n sl) Q) : mm_wp E me (pc, Lc, .ref v :: .ref b :: r, zz L xs (p ++ (b, (ci, N, tm)) :: o) og n sl) Q := by
  have e : (zz L xs (p ++ (b, (ci, N, tm)) :: o) og n sl).1 b = (ci, N, tm) := zq_s_at hp
  obtain ⟨t, ht2⟩ : ∃ t, tm.getD kf 0 = t + 2 := ⟨tm.getD kf 0 - 2, by omega⟩
  have hp2 : mm_put (zz L xs (p ++ (b, (ci, N, tm)) :: o) og n sl) b ci kf (.ref v) = some (zz L xs (p ++ (b, (ci, N, tm.set kf (v + 3))) :: o) og n sl) := by
    unfold mm_put
    rw [e, if_pos ⟨rfl, hb, hk⟩]
    dsimp only
    rw [ht2]
    dsimp only
    rw [zq_s_up hp]
  exact wp_put hc hi hp2 (by rw [e]; exact hl) hty.1 hty.2 hin k
theorem wq_pi {b ci N idx kf : Nat} {tm : List Nat} {x : Int32} {f : Nat → Int32} (p : List (Nat × mm_Kd)) (pg : List (Nat × (Nat → Int32))) (hc : (mm_CM me).2.2.2.2.2.2.2 = cd) (hi : cd pc = some (.putfield idx, 3, ci, kf)) (hp : mm_lk p b = none) (hpg : mm_lk pg b = none) (hb : b < n) (hk : kf < N) (hl : kf < tm.length) (ht : tm.getD kf 0 = 0) (hty : narrow (mm_tf ci kf) (.int x) = .int x ∧ fits (mm_tf ci kf) (.int x) = true) (hin : mm_fi ci kf = true → decide ((mm_CM me).1.name = "<init>") = true) (k : mm_wp E me (pc + 3, Lc, r, zz L xs (p ++ (b, (ci, N, tm)) :: o) (pg ++ (b, fun j => if j = kf then x else f j) :: og) n sl) Q) : mm_wp E me (pc, Lc, .int x :: .ref b :: r, zz L xs (p ++ (b, (ci, N, tm)) :: o) (pg ++ (b, f) :: og) n sl) Q := by
  have e : (zz L xs (p ++ (b, (ci, N, tm)) :: o) (pg ++ (b, f) :: og) n sl).1 b = (ci, N, tm) := zq_s_at hp
  have hp2 : mm_put (zz L xs (p ++ (b, (ci, N, tm)) :: o) (pg ++ (b, f) :: og) n sl) b ci kf (.int x) = some (zz L xs (p ++ (b, (ci, N, tm)) :: o) (pg ++ (b, fun j => if j = kf then x else f j) :: og) n sl) := by
    unfold mm_put
    rw [e, if_pos ⟨rfl, hb, hk⟩]
    dsimp only
    rw [ht]
    show some (zz_s L (p ++ (b, (ci, N, tm)) :: o) n, (n, sl), mm_u2 (zz_g xs (pg ++ (b, f) :: og) n) b kf x, fun (_ _ : Nat) => (0 : Int64)) = _
    rw [zq_g_up hpg]
  exact wp_put hc hi hp2 (by rw [e]; exact hl) hty.1 hty.2 hin k
/-- an int into an int array that isn't yet as it will be -/
theorem wq_is {a i len r1 r2 : Nat} {ix x : Int32} {f : Nat → Int32} (pg : List (Nat × (Nat → Int32))) (hc : (mm_CM me).2.2.2.2.2.2.2 = cd) (hi : cd pc = some (.iastore, 1, r1, r2)) (hpg : mm_lk pg a = none) (ha : a < n) (hs : zz_s L o n a = (100, len, [])) (hix : ix = nI i) (hlt : i < len) (hlen : len < 1000000) (k : mm_wp E me (pc + 1, Lc, r, zz L xs o (pg ++ (a, fun j => if j = i then x else f j) :: og) n sl) Q) : mm_wp E me (pc, Lc, .int x :: .int ix :: .ref a :: r, zz L xs o (pg ++ (a, f) :: og) n sl) Q := by
  subst hix
  have e : (nI i).toNatClampNeg = i := nI_clamp (by omega)
  refine wp_ist hc hi ⟨by show (zz_s L o n a).1 = 100; rw [hs], ha, nI_pos (by omega), by show _ < (zz_s L o n a).2.1; rw [hs, e]; exact hlt⟩ ?_
  rw [e]
  show mm_wp E me (pc + 1, Lc, r, (zz_s L o n, (n, sl), mm_u2 (zz_g xs (pg ++ (a, f) :: og) n) a i x, fun _ _ => 0)) Q
  rw [zq_g_up hpg]
  exact k
/-- a reference into an array of references that isn't yet as it will be -/
theorem wq_as {a i v k0 N r1 r2 : Nat} {ix : Int32} {tm : List Nat} (p : List (Nat × mm_Kd)) (hc : (mm_CM me).2.2.2.2.2.2.2 = cd) (hi : cd pc = some (.aastore, 1, r1, r2)) (hp : mm_lk p a = none) (h1 : 104 ≤ k0) (h2 : k0 < 106) (ha : a < n) (hix : ix = nI i) (hlt : i < N) (hN : N < 1000000) (htl : i < tm.length) (hv : v < n) (hvk : (zz_s L (p ++ (a, (k0, N, tm)) :: o) n v).1 = k0 - 99) (k : mm_wp E me (pc + 1, Lc, r, zz L xs (p ++ (a, (k0, N, tm.set i (v + 3))) :: o) og n sl) Q) : mm_wp E me (pc, Lc, .ref v :: .int ix :: .ref a :: r, zz L xs (p ++ (a, (k0, N, tm)) :: o) og n sl) Q := by
  subst hix
  have e : (nI i).toNatClampNeg = i := nI_clamp (by omega)
  have es : zz_s L (p ++ (a, (k0, N, tm)) :: o) n a = (k0, N, tm) := zq_s_at hp
  refine wp_ast hc hi h1 h2 ⟨by show (zz_s L _ n a).1 = k0; rw [es], ha, nI_pos (by omega), by show _ < (zz_s L _ n a).2.1; rw [es, e]; exact hlt⟩ hv hvk (by show _ < (zz_s L _ n a).2.2.length; rw [es, e]; exact htl) ?_
  rw [e]
  show mm_wp E me (pc + 1, Lc, r, (mm_u1 (zz_s L (p ++ (a, (k0, N, tm)) :: o) n) a ((zz_s L (p ++ (a, (k0, N, tm)) :: o) n a).1, (zz_s L (p ++ (a, (k0, N, tm)) :: o) n a).2.1, (zz_s L (p ++ (a, (k0, N, tm)) :: o) n a).2.2.set i (v + 3)), (n, sl), zz_g xs og n, fun _ _ => 0)) Q
  rw [es, zq_s_up hp]
  exact k
end ZQ
