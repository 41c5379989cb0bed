/-! Rules for calls, for the script, for new cells; a method's run out of its body's. -/
theorem ev_of {d me mx : Nat} {vs : List Value} {M : mm_M} {res : mm_Rs} (h98 : (mm_CM me).2.2.2.2.2.2.1 ≠ 98) (hm : (mm_CM me).2.2.1 = mx) (hl : (mm_lay vs).length ≤ mx) (h : mm_wp (mm_Ev mm_ct mm_CM d) me (0, mm_ent mx vs, [], M) (fun r => r = res)) : mm_Ev mm_ct mm_CM (d + 1) me vs M res := by
  subst hm
  obtain ⟨n, r, h1, rfl⟩ := h
  exact ⟨h98, hl, n, h1⟩
theorem ev_to {d me mx : Nat} {vs : List Value} {M : mm_M} {Q : mm_Rs → Prop} (h98 : (mm_CM me).2.2.2.2.2.2.1 ≠ 98) (hm : (mm_CM me).2.2.1 = mx) (hl : (mm_lay vs).length ≤ mx) (h : mm_wp (mm_Ev mm_ct mm_CM d) me (0, mm_ent mx vs, [], M) Q) : ∃ res, mm_Ev mm_ct mm_CM (d + 1) me vs M res ∧ Q res := by
  subst hm
  obtain ⟨n, r, h1, h2⟩ := h
  exact ⟨r, ⟨h98, hl, n, h1⟩, h2⟩
theorem sr_mono {E E' : mm_EV} (hE : ∀ me vs M res, E me vs M res → E' me vs M res) {b : Bool} {i : Instr} {ln r1 r2 : Nat} {z z' : mm_St} (h : mm_Sr mm_ct mm_CM E b i ln r1 r2 z z') : mm_Sr mm_ct mm_CM E' b i ln r1 r2 z z' := by
  have ca : ∀ {pc : Nat} {L : List (Option Value)} {M : mm_M} {As r : List Value} {self : Option Nat}, mm_ca mm_CM E r1 pc L M As r self z' → mm_ca mm_CM E' r1 pc L M As r self z' := by
    rintro pc L M As r self ⟨res, h1, h2, h3, h4⟩
    refine ⟨res, h1, h2, ?_, h4⟩
    cases self with
    | none => exact hE _ _ _ _ h3
    | some b => exact hE _ _ _ _ h3
  unfold mm_Sr at h ⊢
  split at h
  any_goals exact h
  · split at h
    · rename_i g
      rw [if_pos g]
      exact h
    · rename_i g
      rw [if_neg g]
      split at h
      · rename_i g
        rw [if_pos g]
        exact h
      · rename_i g
        rw [if_neg g]
        obtain ⟨As, r, h1, h2⟩ := h
        exact ⟨As, r, h1, ca h2⟩
  · split at h
    · rename_i g
      rw [if_pos g]
      exact h
    · rename_i g
      rw [if_neg g]
      obtain ⟨As, r, b, h1, h2, h3, h4⟩ := h
      exact ⟨As, r, b, h1, h2, h3, ca h4⟩
  · split at h
    · rename_i g
      rw [if_pos g]
      exact h
    · rename_i g
      rw [if_neg g]
      obtain ⟨As, r, b, h1, h2⟩ := h
      exact ⟨As, r, b, h1, ca h2⟩
theorem rn_mono {E E' : mm_EV} (hE : ∀ me vs M res, E me vs M res → E' me vs M res) {me : Nat} : ∀ (n : Nat) (z : mm_St) (res : mm_Rs), mm_Rn mm_ct mm_CM E me n z res → mm_Rn mm_ct mm_CM E' me n z res
  | 0, _, _, h => h.elim
  | n + 1, z, res, h => by
    rcases h with h | ⟨z', ⟨i, ln, r1, r2, h1, h2⟩, g⟩
    · exact Or.inl h
    · exact Or.inr ⟨z', ⟨i, ln, r1, r2, h1, sr_mono hE h2⟩, rn_mono hE n z' res g⟩
theorem ev_succ : ∀ (d me : Nat) (vs : List Value) (M : mm_M) (res : mm_Rs), mm_Ev mm_ct mm_CM d me vs M res → mm_Ev mm_ct mm_CM (d + 1) me vs M res
  | 0, _, _, _, _, h => h.elim
  | d + 1, me, vs, M, res, h => by
    obtain ⟨h98, hl, n, h⟩ := h
    exact ⟨h98, hl, n, rn_mono (ev_succ d) n _ _ h⟩
theorem ev_mono {d d' me : Nat} {vs : List Value} {M : mm_M} {res : mm_Rs} (h : mm_Ev mm_ct mm_CM d me vs M res) (hd : d ≤ d') : mm_Ev mm_ct mm_CM d' me vs M res := by
  obtain ⟨k, rfl⟩ : ∃ k, d' = d + k := ⟨d' - d, by omega⟩
  induction k with
  | zero => exact h
  | succ k ih => exact ev_succ _ _ _ _ _ (ih (Nat.le_add_right _ _))
theorem stp_of {E : mm_EV} {me ln r1 r2 : Nat} {cd : Nat → Option mm_In} {i : Instr} {z z' : mm_St} (hc : (mm_CM me).2.2.2.2.2.2.2 = cd) (hi : cd z.1 = some (i, ln, r1, r2)) (h : mm_Sr mm_ct mm_CM E (decide ((mm_CM me).1.name = "<init>")) i ln r1 r2 z z') : mm_Stp mm_ct mm_CM E me z z' := ⟨i, ln, r1, r2, by rw [hc]; exact hi, h⟩
section WPR
variable {E : mm_EV} {me pc r1 n9 : Nat} {cd : Nat → Option mm_In} {L : List (Option Value)} {M : mm_M} {r : List Value} {Q : mm_Rs → Prop}
theorem wp_cs {As st : List Value} {res : mm_Rs} {idx : Nat} (hc : (mm_CM me).2.2.2.2.2.2.2 = cd) (hi : cd pc = some (.invokestatic idx, 3, r1, 0)) (hn : (mm_CM r1).2.2.2.2.2.1 = As.length) (hst : st = As.reverse ++ r) (hcat : (r.map fun v => v.category).sum ≤ 8) (hE : E r1 As M res) (k : mm_wp E me (pc + 3, L, res.1.toList ++ r, res.2) Q) : mm_wp E me (pc, L, st, M) Q :=
  wp_st ⟨_, _, _, _, by rw [hc]; exact hi, by
    show mm_Sr _ _ _ _ (.invokestatic idx) 3 r1 0 _ _
    unfold mm_Sr
    dsimp only
    rw [if_neg (by decide), if_neg (by decide)]
    exact ⟨As, r, hst, res, hn.symm, hcat, hE, rfl⟩⟩ k
theorem wp_cv {As st : List Value} {res : mm_Rs} {idx b : Nat} (hc : (mm_CM me).2.2.2.2.2.2.2 = cd) (hi : cd pc = some (.invokevirtual idx, 3, r1, 1)) (hn : (mm_CM r1).2.2.2.2.2.1 = As.length) (hst : st = As.reverse ++ .ref b :: r) (hcat : (r.map fun v => v.category).sum ≤ 8) (hb : b < M.2.1.1) (hk : (M.1 b).1 = (mm_CM r1).2.2.2.2.2.2.1) (hE : E r1 (.ref b :: As) M res) (k : mm_wp E me (pc + 3, L, res.1.toList ++ r, res.2) Q) : mm_wp E me (pc, L, st, M) Q :=
  wp_st ⟨_, _, _, _, by rw [hc]; exact hi, by
    show mm_Sr _ _ _ _ (.invokevirtual idx) 3 r1 1 _ _
    unfold mm_Sr
    dsimp only
    rw [if_neg (by decide)]
    exact ⟨As, r, b, hst, hb, hk, res, hn.symm, hcat, hE, rfl⟩⟩ k
/-- String constants: ldc, length, charAt, indexOf -/
theorem wp_zld {idx : Nat} (hc : (mm_CM me).2.2.2.2.2.2.2 = cd) (hi : cd pc = some (.ldc idx, 2, r1, 1)) (h1 : r1 = 1000002 ∨ r1 = 1000003) (k : mm_wp E me (pc + 2, L, .ref r1 :: r, M) Q) : mm_wp E me (pc, L, r, M) Q :=
  wp_st (stp_of hc hi (by exact Or.inr ⟨rfl, h1, rfl⟩)) k
theorem wp_zln {idx a : Nat} (hc : (mm_CM me).2.2.2.2.2.2.2 = cd) (hi : cd pc = some (.invokevirtual idx, 3, 0, 8)) (h1 : a = 1000002 ∨ a = 1000003) (hcat : (r.map fun v => v.category).sum ≤ 8) (k : mm_wp E me (pc + 3, L, .int (nI (mm_sl a)) :: r, M) Q) : mm_wp E me (pc, L, .ref a :: r, M) Q :=
  wp_st ⟨_, _, _, _, by rw [hc]; exact hi, by
    show mm_Sr _ _ _ _ (.invokevirtual idx) 3 0 8 _ _
    unfold mm_Sr
    dsimp only
    rw [if_pos rfl]
    exact ⟨a, r, h1, hcat, Or.inl ⟨rfl, rfl, rfl⟩⟩⟩ k
theorem wp_zch {idx a j : Nat} (hc : (mm_CM me).2.2.2.2.2.2.2 = cd) (hi : cd pc = some (.invokevirtual idx, 3, 1, 8)) (h1 : a = 1000002 ∨ a = 1000003) (hj : j < (mm_sl a)) (hcat : (r.map fun v => v.category).sum ≤ 8) (k : mm_wp E me (pc + 3, L, .int (mm_sb a j) :: r, M) Q) : mm_wp E me (pc, L, .int (nI j) :: .ref a :: r, M) Q :=
  wp_st ⟨_, _, _, _, by rw [hc]; exact hi, by
    show mm_Sr _ _ _ _ (.invokevirtual idx) 3 1 8 _ _
    unfold mm_Sr
    dsimp only
    rw [if_pos rfl]
    exact ⟨a, r, h1, hcat, Or.inr (Or.inl ⟨rfl, j, hj, rfl, rfl⟩)⟩⟩ k
theorem wp_zix {idx a j : Nat} (hc : (mm_CM me).2.2.2.2.2.2.2 = cd) (hi : cd pc = some (.invokevirtual idx, 3, 2, 8)) (h1 : a = 1000002 ∨ a = 1000003) (hj : j < 256) (hcat : (r.map fun v => v.category).sum ≤ 8) (k : mm_wp E me (pc + 3, L, .int (vz_ix (mm_sb a) (nI j) (mm_sl a) 0) :: r, M) Q) : mm_wp E me (pc, L, .int (nI j) :: .ref a :: r, M) Q :=
  wp_st ⟨_, _, _, _, by rw [hc]; exact hi, by
    show mm_Sr _ _ _ _ (.invokevirtual idx) 3 2 8 _ _
    unfold mm_Sr
    dsimp only
    rw [if_pos rfl]
    exact ⟨a, r, h1, hcat, Or.inr (Or.inr ⟨rfl, j, hj, rfl, rfl⟩)⟩⟩ k
theorem wp_ci {As st : List Value} {res : mm_Rs} {idx b : Nat} (hc : (mm_CM me).2.2.2.2.2.2.2 = cd) (hi : cd pc = some (.invokespecial idx, 3, r1, 2)) (hn : (mm_CM r1).2.2.2.2.2.1 = As.length) (hst : st = As.reverse ++ .ref b :: r) (hcat : (r.map fun v => v.category).sum ≤ 8) (hE : E r1 (.ref b :: As) M res) (k : mm_wp E me (pc + 3, L, res.1.toList ++ r, res.2) Q) : mm_wp E me (pc, L, st, M) Q :=
  wp_st ⟨_, _, _, _, by rw [hc]; exact hi, by
    show mm_Sr _ _ _ _ (.invokespecial idx) 3 r1 2 _ _
    unfold mm_Sr
    dsimp only
    rw [if_neg (by decide)]
    exact ⟨As, r, b, hst, res, hn.symm, hcat, hE, rfl⟩⟩ k
theorem wp_oi {idx b : Nat} (hc : (mm_CM me).2.2.2.2.2.2.2 = cd) (hi : cd pc = some (.invokespecial idx, 3, r1, 3)) (hcat : (r.map fun v => v.category).sum ≤ 8) (k : mm_wp E me (pc + 3, L, r, M) Q) : mm_wp E me (pc, L, .ref b :: r, M) Q :=
  wp_st ⟨_, _, _, _, by rw [hc]; exact hi, by
    show mm_Sr _ _ _ _ (.invokespecial idx) 3 r1 3 _ _
    unfold mm_Sr
    dsimp only
    rw [if_pos rfl]
    exact ⟨b, r, rfl, hcat, rfl⟩⟩ k
theorem wp_fld {a : Nat} {ix : Int32} {r2 : Nat} (hc : (mm_CM me).2.2.2.2.2.2.2 = cd) (hi : cd pc = some (.iaload, 1, r1, r2)) (h1 : 1000000 ≤ a) (h2 : (M.1 a).1 = 110) (h3 : ¬ ix < 0) (h4 : ix.toNatClampNeg < (M.1 a).2.1) (k : mm_wp E me (pc + 1, L, .int (M.2.2.1 a ix.toNatClampNeg) :: r, M) Q) : mm_wp E me (pc, L, .int ix :: .ref a :: r, M) Q :=
  wp_st (stp_of hc hi (by exact ⟨a, ix, r, rfl, Or.inr ⟨h1, h2, h3, h4⟩, rfl⟩)) k
theorem wp_fln {a r2 : Nat} (hc : (mm_CM me).2.2.2.2.2.2.2 = cd) (hi : cd pc = some (.arraylength, 1, r1, r2)) (h1 : 1000000 ≤ a) (h2 : (M.1 a).1 = 110) (k : mm_wp E me (pc + 1, L, .int (Int32.ofNat (M.1 a).2.1) :: r, M) Q) : mm_wp E me (pc, L, .ref a :: r, M) Q :=
  wp_st (stp_of hc hi (by exact Or.inr ⟨a, r, rfl, h1, h2, rfl⟩)) k
theorem wp_ild {a r2 : Nat} {ix : Int32} (hc : (mm_CM me).2.2.2.2.2.2.2 = cd) (hi : cd pc = some (.iaload, 1, r1, r2)) (hin : mm_in M a 100 ix) (k : mm_wp E me (pc + 1, L, .int (M.2.2.1 a ix.toNatClampNeg) :: r, M) Q) : mm_wp E me (pc, L, .int ix :: .ref a :: r, M) Q :=
  wp_st (stp_of hc hi (by exact ⟨a, ix, r, rfl, Or.inl hin, rfl⟩)) k
theorem wp_lld {a r2 : Nat} {ix : Int32} (hc : (mm_CM me).2.2.2.2.2.2.2 = cd) (hi : cd pc = some (.laload, 1, r1, r2)) (hin : mm_in M a 101 ix) (k : mm_wp E me (pc + 1, L, .long (M.2.2.2 a ix.toNatClampNeg) :: r, M) Q) : mm_wp E me (pc, L, .int ix :: .ref a :: r, M) Q :=
  wp_st (stp_of hc hi (by exact ⟨a, ix, r, rfl, hin, rfl⟩)) k
theorem wp_bld {a r2 : Nat} {ix : Int32} (hc : (mm_CM me).2.2.2.2.2.2.2 = cd) (hi : cd pc = some (.baload, 1, r1, r2)) (hin : mm_in M a 102 ix) (k : mm_wp E me (pc + 1, L, .int (M.2.2.1 a ix.toNatClampNeg) :: r, M) Q) : mm_wp E me (pc, L, .int ix :: .ref a :: r, M) Q :=
  wp_st (stp_of hc hi (by exact ⟨a, ix, r, rfl, hin, rfl⟩)) k
theorem wp_ald {a k0 r2 v : Nat} {ix : Int32} (hc : (mm_CM me).2.2.2.2.2.2.2 = cd) (hi : cd pc = some (.aaload, 1, r1, r2)) (h1 : 103 ≤ k0) (h2 : k0 < 106) (hin : mm_in M a k0 ix) (hv : (M.1 a).2.2.getD ix.toNatClampNeg 2 = v + 3) (k : mm_wp E me (pc + 1, L, .ref v :: r, M) Q) : mm_wp E me (pc, L, .int ix :: .ref a :: r, M) Q :=
  wp_st (stp_of hc hi (by exact ⟨a, k0, ix, r, rfl, h1, h2, hin, rfl⟩)) (by rw [hv]; exact k)
theorem wp_ist {a r2 : Nat} {ix x : Int32} (hc : (mm_CM me).2.2.2.2.2.2.2 = cd) (hi : cd pc = some (.iastore, 1, r1, r2)) (hin : mm_in M a 100 ix) (k : mm_wp E me (pc + 1, L, r, (M.1, M.2.1, mm_u2 M.2.2.1 a ix.toNatClampNeg x, M.2.2.2)) Q) : mm_wp E me (pc, L, .int x :: .int ix :: .ref a :: r, M) Q :=
  wp_st (stp_of hc hi (by exact ⟨a, ix, x, r, rfl, hin, rfl⟩)) k
theorem wp_bst {a r2 : Nat} {ix x : Int32} (hc : (mm_CM me).2.2.2.2.2.2.2 = cd) (hi : cd pc = some (.bastore, 1, r1, r2)) (hin : mm_in M a 102 ix) (k : mm_wp E me (pc + 1, L, r, (M.1, M.2.1, mm_u2 M.2.2.1 a ix.toNatClampNeg (vp_nar .boolean x), M.2.2.2)) Q) : mm_wp E me (pc, L, .int x :: .int ix :: .ref a :: r, M) Q :=
  wp_st (stp_of hc hi (by exact ⟨a, ix, x, r, rfl, hin, rfl⟩)) k
theorem wp_lst {a r2 : Nat} {ix : Int32} {x : Int64} (hc : (mm_CM me).2.2.2.2.2.2.2 = cd) (hi : cd pc = some (.lastore, 1, r1, r2)) (hin : mm_in M a 101 ix) (k : mm_wp E me (pc + 1, L, r, (M.1, M.2.1, M.2.2.1, mm_u2 M.2.2.2 a ix.toNatClampNeg x)) Q) : mm_wp E me (pc, L, .long x :: .int ix :: .ref a :: r, M) Q :=
  wp_st (stp_of hc hi (by exact ⟨a, ix, x, r, rfl, hin, rfl⟩)) k
theorem wp_ast {a v k0 r2 : Nat} {ix : Int32} (hc : (mm_CM me).2.2.2.2.2.2.2 = cd) (hi : cd pc = some (.aastore, 1, r1, r2)) (h1 : 104 ≤ k0) (h2 : k0 < 106) (hin : mm_in M a k0 ix) (hv : v < M.2.1.1) (hvk : (M.1 v).1 = k0 - 99) (hl : ix.toNatClampNeg < (M.1 a).2.2.length) (k : mm_wp E me (pc + 1, L, r, (mm_u1 M.1 a ((M.1 a).1, (M.1 a).2.1, (M.1 a).2.2.set ix.toNatClampNeg (v + 3)), M.2)) Q) : mm_wp E me (pc, L, .ref v :: .int ix :: .ref a :: r, M) Q :=
  wp_st (stp_of hc hi (by exact ⟨a, v, k0, ix, r, rfl, h1, h2, hin, hv, hvk, hl, rfl⟩)) k
theorem wp_put {a r2 idx : Nat} {v : Value} {M' : mm_M} (hc : (mm_CM me).2.2.2.2.2.2.2 = cd) (hi : cd pc = some (.putfield idx, 3, r1, r2)) (hp : mm_put M a r1 r2 v = some M') (hl : r2 < (M.1 a).2.2.length) (hn : narrow (mm_tf r1 r2) v = v) (hf : fits (mm_tf r1 r2) v = true) (hin : mm_fi r1 r2 = true → decide ((mm_CM me).1.name = "<init>") = true) (k : mm_wp E me (pc + 3, L, r, M') Q) : mm_wp E me (pc, L, v :: .ref a :: r, M) Q :=
  wp_st (stp_of hc hi (by exact ⟨a, v, r, M', rfl, hp, hl, hn, hf, hin, rfl⟩)) k
theorem wp_new {idx r2 : Nat} (hc : (mm_CM me).2.2.2.2.2.2.2 = cd) (hi : cd pc = some (.new idx, 3, r1, r2)) (hn : M.2.1.1 < 1000000) (k : mm_wp E me (pc + 3, L, .ref M.2.1.1 :: r, mm_al M r1 r2 r2 (mm_tm r1)) Q) : mm_wp E me (pc, L, r, M) Q :=
  wp_st (stp_of hc hi (by exact ⟨hn, rfl⟩)) k
theorem wp_nwa {t : ArrayType} {r2 : Nat} {x : Int32} (hc : (mm_CM me).2.2.2.2.2.2.2 = cd) (hi : cd pc = some (.newarray t, 2, r1, r2)) (hx : ¬ x < 0) (hb : x.toNatClampNeg ≤ 1000000) (hn : M.2.1.1 < 1000000) (hk : 100 ≤ mm_kd t) (k : mm_wp E me (pc + 2, L, .ref M.2.1.1 :: r, mm_al M (mm_kd t) x.toNatClampNeg x.toNatClampNeg []) Q) : mm_wp E me (pc, L, .int x :: r, M) Q :=
  wp_st (stp_of hc hi (by exact ⟨x, r, rfl, hx, hb, hn, hk, rfl⟩)) k
theorem wp_anw {idx r2 : Nat} {x : Int32} (hc : (mm_CM me).2.2.2.2.2.2.2 = cd) (hi : cd pc = some (.anewarray idx, 3, r1, r2)) (hx : ¬ x < 0) (hb : x.toNatClampNeg ≤ 1000000) (hn : M.2.1.1 < 1000000) (k : mm_wp E me (pc + 3, L, .ref M.2.1.1 :: r, mm_al M r1 x.toNatClampNeg x.toNatClampNeg (List.replicate x.toNatClampNeg 2)) Q) : mm_wp E me (pc, L, .int x :: r, M) Q :=
  wp_st (stp_of hc hi (by exact ⟨x, r, rfl, hx, hb, hn, rfl⟩)) k
theorem wp_mnw {idx j r2 : Nat} {n k0 : Int32} (hc : (mm_CM me).2.2.2.2.2.2.2 = cd) (hi : cd pc = some (.multianewarray idx j, 4, r1, r2)) (hx : ¬ n < 0) (hy : ¬ k0 < 0) (hb : k0.toNatClampNeg ≤ 1000000) (hn : M.2.1.1 + 1 + n.toNatClampNeg < 1000000) (k : mm_wp E me (pc + 4, L, .ref M.2.1.1 :: r, mm_mn M n.toNatClampNeg k0.toNatClampNeg) Q) : mm_wp E me (pc, L, .int k0 :: .int n :: r, M) Q :=
  wp_st (stp_of hc hi (by exact ⟨n, k0, r, rfl, hx, hy, hb, hn, rfl⟩)) k
theorem wp_gst {idx r2 : Nat} {q : String × String × String × Value} (hc : (mm_CM me).2.2.2.2.2.2.2 = cd) (hi : cd pc = some (.getstatic idx, 3, r1, r2)) (hq : mm_ct.2.2.2[r1]? = some q) (k : mm_wp E me (pc + 3, L, q.2.2.2 :: r, M) Q) : mm_wp E me (pc, L, r, M) Q :=
  wp_st (stp_of hc hi (by exact ⟨q, hq, rfl⟩)) k
theorem wp_cpy {idx a0 a : Nat} {sp dp n : Int32} (hc : (mm_CM me).2.2.2.2.2.2.2 = cd) (hi : cd pc = some (.invokestatic idx, 3, r1, 4)) (hcat : (r.map fun v => v.category).sum ≤ 8) (h1 : a0 < M.2.1.1) (h2 : (M.1 a0).1 = 100) (h3 : a < M.2.1.1) (h4 : (M.1 a).1 = 100) (h5 : ¬ sp < 0) (h6 : ¬ dp < 0) (h7 : ¬ n < 0) (h8 : sp.toNatClampNeg + n.toNatClampNeg ≤ (M.1 a0).2.1) (h9 : dp.toNatClampNeg + n.toNatClampNeg ≤ (M.1 a).2.1) (k : mm_wp E me (pc + 3, L, r, (M.1, M.2.1, mm_u1 M.2.2.1 a (va_cpy (M.2.2.1 a0) (M.2.2.1 a) sp.toNatClampNeg dp.toNatClampNeg n.toNatClampNeg), M.2.2.2)) Q) : mm_wp E me (pc, L, .int n :: .int dp :: .ref a :: .int sp :: .ref a0 :: r, M) Q :=
  wp_st ⟨_, _, _, _, by rw [hc]; exact hi, by
    show mm_Sr _ _ _ _ (.invokestatic idx) 3 r1 4 _ _
    unfold mm_Sr
    dsimp only
    rw [if_pos rfl]
    exact ⟨a0, a, sp, dp, n, r, rfl, hcat, h1, h2, h3, h4, h5, h6, h7, h8, h9, rfl⟩⟩ k
end WPR
