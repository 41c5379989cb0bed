/-! More rules over whole numbers: loads by value, Math, copies, objects, ends. -/
def maxI (x y : Int) : Int := if x < y then y else x
def minI (x y : Int) : Int := if y < x then y else x
def absI (x : Int) : Int := if 0 ≤ x then x else 0 - x
theorem maxI_spec (x y : Int) : x ≤ maxI x y ∧ y ≤ maxI x y ∧ (maxI x y = x ∨ maxI x y = y) := by
  unfold maxI; split <;> omega
theorem minI_spec (x y : Int) : minI x y ≤ x ∧ minI x y ≤ y ∧ (minI x y = x ∨ minI x y = y) := by
  unfold minI; split <;> omega
theorem absI_spec (x : Int) : 0 ≤ absI x ∧ (absI x = x ∨ absI x = -x) := by
  unfold absI; split <;> omega
theorem bI_rI (p : Prop) [Decidable p] : rI (bI p) := by
  have := bI_r p
  exact ⟨by omega, by omega⟩
theorem bI_iff {p q : Prop} [Decidable p] [Decidable q] (h : p ↔ q) : bI p = bI q := by
  unfold bI
  by_cases hp : p
  · rw [if_pos hp, if_pos (h.mp hp)]
  · rw [if_neg hp, if_neg (fun hq => hp (h.mpr hq))]
theorem bI_one {p : Prop} [Decidable p] : bI p = 1 ↔ p := by
  unfold bI; split <;> simp_all
theorem bI_zero {p : Prop} [Decidable p] : bI p = 0 ↔ ¬ p := by
  unfold bI; split <;> simp_all
theorem up_e {s : Nat → Int → Int} {a : Nat} {k j v : Int} (h : j = k) : up s a k v a j = v := by subst h; exact up_at
theorem pf_z {x : Int} (h : x = 0 ∨ x = 1) : narrow .boolean (.int (iI x)) = .int (iI x) ∧ fits .boolean (.int (iI x)) = true := by
  rcases h with h | h <;> (rw [h]; exact ⟨rfl, rfl⟩)
theorem ev_xsl {d me L t : Nat} {vs : List Value} {M : mm_M} {rv : Option Value} {Post : (Nat → Int → Int) → (Nat → Int → Int) → Prop} (h : ∃ res, mm_Ev mm_ct mm_CM d me vs M res ∧ ∃ s1 l1, res = (rv, MX L t s1 l1) ∧ Post s1 l1) : ∃ s1 l1, mm_Ev mm_ct mm_CM d me vs M (rv, MX L t s1 l1) ∧ Post s1 l1 := by
  obtain ⟨res, h1, s1, l1, rfl, h2⟩ := h
  exact ⟨s1, l1, h1, h2⟩
theorem ev_xs {d me L t : Nat} {l : Nat → Int → Int} {vs : List Value} {M : mm_M} {rv : Option Value} {Post : (Nat → Int → Int) → Prop} (h : ∃ res, mm_Ev mm_ct mm_CM d me vs M res ∧ ∃ s1, res = (rv, MX L t s1 l) ∧ Post s1) : ∃ s1, mm_Ev mm_ct mm_CM d me vs M (rv, MX L t s1 l) ∧ Post s1 := by
  obtain ⟨res, h1, s1, rfl, h2⟩ := h
  exact ⟨s1, h1, h2⟩
theorem ev_xl {d me L t : Nat} {s : Nat → Int → Int} {vs : List Value} {M : mm_M} {rv : Option Value} {Post : (Nat → Int → Int) → Prop} (h : ∃ res, mm_Ev mm_ct mm_CM d me vs M res ∧ ∃ l1, res = (rv, MX L t s l1) ∧ Post l1) : ∃ l1, mm_Ev mm_ct mm_CM d me vs M (rv, MX L t s l1) ∧ Post l1 := by
  obtain ⟨res, h1, l1, rfl, h2⟩ := h
  exact ⟨l1, h1, h2⟩
section WV
variable {E : mm_EV} {me pc r1 r2 L t : Nat} {cd : Nat → Option mm_In} {Lc : List (Option Value)} {r : List Value} {s l : Nat → Int → Int} {Q : mm_Rs → Prop} {x y e v : Int} {a N k0 ci kf idx tg : Nat} {M : mm_M}
theorem wi_ildv (hc : (mm_CM me).2.2.2.2.2.2.2 = cd) (hi : cd pc = some (.iaload, 1, r1, r2)) (h : mm_SH L t a = (100, N, [])) (ha : a < 621) (hN : N ≤ 100000) (h0 : 0 ≤ e) (h1 : e < N) {v : Int} (hv : s a e = v) (k : mm_wp E me (pc + 1, Lc, .int (iI v) :: r, MX L t s l) Q) : mm_wp E me (pc, Lc, .int (iI e) :: .ref a :: r, MX L t s l) Q := wi_ild hc hi h ha hN h0 h1 (by rw [hv]; exact k)
theorem wi_bldv (hc : (mm_CM me).2.2.2.2.2.2.2 = cd) (hi : cd pc = some (.baload, 1, r1, r2)) (h : mm_SH L t a = (102, N, [])) (ha : a < 621) (hN : N ≤ 100000) (h0 : 0 ≤ e) (h1 : e < N) {v : Int} (hv : s a e = v) (k : mm_wp E me (pc + 1, Lc, .int (iI v) :: r, MX L t s l) Q) : mm_wp E me (pc, Lc, .int (iI e) :: .ref a :: r, MX L t s l) Q := wi_bld hc hi h ha hN h0 h1 (by rw [hv]; exact k)
theorem wi_lldv (hc : (mm_CM me).2.2.2.2.2.2.2 = cd) (hi : cd pc = some (.laload, 1, r1, r2)) (h : mm_SH L t a = (101, N, [])) (ha : a < 621) (hN : N ≤ 100000) (h0 : 0 ≤ e) (h1 : e < N) {v : Int} (hv : l a e = v) (k : mm_wp E me (pc + 1, Lc, .long (lI v) :: r, MX L t s l) Q) : mm_wp E me (pc, Lc, .int (iI e) :: .ref a :: r, MX L t s l) Q := wi_lld hc hi h ha hN h0 h1 (by rw [hv]; exact k)
theorem wi_gfv {kz : Int} (hz : (kf : Int) = kz) (hc : (mm_CM me).2.2.2.2.2.2.2 = cd) (hi : cd pc = some (.getfield idx, 3, ci, kf)) (h1 : (mm_SH L t a).1 = ci) (h2 : a < 621) (h3 : kf < (mm_SH L t a).2.1) (h4 : (mm_SH L t a).2.2.getD kf 0 = 0) {v : Int} (hv : s a kz = v) (k : mm_wp E me (pc + 3, Lc, .int (iI v) :: r, MX L t s l) Q) : mm_wp E me (pc, Lc, .ref a :: r, MX L t s l) Q := wi_gf hz hc hi h1 h2 h3 h4 (by rw [hv]; exact k)
theorem wi_glv {kz : Int} (hz : (kf : Int) = kz) (hc : (mm_CM me).2.2.2.2.2.2.2 = cd) (hi : cd pc = some (.getfield idx, 3, ci, kf)) (h1 : (mm_SH L t a).1 = ci) (h2 : a < 621) (h3 : kf < (mm_SH L t a).2.1) (h4 : (mm_SH L t a).2.2.getD kf 0 = 1) {v : Int} (hv : l a kz = v) (k : mm_wp E me (pc + 3, Lc, .long (lI v) :: r, MX L t s l) Q) : mm_wp E me (pc, Lc, .ref a :: r, MX L t s l) Q := wi_gl hz hc hi h1 h2 h3 h4 (by rw [hv]; exact k)
theorem wi_nul (hc : (mm_CM me).2.2.2.2.2.2.2 = cd) (hi : cd pc = some (.aconst_null, 1, r1, r2)) (k : mm_wp E me (pc + 1, Lc, .null :: r, M) Q) : mm_wp E me (pc, Lc, r, M) Q := wp_st (stp_of hc hi rfl) k
theorem wi_ifnn {o : Int} (hc : (mm_CM me).2.2.2.2.2.2.2 = cd) (hi : cd pc = some (.ifnull o, 3, tg, r2)) (k : mm_wp E me (tg, Lc, r, M) Q) : mm_wp E me (pc, Lc, .null :: r, M) Q := wp_st (stp_of hc hi rfl) k
theorem wi_ifnr {o : Int} {w : Nat} (hc : (mm_CM me).2.2.2.2.2.2.2 = cd) (hi : cd pc = some (.ifnull o, 3, tg, r2)) (k : mm_wp E me (pc + 3, Lc, r, M) Q) : mm_wp E me (pc, Lc, .ref w :: r, M) Q := wp_st (stp_of hc hi rfl) k
theorem wi_innn {o : Int} (hc : (mm_CM me).2.2.2.2.2.2.2 = cd) (hi : cd pc = some (.ifnonnull o, 3, tg, r2)) (k : mm_wp E me (pc + 3, Lc, r, M) Q) : mm_wp E me (pc, Lc, .null :: r, M) Q := wp_st (stp_of hc hi rfl) k
theorem wi_innr {o : Int} {w : Nat} (hc : (mm_CM me).2.2.2.2.2.2.2 = cd) (hi : cd pc = some (.ifnonnull o, 3, tg, r2)) (k : mm_wp E me (tg, Lc, r, M) Q) : mm_wp E me (pc, Lc, .ref w :: r, M) Q := wp_st (stp_of hc hi rfl) k
theorem wi_aln2 (hc : (mm_CM me).2.2.2.2.2.2.2 = cd) {kk : Nat} {ln : Nat} (hi : cd pc = some (.aload kk, 2, r1, r2)) (hL : mm_nth Lc kk = some (some .null)) (k : mm_wp E me (pc + 2, Lc, .null :: r, M) Q) : mm_wp E me (pc, Lc, r, M) Q := by
  refine wp_st (stp_of hc hi ?_) k
  show mm_ld pc Lc r M kk 2 2 = _
  unfold mm_ld
  rw [hL]
  rfl
theorem wi_aln1 (hc : (mm_CM me).2.2.2.2.2.2.2 = cd) {kk : Fin 4} (hi : cd pc = some (.aload_n kk, 1, r1, r2)) (hL : mm_nth Lc kk = some (some .null)) (k : mm_wp E me (pc + 1, Lc, .null :: r, M) Q) : mm_wp E me (pc, Lc, r, M) Q := by
  refine wp_st (stp_of hc hi ?_) k
  show mm_ld pc Lc r M kk 1 2 = _
  unfold mm_ld
  rw [hL]
  rfl
theorem wi_asn1 {kk : Fin 4} {L' : List (Option Value)} (hc : (mm_CM me).2.2.2.2.2.2.2 = cd) (hi : cd pc = some (.astore_n kk, 1, r1, r2)) (hk : (kk : Nat) < Lc.length) (hL : mm_s1 Lc kk .null = L') (k : mm_wp E me (pc + 1, L', r, M) Q) : mm_wp E me (pc, Lc, .null :: r, M) Q := by
  refine wp_st (z' := (pc + 1, L', r, M)) (stp_of hc hi ?_) k
  show (if (kk : Nat) < Lc.length then some (pc + 1, mm_s1 Lc kk .null, r, M) else none) = _
  rw [if_pos hk, hL]
theorem wi_asn2 {kk : Nat} {L' : List (Option Value)} (hc : (mm_CM me).2.2.2.2.2.2.2 = cd) (hi : cd pc = some (.astore kk, 2, r1, r2)) (hk : (kk : Nat) < Lc.length) (hL : mm_s1 Lc kk .null = L') (k : mm_wp E me (pc + 2, L', r, M) Q) : mm_wp E me (pc, Lc, .null :: r, M) Q := by
  refine wp_st (z' := (pc + 2, L', r, M)) (stp_of hc hi ?_) k
  show (if (kk : Nat) < Lc.length then some (pc + 2, mm_s1 Lc kk .null, r, M) else none) = _
  rw [if_pos hk, hL]
theorem wi_math {k : Nat} (hk : 5 ≤ k ∧ k < 8) {idx : Nat} {xx yy vv : Int32} {st : List Value} (hc : (mm_CM me).2.2.2.2.2.2.2 = cd) (hi : cd pc = some (.invokestatic idx, 3, r1, k)) (hst : st = mm_mi k xx yy ++ r) (hcat : (r.map fun v => v.category).sum ≤ 8) (hv : vv = mm_mv k xx yy) (kk : mm_wp E me (pc + 3, Lc, .int vv :: r, M) Q) : mm_wp E me (pc, Lc, st, M) Q :=
  wp_st ⟨_, _, _, _, by rw [hc]; exact hi, by
    show mm_Sr _ _ _ _ (.invokestatic idx) 3 r1 k _ _
    unfold mm_Sr
    dsimp only
    rw [if_neg (by omega), if_pos hk.1]
    exact ⟨xx, yy, vv, r, hst, hcat, hk.2, hv, rfl⟩⟩ kk
theorem wi_max {idx : Nat} (hc : (mm_CM me).2.2.2.2.2.2.2 = cd) (hi : cd pc = some (.invokestatic idx, 3, r1, 5)) (hcat : (r.map fun v => v.category).sum ≤ 8) (hx : rI x) (hy : rI y) (kk : mm_wp E me (pc + 3, Lc, .int (iI (maxI x y)) :: r, M) Q) : mm_wp E me (pc, Lc, .int (iI y) :: .int (iI x) :: r, M) Q := by
  refine wi_math (k := 5) (xx := iI x) (yy := iI y) ⟨by decide, by decide⟩ hc hi rfl hcat ?_ kk
  show _ = if iI x < iI y then iI y else iI x
  unfold maxI
  by_cases h : x < y
  · rw [if_pos h, if_pos ((iI_lt hx hy).mpr h)]
  · rw [if_neg h, if_neg (fun q => h ((iI_lt hx hy).mp q))]
theorem wi_min {idx : Nat} (hc : (mm_CM me).2.2.2.2.2.2.2 = cd) (hi : cd pc = some (.invokestatic idx, 3, r1, 6)) (hcat : (r.map fun v => v.category).sum ≤ 8) (hx : rI x) (hy : rI y) (kk : mm_wp E me (pc + 3, Lc, .int (iI (minI x y)) :: r, M) Q) : mm_wp E me (pc, Lc, .int (iI y) :: .int (iI x) :: r, M) Q := by
  refine wi_math (k := 6) (xx := iI x) (yy := iI y) ⟨by decide, by decide⟩ hc hi rfl hcat ?_ kk
  show _ = if iI y < iI x then iI y else iI x
  unfold minI
  by_cases h : y < x
  · rw [if_pos h, if_pos ((iI_lt hy hx).mpr h)]
  · rw [if_neg h, if_neg (fun q => h ((iI_lt hy hx).mp q))]
theorem wi_abs {idx : Nat} (hc : (mm_CM me).2.2.2.2.2.2.2 = cd) (hi : cd pc = some (.invokestatic idx, 3, r1, 7)) (hcat : (r.map fun v => v.category).sum ≤ 8) (hx : rI x) (hm : -1000000 ≤ x) (kk : mm_wp E me (pc + 3, Lc, .int (iI (absI x)) :: r, M) Q) : mm_wp E me (pc, Lc, .int (iI x) :: r, M) Q := by
  refine wi_math (k := 7) (xx := iI x) (yy := 0) ⟨by decide, by decide⟩ hc hi rfl hcat ?_ kk
  show _ = if iI 0 ≤ iI x then iI x else iI 0 - iI x
  unfold absI
  by_cases h : 0 ≤ x
  · rw [if_pos h, if_pos ((iI_le r0 hx).mpr h)]
  · rw [if_neg h, if_neg (fun q => h ((iI_le r0 hx).mp q)), iI_sub]
/-- a copy between int arrays -/
def cpI (s : Nat → Int → Int) (a0 a : Nat) (sp dp n : Int) : Nat → Int → Int := fun b j => if b = a ∧ dp ≤ j ∧ j < dp + n then s a0 (sp + (j - dp)) else s b j
theorem mG_cp {a0 a : Nat} {sp dp n : Int} (h1 : 0 ≤ sp) (h2 : 0 ≤ dp) (h3 : 0 ≤ n) : mm_u1 (mG s) a (va_cpy (mG s a0) (mG s a) sp.toNat dp.toNat n.toNat) = mG (cpI s a0 a sp dp n) := by
  funext b
  by_cases hb : b = a
  · subst hb
    funext j
    show (if b = b then va_cpy (mG s a0) (mG s b) sp.toNat dp.toNat n.toNat else mG s b) j = iI (cpI s a0 b sp dp n b j)
    rw [if_pos rfl]
    unfold va_cpy cpI mG
    by_cases q : dp ≤ (j : Int) ∧ (j : Int) < dp + n
    · rw [if_pos ⟨by omega, by omega⟩, if_pos ⟨rfl, q⟩]
      congr 2
      omega
    · rw [if_neg (fun h => q ⟨by omega, by omega⟩), if_neg (fun h => q h.2)]
  · funext j
    show (if b = a then va_cpy (mG s a0) (mG s a) sp.toNat dp.toNat n.toNat else mG s b) j = iI (cpI s a0 a sp dp n b j)
    rw [if_neg hb]
    unfold cpI mG
    rw [if_neg (fun h => hb h.1)]
theorem wi_cpy {a0 a N0 N1 : Nat} {sp dp n : Int} {idx : Nat} (hc : (mm_CM me).2.2.2.2.2.2.2 = cd) (hi : cd pc = some (.invokestatic idx, 3, r1, 4)) (hcat : (r.map fun v => v.category).sum ≤ 8) (h1 : a0 < 621) (h2 : mm_SH L t a0 = (100, N0, [])) (h3 : a < 621) (h4 : mm_SH L t a = (100, N1, [])) (b0 : 0 ≤ sp) (b1 : 0 ≤ dp) (b2 : 0 ≤ n) (b3 : sp + n ≤ N0) (b4 : dp + n ≤ N1) (hN0 : N0 ≤ 100000) (hN1 : N1 ≤ 100000) (kk : mm_wp E me (pc + 3, Lc, r, MX L t (cpI s a0 a sp dp n) l) Q) : mm_wp E me (pc, Lc, .int (iI n) :: .int (iI dp) :: .ref a :: .int (iI sp) :: .ref a0 :: r, MX L t s l) Q := by
  have e1 : (iI sp).toNatClampNeg = sp.toNat := iI_nat b0 (by omega)
  have e2 : (iI dp).toNatClampNeg = dp.toNat := iI_nat b1 (by omega)
  have e3 : (iI n).toNatClampNeg = n.toNat := iI_nat b2 (by omega)
  refine wp_cpy (r := r) hc hi hcat h1 ?_ h3 ?_ (iI_pos b0 (by omega)) (iI_pos b1 (by omega)) (iI_pos b2 (by omega)) ?_ ?_ ?_
  · show (mm_SH L t a0).1 = 100
    rw [h2]
  · show (mm_SH L t a).1 = 100
    rw [h4]
  · show _ ≤ (mm_SH L t a0).2.1
    rw [e1, e3, h2]
    show sp.toNat + n.toNat ≤ N0
    omega
  · show _ ≤ (mm_SH L t a).2.1
    rw [e2, e3, h4]
    show dp.toNat + n.toNat ≤ N1
    omega
  · rw [e1, e2, e3]
    show mm_wp E me (pc + 3, Lc, r, mm_X L t (mm_u1 (mG s) a (va_cpy (mG s a0) (mG s a) sp.toNat dp.toNat n.toNat)) (mL l)) Q
    rw [mG_cp b0 b1 b2]
    exact kk
theorem wi_ra {v : Value} {n : String} (hc : (mm_CM me).2.2.2.2.2.2.2 = cd) {n1 n2 n3 : Nat} (hi : cd pc = some (.areturn, n1, n2, n3)) (ht : (mm_CM me).2.2.2.1 = some (.object n)) (hv : v = .null ∨ ∃ a, v = .ref a) (q : Q (some v, M)) : mm_wp E me (pc, Lc, [v], M) Q :=
  wp_rt (res := (some v, M)) ⟨.areturn, n1, n2, n3, by rw [hc]; exact hi, rfl, v, n, rfl, rfl, ht, hv⟩ q
theorem wi_rx {x : Int} (hx : x = 0 ∨ x = 1) {n1 n2 n3 : Nat} (hc : (mm_CM me).2.2.2.2.2.2.2 = cd) (hi : cd pc = some (.ireturn, n1, n2, n3)) (ht : (mm_CM me).2.2.2.1 = some .boolean) (q : Q (some (.int (iI x)), M)) : mm_wp E me (pc, Lc, [.int (iI x)], M) Q :=
  wp_rt (res := (some (.int (iI x)), M)) ⟨.ireturn, n1, n2, n3, by rw [hc]; exact hi, rfl, _, .boolean, rfl, rfl, ht, by rcases hx with h | h <;> (rw [h]; rfl)⟩ q
end WV
theorem wi_b01 {E : mm_EV} {me pc : Nat} {cd : Nat → Option mm_In} {Lc : List (Option Value)} {r : List Value} {M : mm_M} {Q : mm_Rs → Prop} {x o1 o2 : Int} {r2 r3 r4 r6 r7 r8 : Nat} (hc : (mm_CM me).2.2.2.2.2.2.2 = cd) (h1 : cd pc = some (.ifCond .eq o1, 3, pc + 7, r2)) (h2 : cd (pc + 3) = some (.iconst 1, 1, r3, r4)) (h3 : cd (pc + 4) = some (.goto o2, 3, pc + 8, r6)) (h4 : cd (pc + 7) = some (.iconst 0, 1, r7, r8)) (hx : x = 0 ∨ x = 1) (k : mm_wp E me (pc + 8, Lc, .int (iI x) :: r, M) Q) : mm_wp E me (pc, Lc, .int (iI x) :: r, M) Q := by
  rcases hx with hx | hx
  · subst hx
    refine wi_zeq hc h1 ⟨by decide, by decide⟩ (fun _ => ?_) (fun q => absurd rfl q)
    exact wi_ic hc h4 k
  · subst hx
    refine wi_zeq hc h1 ⟨by decide, by decide⟩ (fun q => absurd q (by decide)) (fun _ => ?_)
    exact wi_ic hc h2 (wi_go hc h3 k)
section WS
variable {E : mm_EV} {me pc r1 r2 L t : Nat} {cd : Nat → Option mm_In} {Lc : List (Option Value)} {r : List Value} {s l : Nat → Int → Int} {Q : mm_Rs → Prop} {v : Int} {a ci kf idx n : Nat} {ws : List Nat}
theorem wi_gfs {kz : Int} (hz : (kf : Int) = kz) (hk : mm_SH L t a = (ci, n, ws)) (hc : (mm_CM me).2.2.2.2.2.2.2 = cd) (hi : cd pc = some (.getfield idx, 3, ci, kf)) (h2 : a < 621) (h3 : kf < n) (h4 : ws.getD kf 0 = 0) {v : Int} (hv : s a kz = v) (k : mm_wp E me (pc + 3, Lc, .int (iI v) :: r, MX L t s l) Q) : mm_wp E me (pc, Lc, .ref a :: r, MX L t s l) Q := wi_gfv hz hc hi (by rw [hk]) h2 (by rw [hk]; exact h3) (by rw [hk]; exact h4) hv k
theorem wi_grs {w : Nat} (hk : mm_SH L t a = (ci, n, ws)) (hc : (mm_CM me).2.2.2.2.2.2.2 = cd) (hi : cd pc = some (.getfield idx, 3, ci, kf)) (h2 : a < 621) (h3 : kf < n) (h4 : ws.getD kf 0 = w + 3) (k : mm_wp E me (pc + 3, Lc, .ref w :: r, MX L t s l) Q) : mm_wp E me (pc, Lc, .ref a :: r, MX L t s l) Q := wi_gr hc hi (by rw [hk]) h2 (by rw [hk]; exact h3) (by rw [hk]; exact h4) k
theorem wi_pfs {kz : Int} (hz : (kf : Int) = kz) (hk : mm_SH L t a = (ci, n, ws)) (hc : (mm_CM me).2.2.2.2.2.2.2 = cd) (hi : cd pc = some (.putfield idx, 3, ci, kf)) (h2 : a < 621) (h3 : kf < n) (h4 : ws.getD kf 0 = 0) (h5 : kf < ws.length) (h6 : narrow (mm_tf ci kf) (.int (iI v)) = .int (iI v) ∧ fits (mm_tf ci kf) (.int (iI v)) = true) (h7 : mm_fi ci kf = false) (k : mm_wp E me (pc + 3, Lc, r, MX L t (up s a kz v) l) Q) : mm_wp E me (pc, Lc, .int (iI v) :: .ref a :: r, MX L t s l) Q := wi_pf hz hc hi (by rw [hk]) h2 (by rw [hk]; exact h3) (by rw [hk]; exact h4) (by rw [hk]; exact h5) h6 h7 k
end WS
/-! Kinds of cells that are told by a number. -/
/-- a text's cells -/
def KT (L t u : Nat) : Prop := u + 5 < 621 ∧ mm_SH L t u = (6, 8, [u + 4, u + 5, u + 6, u + 7, u + 8, 0, 0, 0]) ∧ mm_SH L t (u + 1) = (100, 24, []) ∧ mm_SH L t (u + 2) = (100, 72, []) ∧ mm_SH L t (u + 3) = (100, 300, []) ∧ mm_SH L t (u + 4) = (100, 8, []) ∧ mm_SH L t (u + 5) = (100, 8, [])
theorem kt_now {L t : Nat} {i : Int} (h0 : 0 ≤ i) (h1 : i < 4) : KT L t (265 + 6 * i.toNat) := by
  rcases (by omega : i = 0 ∨ i = 1 ∨ i = 2 ∨ i = 3) with h | h | h | h <;> (subst h; exact ⟨by decide, rfl, rfl, rfl, rfl, rfl, rfl⟩)
theorem kt_kept {L t : Nat} {i : Int} (h0 : 0 ≤ i) (h1 : i < 4) : KT L t (553 + 6 * i.toNat) := by
  rcases (by omega : i = 0 ∨ i = 1 ∨ i = 2 ∨ i = 3) with h | h | h | h <;> (subst h; exact ⟨by decide, rfl, rfl, rfl, rfl, rfl, rfl⟩)
theorem sh_text {L t : Nat} {x : Int} (h0 : 0 ≤ x) (h1 : x < 4) : (mm_SH L t 23).2.2.getD x.toNat 2 = 265 + 6 * x.toNat + 3 := by
  rcases (by omega : x = 0 ∨ x = 1 ∨ x = 2 ∨ x = 3) with h | h | h | h <;> (subst h; rfl)
theorem sh_rows {L t : Nat} {x : Int} (h0 : 0 ≤ x) (h1 : x < 3) : mm_SH L t (4 + x.toNat) = (100, 10, []) := by
  rcases (by omega : x = 0 ∨ x = 1 ∨ x = 2) with h | h | h <;> (subst h; rfl)
theorem sh_row3 {L t : Nat} {x : Int} (h0 : 0 ≤ x) (h1 : x < 3) : (mm_SH L t 3).2.2.getD x.toNat 2 = 4 + x.toNat + 3 := by
  rcases (by omega : x = 0 ∨ x = 1 ∨ x = 2) with h | h | h <;> (subst h; rfl)
theorem sh_traits {L t : Nat} {x : Int} (h0 : 0 ≤ x) (h1 : x < 10) : mm_SH L t (13 + x.toNat) = (100, 5, []) := by
  rcases (by omega : x = 0 ∨ x = 1 ∨ x = 2 ∨ x = 3 ∨ x = 4 ∨ x = 5 ∨ x = 6 ∨ x = 7 ∨ x = 8 ∨ x = 9) with h | h | h | h | h | h | h | h | h | h <;> (subst h; rfl)
theorem sh_trait12 {L t : Nat} {x : Int} (h0 : 0 ≤ x) (h1 : x < 10) : (mm_SH L t 12).2.2.getD x.toNat 2 = 13 + x.toNat + 3 := by
  rcases (by omega : x = 0 ∨ x = 1 ∨ x = 2 ∨ x = 3 ∨ x = 4 ∨ x = 5 ∨ x = 6 ∨ x = 7 ∨ x = 8 ∨ x = 9) with h | h | h | h | h | h | h | h | h | h <;> (subst h; rfl)
