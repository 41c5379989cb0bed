/-! What a step keeps. -/
theorem mm_if_or (c : Jvm.ClassFile.Cond) (x : Int32) (a b : mm_St) : mm_if c x a b = a ∨ mm_if c x a b = b := by
  cases c <;> simp only [mm_if] <;> split <;> simp
theorem mm_ic_or (c : Jvm.ClassFile.Cond) (x y : Int32) (a b : mm_St) : mm_ic c x y a b = a ∨ mm_ic c x y a b = b := by
  cases c <;> simp only [mm_ic] <;> split <;> simp
set_option maxHeartbeats 4000000 in
theorem mm_exe_M {i : Instr} {ln r1 r2 pc : Nat} {L : List (Option Value)} {st : List Value} {M : mm_M} {z : mm_St} (h : mm_exe i ln r1 r2 pc L st M = some z) : z.2.2.2 = M := by
  unfold mm_exe at h
  split at h <;> first
    | (cases h; done)
    | (cases h; rfl)
    | (unfold mm_ld at h; split at h <;> cases h <;> rfl)
    | (unfold mm_sto at h; split at h <;> (try split at h) <;> cases h <;> rfl)
    | (unfold mm_ii at h; split at h <;> cases h <;> rfl)
    | (unfold mm_ll at h; split at h <;> cases h <;> rfl)
    | (unfold mm_li at h; split at h <;> cases h <;> rfl)
    | (unfold mm_br at h; split at h
       · cases h
         rcases mm_if_or _ _ _ _ with q | q <;> rw [q]
       · cases h)
    | (unfold mm_bb at h; split at h
       · cases h
         rcases mm_ic_or _ _ _ _ _ with q | q <;> rw [q]
       · cases h)
    | (split at h
       · cases h
         rw [mm_swl_L]
       · cases h)
    | (split at h <;> cases h <;> rfl)
    | (split at h <;> (try split at h) <;> cases h <;> rfl)
theorem mm_Kp_al {M : mm_M} {k len sl : Nat} {tm : List Nat} (hn : M.2.1.1 < 1000000) : mm_Kp M (mm_al M k len sl tm) := by
  refine ⟨Nat.le_succ _, Nat.le_add_right _ _, fun _ => hn, fun a ha _ => ⟨mm_u1_ne (by omega), mm_u1_ne (by omega)⟩⟩
theorem mm_Kp_mn {M : mm_M} {N K : Nat} (hn : M.2.1.1 + 1 + N < 1000000) : mm_Kp M (mm_mn M N K) := by
  refine ⟨?_, ?_, fun _ => ?_, fun a ha _ => ⟨?_, ?_⟩⟩
  · show M.2.1.1 ≤ M.2.1.1 + 1 + N
    omega
  · show M.2.1.2 ≤ M.2.1.2 + N + N * K
    omega
  · show M.2.1.1 + 1 + N ≤ 1000000
    omega
  · simp only [mm_mn]
    rw [if_neg (by omega), if_neg (by omega)]
  · simp only [mm_mn]
    rw [if_neg (by omega)]
theorem mm_Kp_ca {CM : Nat → mm_Me} {E : mm_EV} (hE : ∀ me vs M res, E me vs M res → mm_Kp M res.2) {r1 pc : Nat} {L : List (Option Value)} {M : mm_M} {As r : List Value} {self : Option Nat} {z' : mm_St} (h : mm_ca CM E r1 pc L M As r self z') : mm_Kp M z'.2.2.2 := by
  obtain ⟨res, -, -, h1, rfl⟩ := h
  cases self with
  | none => exact hE _ _ _ _ h1
  | some b => exact hE _ _ _ _ h1
theorem mm_Kp_st {ct : mm_CT} {CM : Nat → mm_Me} {E : mm_EV} (hE : ∀ me vs M res, E me vs M res → mm_Kp M res.2) {b : Bool} {i : Instr} {ln r1 r2 : Nat} {z z' : mm_St} (h : mm_Sr ct CM E b i ln r1 r2 z z') : mm_Kp z.2.2.2 z'.2.2.2 := by
  unfold mm_Sr at h
  split at h
  · obtain ⟨a, ix, r, -, -, rfl⟩ := h; exact mm_Kp.rf
  · obtain ⟨a, ix, r, -, -, rfl⟩ := h; exact mm_Kp.rf
  · obtain ⟨a, ix, r, -, -, rfl⟩ := h; exact mm_Kp.rf
  · obtain ⟨a, k, ix, r, -, -, -, -, rfl⟩ := h; exact mm_Kp.rf
  · obtain ⟨a, ix, x, r, -, h1, rfl⟩ := h
    exact ⟨Nat.le_refl _, Nat.le_refl _, fun q => q, fun b hb hn => ⟨rfl, mm_u2_ne (by have := h1.2.1; omega)⟩⟩
  · obtain ⟨a, ix, x, r, -, h1, rfl⟩ := h
    exact ⟨Nat.le_refl _, Nat.le_refl _, fun q => q, fun b hb hn => ⟨rfl, mm_u2_ne (by have := h1.2.1; omega)⟩⟩
  · obtain ⟨a, ix, x, r, -, h1, rfl⟩ := h
    exact ⟨Nat.le_refl _, Nat.le_refl _, fun q => q, fun b hb hn => ⟨rfl, rfl⟩⟩
  · obtain ⟨a, v, k, ix, r, -, -, -, h1, -, -, -, rfl⟩ := h
    exact ⟨Nat.le_refl _, Nat.le_refl _, fun q => q, fun b hb hn => ⟨mm_u1_ne (by have := h1.2.1; omega), rfl⟩⟩
  · obtain ⟨a, v, r, M', -, h1, h2, -, -, -, rfl⟩ := h
    obtain ⟨g, en, -, -, -, -, e5⟩ := mm_put_E h1 h2
    have en1 : M'.2.1 = z.2.2.2.2.1 := en
    refine ⟨by show _ ≤ M'.2.1.1; rw [en1]; exact Nat.le_refl _, by show _ ≤ M'.2.1.2; rw [en1]; exact Nat.le_refl _, fun q => by show M'.2.1.1 ≤ _; rw [en1]; exact q, fun b hb hn => ?_⟩
    obtain ⟨k1, k2, -⟩ := e5 b (by have := g.2.1; omega)
    exact ⟨k1, k2⟩
  · obtain ⟨h1, rfl⟩ := h; exact mm_Kp_al h1
  · obtain ⟨x, r, -, -, -, h1, -, rfl⟩ := h; exact mm_Kp_al h1
  · obtain ⟨x, r, -, -, -, h1, rfl⟩ := h; exact mm_Kp_al h1
  · obtain ⟨n, k, r, -, -, -, -, h1, rfl⟩ := h; exact mm_Kp_mn h1
  · rcases h with h | ⟨a, r, -, -, -, rfl⟩
    · rw [mm_exe_M h]; exact mm_Kp.rf
    · exact mm_Kp.rf
  · obtain ⟨q, -, rfl⟩ := h; exact mm_Kp.rf
  · split at h
    · obtain ⟨a0, a, sp, dp, n, r, -, -, -, -, h1, -, -, -, -, -, -, rfl⟩ := h
      exact ⟨Nat.le_refl _, Nat.le_refl _, fun q => q, fun b hb hn => ⟨rfl, mm_u1_ne (by omega)⟩⟩
    · split at h
      · obtain ⟨x, y, v, r, -, -, -, -, rfl⟩ := h; exact mm_Kp.rf
      · obtain ⟨As, r, -, h⟩ := h; exact mm_Kp_ca hE h
  · split at h
    · obtain ⟨a, r, -, -, h⟩ := h
      rcases h with ⟨-, -, rfl⟩ | ⟨-, j, -, -, rfl⟩ | ⟨-, j, -, -, rfl⟩ <;> exact mm_Kp.rf
    · obtain ⟨As, r, b, -, -, -, h⟩ := h; exact mm_Kp_ca hE h
  · split at h
    · obtain ⟨b, r, -, -, rfl⟩ := h; exact mm_Kp.rf
    · obtain ⟨As, r, b, -, h⟩ := h; exact mm_Kp_ca hE h
  · rcases h with h | ⟨-, -, rfl⟩
    · rw [mm_exe_M h]; exact mm_Kp.rf
    · exact mm_Kp.rf
  · rw [mm_exe_M h]; exact mm_Kp.rf
theorem mm_Kp_rn {ct : mm_CT} {CM : Nat → mm_Me} {E : mm_EV} (hE : ∀ me vs M res, E me vs M res → mm_Kp M res.2) {me : Nat} : ∀ (n : Nat) (z : mm_St) (res : mm_Rs), mm_Rn ct CM E me n z res → mm_Kp z.2.2.2 res.2
  | 0, _, _, h => h.elim
  | n + 1, z, res, h => by
    rcases h with ⟨i, ln, r1, r2, -, h, -⟩ | ⟨z', ⟨i, ln, r1, r2, -, h⟩, g⟩
    · rw [h]; exact mm_Kp.rf
    · exact (mm_Kp_st hE h).tr (mm_Kp_rn hE n z' res g)
theorem mm_Kp_ev {ct : mm_CT} {CM : Nat → mm_Me} : ∀ (d : Nat) (me : Nat) (vs : List Value) (M : mm_M) (res : mm_Rs), mm_Ev ct CM d me vs M res → mm_Kp M res.2
  | 0, _, _, _, _, h => h.elim
  | d + 1, me, vs, M, res, h => by
    obtain ⟨-, -, n, h⟩ := h
    exact mm_Kp_rn (mm_Kp_ev d) n _ _ h
