/-! Every run keeps: in a scene's cell slot 5 holds 0 or 1. -/
def BZ (M : mm_M) : Prop := ∀ a, a < M.2.1.1 → (M.1 a).1 = 5 → (M.2.2.1 a 5 = 0 ∨ M.2.2.1 a 5 = 1)
theorem bz_fits {v : Int32} (h : fits .boolean (.int v) = true) : v = 0 ∨ v = 1 := by
  have h : (v == 0 || v == 1) = true := h
  rcases (Bool.or_eq_true _ _).mp h with g | g
  · exact Or.inl (by simpa using g)
  · exact Or.inr (by simpa using g)
theorem bz_al {M : mm_M} {k len sl : Nat} {tm : List Nat} (h : BZ M) : BZ (mm_al M k len sl tm) := by
  intro b hb hk
  have hb : b < M.2.1.1 + 1 := hb
  by_cases e : b = M.2.1.1
  · left
    show (mm_u1 M.2.2.1 M.2.1.1 (fun _ => 0)) b 5 = 0
    unfold mm_u1
    rw [if_pos e]
  · have hk : (mm_u1 M.1 M.2.1.1 (k, len, tm) b).1 = 5 := hk
    rw [mm_u1_ne e] at hk
    show (mm_u1 M.2.2.1 M.2.1.1 (fun _ => 0)) b 5 = 0 ∨ (mm_u1 M.2.2.1 M.2.1.1 (fun _ => 0)) b 5 = 1
    rw [mm_u1_ne e]
    exact h b (by omega) hk
theorem bz_mn {M : mm_M} {N K : Nat} (h : BZ M) : BZ (mm_mn M N K) := by
  intro b hb hk
  have hb : b < M.2.1.1 + 1 + N := hb
  by_cases e : M.2.1.1 ≤ b
  · left
    simp only [mm_mn]
    rw [if_pos ⟨e, hb⟩]
  · simp only [mm_mn] at hk ⊢
    rw [if_neg (by omega), if_neg (by omega)] at hk
    rw [if_neg (by omega)]
    exact h b (by omega) hk
theorem bz_u2 {M : mm_M} {a k : Nat} {x : Int32} {f : Nat → Nat → Int64} (h : BZ M) (hne : (M.1 a).1 = 5 → k = 5 → x = 0 ∨ x = 1) : BZ (M.1, M.2.1, mm_u2 M.2.2.1 a k x, f) := by
  intro b hb hk
  show mm_u2 M.2.2.1 a k x b 5 = 0 ∨ mm_u2 M.2.2.1 a k x b 5 = 1
  unfold mm_u2
  by_cases e : b = a
  · rw [if_pos e]
    by_cases e2 : 5 = k
    · rw [if_pos e2]
      exact hne (by rw [← e]; exact hk) e2.symm
    · rw [if_neg e2]
      exact h b hb hk
  · rw [if_neg e]
    exact h b hb hk
theorem bz_put {M M' : mm_M} {a ci k : Nat} {v : Value} (h : BZ M) (hp : mm_put M a ci k v = some M') (hf : fits (mm_tf ci k) v = true) : BZ M' := by
  unfold mm_put at hp
  split at hp
  · rename_i g
    split at hp
    · rename_i x e1
      cases hp
      refine bz_u2 h (fun q1 q2 => ?_)
      rw [g.1] at q1
      subst q1 q2
      exact bz_fits hf
    · cases hp; exact h
    · cases hp
      intro b hb hk
      refine h b hb ?_
      have hk : (mm_u1 M.1 a _ b).1 = 5 := hk
      unfold mm_u1 at hk
      by_cases e : b = a
      · rw [if_pos e] at hk; rw [e]; exact hk
      · rw [if_neg e] at hk; exact hk
    · cases hp
      intro b hb hk
      refine h b hb ?_
      have hk : (mm_u1 M.1 a _ b).1 = 5 := hk
      unfold mm_u1 at hk
      by_cases e : b = a
      · rw [if_pos e] at hk; rw [e]; exact hk
      · rw [if_neg e] at hk; exact hk
    · cases hp
  · cases hp
theorem bz_ca {CM : Nat → mm_Me} {E : mm_EV} (hE : ∀ me vs M res, E me vs M res → BZ M → BZ res.2) {r1 pc : Nat} {L : List (Option Value)} {M : mm_M} {As r : List Value} {self : Option Nat} {z' : mm_St} (h : mm_ca CM E r1 pc L M As r self z') (hB : BZ M) : BZ z'.2.2.2 := by
  obtain ⟨res, -, -, h1, rfl⟩ := h
  cases self with
  | none => exact hE _ _ _ _ h1 hB
  | some b => exact hE _ _ _ _ h1 hB
theorem bz_st {CM : Nat → mm_Me} {E : mm_EV} (hE : ∀ me vs M res, E me vs M res → BZ M → BZ res.2) {b : Bool} {i : Instr} {ln r1 r2 : Nat} {z z' : mm_St} (h : mm_Sr mm_ct CM E b i ln r1 r2 z z') (hB : BZ z.2.2.2) : BZ z'.2.2.2 := by
  unfold mm_Sr at h
  split at h
  · obtain ⟨a, ix, r, -, -, rfl⟩ := h; exact hB
  · obtain ⟨a, ix, r, -, -, rfl⟩ := h; exact hB
  · obtain ⟨a, ix, r, -, -, rfl⟩ := h; exact hB
  · obtain ⟨a, k, ix, r, -, -, -, -, rfl⟩ := h; exact hB
  · obtain ⟨a, ix, x, r, -, h1, rfl⟩ := h
    exact bz_u2 hB (fun q _ => by have := h1.1; omega)
  · obtain ⟨a, ix, x, r, -, h1, rfl⟩ := h
    exact bz_u2 hB (fun q _ => by have := h1.1; omega)
  · obtain ⟨a, ix, x, r, -, h1, rfl⟩ := h
    exact hB
  · obtain ⟨a, v, k, ix, r, -, -, -, h1, -, -, -, rfl⟩ := h
    intro b hb hk
    refine hB b hb ?_
    have hk : (mm_u1 z.2.2.2.1 a _ b).1 = 5 := hk
    unfold mm_u1 at hk
    by_cases e : b = a
    · rw [if_pos e] at hk; rw [e]; exact hk
    · rw [if_neg e] at hk; exact hk
  · obtain ⟨a, v, r, M', -, h1, h2, -, hf, -, rfl⟩ := h
    exact bz_put hB h1 hf
  · obtain ⟨h1, rfl⟩ := h; exact bz_al hB
  · obtain ⟨x, r, -, -, -, h1, -, rfl⟩ := h; exact bz_al hB
  · obtain ⟨x, r, -, -, -, h1, rfl⟩ := h; exact bz_al hB
  · obtain ⟨n, k, r, -, -, -, -, h1, rfl⟩ := h; exact bz_mn hB
  · rcases h with h | ⟨a, r, -, -, -, rfl⟩
    · rw [mm_exe_M h]; exact hB
    · exact hB
  · obtain ⟨q, -, rfl⟩ := h; exact hB
  · split at h
    · obtain ⟨a0, a, sp, dp, n, r, -, -, -, -, h1, h2, -, -, -, -, -, rfl⟩ := h
      intro b hb hk
      have hk : (z.2.2.2.1 b).1 = 5 := hk
      have e : b ≠ a := fun e => by rw [e] at hk; omega
      show mm_u1 z.2.2.2.2.2.1 a _ b 5 = 0 ∨ mm_u1 z.2.2.2.2.2.1 a _ b 5 = 1
      rw [mm_u1_ne e]
      exact hB b hb hk
    · split at h
      · obtain ⟨x, y, v, r, -, -, -, -, rfl⟩ := h; exact hB
      · obtain ⟨As, r, -, h⟩ := h; exact bz_ca hE h hB
  · split at h
    · obtain ⟨a, r, -, -, h⟩ := h
      rcases h with ⟨-, -, rfl⟩ | ⟨-, j, -, -, rfl⟩ | ⟨-, j, -, -, rfl⟩ <;> exact hB
    · obtain ⟨As, r, b, -, -, -, h⟩ := h; exact bz_ca hE h hB
  · split at h
    · obtain ⟨b, r, -, -, rfl⟩ := h; exact hB
    · obtain ⟨As, r, b, -, h⟩ := h; exact bz_ca hE h hB
  · rcases h with h | ⟨-, -, rfl⟩
    · rw [mm_exe_M h]; exact hB
    · exact hB
  · rw [mm_exe_M h]; exact hB
theorem bz_rn {CM : Nat → mm_Me} {E : mm_EV} (hE : ∀ me vs M res, E me vs M res → BZ M → BZ res.2) {me : Nat} : ∀ (n : Nat) (z : mm_St) (res : mm_Rs), mm_Rn mm_ct CM E me n z res → BZ z.2.2.2 → BZ res.2
  | 0, _, _, h, _ => h.elim
  | n + 1, z, res, h, hB => by
    rcases h with ⟨i, ln, r1, r2, -, h, -⟩ | ⟨z', ⟨i, ln, r1, r2, -, h⟩, g⟩
    · rw [h]; exact hB
    · exact bz_rn hE n z' res g (bz_st hE h hB)
theorem bz_ev {CM : Nat → mm_Me} : ∀ (d : Nat) (me : Nat) (vs : List Value) (M : mm_M) (res : mm_Rs), mm_Ev mm_ct CM d me vs M res → BZ M → BZ res.2
  | 0, _, _, _, _, h, _ => h.elim
  | d + 1, me, vs, M, res, h, hB => by
    obtain ⟨-, -, n, h⟩ := h
    exact bz_rn (bz_ev d) n _ _ h hB
/-- the same of the memory by whole numbers -/
def WZ (s : Nat → Int → Int) : Prop := ∀ c k, c = 2 ∨ c = 290 ∨ (c = 25 + 8 * k ∧ k < 30) ∨ (c = 313 + 8 * k ∧ k < 30) → (iI (s c 5) = 0 ∨ iI (s c 5) = 1)
