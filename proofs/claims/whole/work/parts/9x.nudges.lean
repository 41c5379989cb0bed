/-! FEWEST NUDGES: the mathematics. -/
def swP (p x : Int) : Int := if x = p then p + 1 else if x = p + 1 then p else x
/-- how far the two are from the told places -/
def hD (o P OP pb po : Int) : Int :=
  if o = -1 then absI (P - pb)
  else if (pb < po ↔ P < OP) then absI (P - pb) + absI (OP - po)
  else 1 + absI (P - pb - (if pb < po then 1 else -1)) + absI (OP - po + (if pb < po then 1 else -1))
theorem hD_nn (o P OP pb po : Int) : 0 ≤ hD o P OP pb po := by
  unfold hD absI
  (repeat' split) <;> omega
theorem hD_0 {o P OP pb po : Int} (hne : o ≠ -1 → pb ≠ po ∧ P ≠ OP) : hD o P OP pb po = 0 ↔ pb = P ∧ (o = -1 ∨ po = OP) := by
  have h1 := absI_spec (P - pb)
  have h2 := absI_spec (OP - po)
  have h3 := absI_spec (P - pb - (if pb < po then 1 else -1))
  have h4 := absI_spec (OP - po + (if pb < po then 1 else -1))
  unfold hD
  by_cases z : o = -1
  · rw [if_pos z]; omega
  · rw [if_neg z]
    have := hne z
    split <;> omega
theorem hD_one (P OP pb po p : Int) : hD (-1) P OP pb po - 1 ≤ hD (-1) P OP (swP p pb) (swP p po) := by
  unfold hD
  rw [if_pos rfl, if_pos rfl]
  have h1 := absI_spec (P - pb)
  have h2 := absI_spec (P - swP p pb)
  have h3 : swP p pb = pb ∨ swP p pb = pb + 1 ∨ swP p pb = pb - 1 := by unfold swP; (repeat' split) <;> omega
  omega
theorem hD_step {o P OP pb po p : Int} (hne : o ≠ -1 → pb ≠ po ∧ P ≠ OP) : hD o P OP pb po - 1 ≤ hD o P OP (swP p pb) (swP p po) := by
  by_cases z : o = -1
  · rw [z]; exact hD_one P OP pb po p
  · have hn := hne z
    have e1 : hD o P OP pb po = if (pb < po ↔ P < OP) then absI (P - pb) + absI (OP - po) else 1 + absI (P - pb - (if pb < po then 1 else -1)) + absI (OP - po + (if pb < po then 1 else -1)) := if_neg z
    have e2 : ∀ a b, hD o P OP a b = if (a < b ↔ P < OP) then absI (P - a) + absI (OP - b) else 1 + absI (P - a - (if a < b then 1 else -1)) + absI (OP - b + (if a < b then 1 else -1)) := fun a b => if_neg z
    rw [e1, e2]
    unfold swP absI
    by_cases c1 : pb = p
    · rw [if_pos c1]
      by_cases c2 : po = p + 1
      · rw [if_neg (show ¬ po = p by omega), if_pos c2]
        (repeat' split) <;> omega
      · rw [if_neg (show ¬ po = p by omega), if_neg c2]
        (repeat' split) <;> omega
    · rw [if_neg c1]
      by_cases c2 : pb = p + 1
      · rw [if_pos c2]
        by_cases c3 : po = p
        · rw [if_pos c3]
          (repeat' split) <;> omega
        · rw [if_neg c3, if_neg (show ¬ po = p + 1 by omega)]
          (repeat' split) <;> omega
      · rw [if_neg c2]
        by_cases c3 : po = p
        · rw [if_pos c3]
          (repeat' split) <;> omega
        · rw [if_neg c3]
          by_cases c4 : po = p + 1
          · rw [if_pos c4]
            (repeat' split) <;> omega
          · rw [if_neg c4]
            omega
theorem swP_at (p : Int) : swP p p = p + 1 := if_pos rfl
theorem swP_up (p : Int) : swP p (p + 1) = p := by
  unfold swP
  rw [if_neg (by omega), if_pos rfl]
theorem swP_dn (p : Int) : swP (p - 1) p = p - 1 := by
  unfold swP
  rw [if_neg (by omega), if_pos (by omega)]
theorem swP_no {p x : Int} (h : x ≠ p) (g : x ≠ p + 1) : swP p x = x := by
  unfold swP
  rw [if_neg h, if_neg g]
theorem hD_down {o P OP pb po n : Int} (hne : o ≠ -1 → pb ≠ po ∧ P ≠ OP) (b0 : 0 ≤ pb) (b1 : pb < n) (P0 : 0 ≤ P) (P1 : P < n) (ho : o ≠ -1 → (0 ≤ po ∧ po < n) ∧ 0 ≤ OP ∧ OP < n) (hh : hD o P OP pb po ≠ 0) : ∃ p, 0 ≤ p ∧ p + 1 < n ∧ hD o P OP (swP p pb) (swP p po) = hD o P OP pb po - 1 := by
  by_cases z : o = -1
  · subst z
    have e : ∀ a b, hD (-1) P OP a b = absI (P - a) := fun a b => if_pos rfl
    rw [e] at hh
    rcases (by unfold absI at hh; split at hh <;> omega : pb < P ∨ P < pb) with c | c
    · refine ⟨pb, b0, by omega, ?_⟩
      rw [e, e, swP_at]
      unfold absI
      (repeat' split) <;> omega
    · refine ⟨pb - 1, by omega, by omega, ?_⟩
      rw [e, e, swP_dn]
      unfold absI
      (repeat' split) <;> omega
  · have hn := hne z
    have hr := ho z
    have e : ∀ a b, hD o P OP a b = if (a < b ↔ P < OP) then absI (P - a) + absI (OP - b) else 1 + absI (P - a - (if a < b then 1 else -1)) + absI (OP - b + (if a < b then 1 else -1)) := fun a b => if_neg z
    have s1 : ∀ a b, (a < b ↔ P < OP) → hD o P OP a b = absI (P - a) + absI (OP - b) := fun a b h => by rw [e, if_pos h]
    have s2 : ∀ a b, ¬ (a < b ↔ P < OP) → hD o P OP a b = 1 + absI (P - a - (if a < b then 1 else -1)) + absI (OP - b + (if a < b then 1 else -1)) := fun a b h => by rw [e, if_neg h]
    by_cases c : (pb < po ↔ P < OP)
    · have v := s1 pb po c
      rw [v] at hh ⊢
      by_cases c1 : pb < P ∧ pb + 1 ≠ po
      · refine ⟨pb, b0, by omega, ?_⟩
        rw [swP_at, swP_no (p := pb) (x := po) (by omega) (by omega), s1 _ _ (by omega)]
        unfold absI
        (repeat' split) <;> omega
      · by_cases c2 : P < pb ∧ pb - 1 ≠ po
        · refine ⟨pb - 1, by omega, by omega, ?_⟩
          rw [swP_dn, swP_no (p := pb - 1) (x := po) (by omega) (by omega), s1 _ _ (by omega)]
          unfold absI
          (repeat' split) <;> omega
        · by_cases c3 : po < OP ∧ po + 1 ≠ pb
          · refine ⟨po, by omega, by omega, ?_⟩
            rw [swP_at, swP_no (p := po) (x := pb) (by omega) (by omega), s1 _ _ (by omega)]
            unfold absI
            (repeat' split) <;> omega
          · refine ⟨po - 1, by unfold absI at hh; (repeat' split at hh) <;> omega, by omega, ?_⟩
            rw [swP_dn, swP_no (p := po - 1) (x := pb) (by unfold absI at hh; (repeat' split at hh) <;> omega) (by unfold absI at hh; (repeat' split at hh) <;> omega), s1 _ _ (by unfold absI at hh; (repeat' split at hh) <;> omega)]
            unfold absI at hh ⊢
            (repeat' split at hh) <;> (repeat' split) <;> omega
    · have v := s2 pb po c
      rw [v] at hh ⊢
      by_cases a : pb < po
      · rw [if_pos a]
        by_cases c1 : pb + 1 = po
        · refine ⟨pb, b0, by omega, ?_⟩
          rw [swP_at, ← c1, swP_up, s1 _ _ (by omega)]
          unfold absI
          (repeat' split) <;> omega
        · by_cases c2 : pb + 1 < P
          · refine ⟨pb, b0, by omega, ?_⟩
            rw [swP_at, swP_no (p := pb) (x := po) (by omega) (by omega), s2 _ _ (by omega), if_pos (show pb + 1 < po by omega)]
            unfold absI
            (repeat' split) <;> omega
          · refine ⟨po - 1, by omega, by omega, ?_⟩
            rw [swP_dn, swP_no (p := po - 1) (x := pb) (by omega) (by omega), s2 _ _ (by omega), if_pos (show pb < po - 1 by omega)]
            unfold absI
            (repeat' split) <;> omega
      · rw [if_neg a]
        by_cases c1 : po + 1 = pb
        · refine ⟨po, by omega, by omega, ?_⟩
          rw [swP_at, ← c1, swP_up, s1 _ _ (by omega)]
          unfold absI
          (repeat' split) <;> omega
        · by_cases c2 : po + 1 < OP
          · refine ⟨po, by omega, by omega, ?_⟩
            rw [swP_at, swP_no (p := po) (x := pb) (by omega) (by omega), s2 _ _ (by omega), if_neg (show ¬ pb < po + 1 by omega)]
            unfold absI
            (repeat' split) <;> omega
          · refine ⟨pb - 1, by omega, by omega, ?_⟩
            rw [swP_dn, swP_no (p := pb - 1) (x := po) (by omega) (by omega), s2 _ _ (by omega), if_neg (show ¬ pb - 1 < po by omega)]
            unfold absI
            (repeat' split) <;> omega
theorem psF_mv {f : Int → Int} {n p b : Int} (hi : injF f n) (hp : 0 ≤ p ∧ p + 1 < n) (h : ∃ q, 0 ≤ q ∧ q < n ∧ f q = b) : psF (mvF f p) n b = swP p (psF f n b) := by
  have g := psF_ok hi h
  refine psF_at (hi.mv (Or.inr hp)) ?_ ?_ ?_
  · unfold swP; (repeat' split) <;> omega
  · unfold swP; (repeat' split) <;> omega
  · unfold mvF
    rw [if_neg (show ¬ p = -1 by omega)]
    by_cases a : psF f n b = p
    · rw [a, swP_at, if_neg (by omega), if_pos rfl, ← a]; exact g.2.2.1
    · by_cases c : psF f n b = p + 1
      · rw [c, swP_up, if_pos rfl, ← c]; exact g.2.2.1
      · rw [swP_no a c, if_neg a, if_neg c]; exact g.2.2.1
/-- the places of a book in an order -/
def poI (m : Nat) (e k : Int) : Int := psF (dgI m k) m e
theorem poI_nd {m : Nat} (hm : m < 7) {k p e : Int} (k0 : 0 ≤ k) (k1 : k < fct m) (hp : 0 ≤ p ∧ p + 1 < (m : Int)) (e0 : 0 ≤ e) (e1 : e < m) : poI m e (ndO m k p) = swP p (poI m e k) := by
  have h := nd_ok hm k0 k1 (p := p) (Or.inr hp)
  unfold poI
  rw [psF_congr h.2]
  exact psF_mv (dg_ok hm k0 k1).2.1 hp (dg_mem hm k0 k1 e0 e1)
theorem poI_ok {m : Nat} (hm : m < 7) {k e : Int} (k0 : 0 ≤ k) (k1 : k < fct m) (e0 : 0 ≤ e) (e1 : e < m) : (0 ≤ poI m e k ∧ poI m e k < m) ∧ dgI m k (poI m e k) = e := by
  have h := psF_ok (dg_ok hm k0 k1).2.1 (dg_mem hm k0 k1 e0 e1)
  exact ⟨⟨h.1, h.2.1⟩, h.2.2.1⟩
theorem poI_ne {m : Nat} (hm : m < 7) {k e g : Int} (k0 : 0 ≤ k) (k1 : k < fct m) (e0 : 0 ≤ e) (e1 : e < m) (g0 : 0 ≤ g) (g1 : g < m) (h : e ≠ g) : poI m e k ≠ poI m g k := fun q => by
  have a := (poI_ok hm k0 k1 e0 e1).2
  have b := (poI_ok hm k0 k1 g0 g1).2
  rw [q, b] at a
  exact h a.symm
