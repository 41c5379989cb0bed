/-! The class's clause. -/
def CSl (t : Nat) (s : Nat → Int → Int) (G : Int → Int) (slot so la : Int) : Prop := (rcHas G so la < 0 → s (t + 4) slot = 0 ∧ s (t + 5) slot = 0) ∧ (0 ≤ rcHas G so la → s (t + 4) slot = G (3 + 4 * rcHas G so la) ∧ s (t + 5) slot = G (4 + 4 * rcHas G so la))
/-- the class's text beside the table -/
def CG (t : Nat) (s : Nat → Int → Int) (G : Int → Int) : Prop := s t 5 = G 0 ∧ (0 ≤ G 0 ∧ G 0 ≤ 24) ∧
  (∀ q, 0 ≤ q → q < G 0 → s (t + 1) q = wdS (G (1 + 4 * q)) ∧ ((G (1 + 4 * q) = 0 ∨ (3 ≤ G (1 + 4 * q) ∧ G (1 + 4 * q) ≤ 7)) → s (t + 2) (3 * q) = G (2 + 4 * q)) ∧ ((G (1 + 4 * q) = 5 ∨ G (1 + 4 * q) = 7) → s (t + 2) (3 * q + 1) = G (3 + 4 * q)) ∧ (G (1 + 4 * q) = 7 → s (t + 2) (3 * q + 2) = G (4 + 4 * q))) ∧
  (∀ la, 0 ≤ la → la < 6 → CSl t s G la 0 la) ∧ CSl t s G 6 1 0 ∧ CSl t s G 7 2 0 ∧ (s t 7 = if rcHas G 3 0 < 0 then 0 else G (2 + 4 * rcHas G 3 0))
/-- the table's own bounds -/
def GTb (G : Int → Int) (c : Int) : Prop := 0 ≤ c ∧ c ≤ 300 ∧ ∀ q, 0 ≤ q → q < G 0 → (0 ≤ G (1 + 4 * q) ∧ G (1 + 4 * q) ≤ 9) ∧ (G (1 + 4 * q) = 0 → 0 ≤ G (2 + 4 * q) ∧ G (2 + 4 * q) ≤ 5) ∧ (G (1 + 4 * q) ≤ 2 → 0 ≤ G (3 + 4 * q) ∧ G (3 + 4 * q) < G (4 + 4 * q) ∧ G (4 + 4 * q) ≤ c) ∧ (G (1 + 4 * q) = 3 → 1 ≤ G (2 + 4 * q) ∧ G (2 + 4 * q) ≤ 2) ∧ (G (1 + 4 * q) = 4 → 1 ≤ G (2 + 4 * q) ∧ G (2 + 4 * q) ≤ 99) ∧ (G (1 + 4 * q) = 5 → (0 ≤ G (2 + 4 * q) ∧ G (2 + 4 * q) ≤ 2) ∧ 0 ≤ G (3 + 4 * q) ∧ G (3 + 4 * q) ≤ 9) ∧ (G (1 + 4 * q) = 6 → 0 ≤ G (2 + 4 * q) ∧ G (2 + 4 * q) ≤ 9) ∧ (G (1 + 4 * q) = 7 → (0 ≤ G (2 + 4 * q) ∧ G (2 + 4 * q) ≤ 9) ∧ (0 ≤ G (3 + 4 * q) ∧ G (3 + 4 * q) ≤ 2) ∧ 0 ≤ G (4 + 4 * q) ∧ G (4 + 4 * q) ≤ 9)
theorem CSl_r {t : Nat} {s : Nat → Int → Int} {G : Int → Int} {slot so la c : Int} (h : CSl t s G slot so la) (h0 : 0 ≤ G 0) (hI : GTb G c) (hso : 0 ≤ so ∧ so ≤ 2) : rI (s (t + 4) slot) ∧ rI (s (t + 5) slot) ∧ (s (t + 4) slot < s (t + 5) slot ↔ 0 ≤ rcHas G so la) := by
  obtain ⟨a1, a2, a3, a4⟩ := rcHas_r (G := G) (so := so) (la := la) h0
  obtain ⟨-, i1, hI⟩ := hI
  rcases (by omega : rcHas G so la < 0 ∨ 0 ≤ rcHas G so la) with g | g
  · obtain ⟨b1, b2⟩ := h.1 g
    rw [b1, b2]
    exact ⟨⟨by decide, by decide⟩, ⟨by decide, by decide⟩, ⟨fun e => absurd e (by decide), fun e => by omega⟩⟩
  · obtain ⟨b1, b2⟩ := h.2 g
    have e := (a3 g).1
    have q := (hI _ g a2).2.2.1 (by omega)
    rw [b1, b2]
    exact ⟨⟨by omega, by omega⟩, ⟨by omega, by omega⟩, ⟨fun _ => g, fun _ => by omega⟩⟩
theorem CG.ch {t : Nat} {s : Nat → Int → Int} {G : Int → Int} {c : Int} (h : CG t s G) (hI : GTb G c) : CH t s G := fun v v0 v1 => CSl_r (h.2.2.2.1 v v0 v1) h.2.1.1 hI (by omega)
def slt (so v : Int) : Int := if so = 0 then v else if so = 1 then 6 else 7
theorem CSl.add {t : Nat} {s s1 : Nat → Int → Int} {nm G : Int → Int} {so : Int} {z y : rpS} {slot so' la : Int} (h : CSl t s G slot so' la) (h0 : 0 ≤ G 0) (hG : ∀ q, 0 ≤ q → q < G 0 → 0 ≤ q) (hso' : 0 ≤ so' ∧ so' ≤ 2) (hno : so = so' ∧ (so' ≠ 0 ∨ nm z.1 = la) → rcHas G so' la < 0)
    (f : s1 (t + 4) slot = (if so = so' ∧ (so' ≠ 0 ∨ nm z.1 = la) then z.2.2 else s (t + 4) slot) ∧ s1 (t + 5) slot = (if so = so' ∧ (so' ≠ 0 ∨ nm z.1 = la) then y.2.2 else s (t + 5) slot)) : CSl t s1 (rcEnt nm G so z y) slot so' la := by
  obtain ⟨a1, a2, a3, a4⟩ := rcHas_r (G := G) (so := so') (la := la) h0
  unfold CSl
  rw [rcHas_ent h0]
  rcases (by omega : rcHas G so' la < 0 ∨ 0 ≤ rcHas G so' la) with g | g
  · rw [if_neg (by omega)]
    by_cases m : so = so' ∧ (so' ≠ 0 ∨ nm z.1 = la)
    · rw [if_pos m, if_pos m] at f
      rw [if_pos m, rcEnt_3 h0, rcEnt_4 h0, if_pos (by omega), if_pos (by omega)]
      exact ⟨fun e => by omega, fun _ => f⟩
    · rw [if_neg m, if_neg m] at f
      rw [if_neg m]
      exact ⟨fun _ => ⟨f.1.trans (h.1 g).1, f.2.trans (h.1 g).2⟩, fun e => absurd e (by decide)⟩
  · have m : ¬ (so = so' ∧ (so' ≠ 0 ∨ nm z.1 = la)) := fun e => by have := hno e; omega
    rw [if_neg m, if_neg m] at f
    rw [if_pos g, rcEnt_lo (by omega) (by omega), rcEnt_lo (by omega) (by omega)]
    exact ⟨fun e => by omega, fun _ => ⟨f.1.trans (h.2 g).1, f.2.trans (h.2 g).2⟩⟩
/-- a clause more -/
theorem CG.add {t : Nat} {s s1 : Nat → Int → Int} {nm G : Int → Int} {so : Int} {z y : rpS} (h : CG t s G) (hso : 0 ≤ so ∧ so ≤ 9) (hc : G 0 < 24) (h05 : so = 0 → 0 ≤ nm z.1 ∧ nm z.1 ≤ 5) (hno : (so = 0 → rcHas G 0 (nm z.1) < 0) ∧ (1 ≤ so ∧ so ≤ 3 → rcHas G so 0 < 0))
    (f5 : s1 t 5 = G 0 + 1) (fw : ∀ q, 0 ≤ q → q < G 0 → s1 (t + 1) q = s (t + 1) q) (fw2 : s1 (t + 1) (G 0) = wdS so) (fn : ∀ j, j < 3 * G 0 → s1 (t + 2) j = s (t + 2) j)
    (fn1 : (so = 0 ∨ (3 ≤ so ∧ so ≤ 7)) → s1 (t + 2) (3 * G 0) = nm z.1) (fn2 : (so = 5 ∨ so = 7) → s1 (t + 2) (3 * G 0 + 1) = nm (z.1 + 2)) (fn3 : so = 7 → s1 (t + 2) (3 * G 0 + 2) = nm (z.1 + 4))
    (fb : ∀ j, 0 ≤ j → j < 8 → s1 (t + 4) j = (if so ≤ 2 ∧ j = slt so (nm z.1) then z.2.2 else s (t + 4) j) ∧ s1 (t + 5) j = (if so ≤ 2 ∧ j = slt so (nm z.1) then y.2.2 else s (t + 5) j))
    (f7 : s1 t 7 = if so = 3 then nm z.1 else s t 7) : CG t s1 (rcEnt nm G so z y) := by
  obtain ⟨h5, ⟨h0, h24⟩, hq, hl, h6, h7, hn⟩ := h
  have hg9 : ∀ q, 0 ≤ q → q < G 0 → 0 ≤ q := fun q a _ => a
  refine ⟨by rw [rcEnt_0]; exact f5, by rw [rcEnt_0]; omega, fun q q0 q1 => ?_, fun la l0 l1 => ?_, ?_, ?_, ?_⟩
  · rw [rcEnt_0] at q1
    rcases (by omega : q < G 0 ∨ q = G 0) with g | g
    · rw [rcEnt_lo (by omega) (by omega), rcEnt_lo (by omega) (by omega), rcEnt_lo (by omega) (by omega), rcEnt_lo (by omega) (by omega)]
      obtain ⟨b1, b2, b3, b4⟩ := hq q q0 g
      exact ⟨(fw q q0 g).trans b1, fun e => (fn _ (by omega)).trans (b2 e), fun e => (fn _ (by omega)).trans (b3 e), fun e => (fn _ (by omega)).trans (b4 e)⟩
    · subst g
      rw [rcEnt_1 h0, rcEnt_2 h0, rcEnt_3 h0, rcEnt_4 h0]
      refine ⟨fw2, fn1, fun e => ?_, fun e => ?_⟩
      · rw [if_neg (by omega)]; exact fn2 e
      · rw [if_neg (by omega)]; exact fn3 e
  · refine (hl la l0 l1).add h0 hg9 (by omega) (fun e => ?_) ?_
    · have := hno.1 e.1
      rcases e.2 with q | q
      · exact absurd rfl q
      · rw [← q]; exact this
    · have f := fb la l0 (by omega)
      by_cases m : so = 0 ∧ ((0 : Int) ≠ 0 ∨ nm z.1 = la)
      · rw [if_pos (show so ≤ 2 ∧ la = slt so (nm z.1) from ⟨by omega, by rcases m.2 with q | q; exact absurd rfl q; unfold slt; rw [if_pos m.1]; exact q.symm⟩), if_pos (show so ≤ 2 ∧ la = slt so (nm z.1) from ⟨by omega, by rcases m.2 with q | q; exact absurd rfl q; unfold slt; rw [if_pos m.1]; exact q.symm⟩)] at f
        rw [if_pos m, if_pos m]; exact f
      · have m2 : ¬ (so ≤ 2 ∧ la = slt so (nm z.1)) := fun e => by
          by_cases q : so = 0
          · refine m ⟨q, Or.inr ?_⟩
            have := e.2
            unfold slt at this
            rw [if_pos q] at this
            exact this.symm
          · have := e.2
            unfold slt at this
            rw [if_neg q] at this
            split at this <;> omega
        rw [if_neg m2, if_neg m2] at f
        rw [if_neg m, if_neg m]; exact f
  · refine h6.add h0 hg9 (by omega) (fun e => ?_) ?_
    · have := hno.2 (by omega); rw [e.1] at this; exact this
    · have f := fb 6 (by decide) (by decide)
      by_cases m : so = 1 ∧ ((1 : Int) ≠ 0 ∨ nm z.1 = 0)
      · rw [if_pos (show so ≤ 2 ∧ (6 : Int) = slt so (nm z.1) from ⟨by omega, by unfold slt; rw [if_neg (by omega), if_pos m.1]⟩), if_pos (show so ≤ 2 ∧ (6 : Int) = slt so (nm z.1) from ⟨by omega, by unfold slt; rw [if_neg (by omega), if_pos m.1]⟩)] at f
        rw [if_pos m, if_pos m]; exact f
      · have m2 : ¬ (so ≤ 2 ∧ (6 : Int) = slt so (nm z.1)) := fun e => by
          have e2 := e.2
          unfold slt at e2
          by_cases q : so = 0
          · rw [if_pos q] at e2; have := h05 q; omega
          · rw [if_neg q] at e2
            by_cases q1 : so = 1
            · exact m ⟨q1, Or.inl (by decide)⟩
            · rw [if_neg q1] at e2; omega
        rw [if_neg m2, if_neg m2] at f
        rw [if_neg m, if_neg m]; exact f
  · refine h7.add h0 hg9 (by omega) (fun e => ?_) ?_
    · have := hno.2 (by omega); rw [e.1] at this; exact this
    · have f := fb 7 (by decide) (by decide)
      by_cases m : so = 2 ∧ ((2 : Int) ≠ 0 ∨ nm z.1 = 0)
      · rw [if_pos (show so ≤ 2 ∧ (7 : Int) = slt so (nm z.1) from ⟨by omega, by unfold slt; rw [if_neg (by omega), if_neg (by omega)]⟩), if_pos (show so ≤ 2 ∧ (7 : Int) = slt so (nm z.1) from ⟨by omega, by unfold slt; rw [if_neg (by omega), if_neg (by omega)]⟩)] at f
        rw [if_pos m, if_pos m]; exact f
      · have m2 : ¬ (so ≤ 2 ∧ (7 : Int) = slt so (nm z.1)) := fun e => by
          have e2 := e.2
          unfold slt at e2
          by_cases q : so = 0
          · rw [if_pos q] at e2; have := h05 q; omega
          · rw [if_neg q] at e2
            by_cases q1 : so = 1
            · rw [if_pos q1] at e2; omega
            · exact m ⟨by omega, Or.inl (by decide)⟩
        rw [if_neg m2, if_neg m2] at f
        rw [if_neg m, if_neg m]; exact f
  · obtain ⟨a1, a2, a3, a4⟩ := rcHas_r (G := G) (so := 3) (la := 0) h0
    rw [rcHas_ent h0, f7]
    by_cases q : so = 3
    · have g := hno.2 (by omega)
      rw [q] at g
      rw [if_pos q, if_neg (show ¬ 0 ≤ rcHas G 3 0 by omega), if_pos (show so = 3 ∧ ((3 : Int) ≠ 0 ∨ nm z.1 = 0) from ⟨q, Or.inl (by decide)⟩), if_neg (by omega), rcEnt_2 h0]
    · rw [if_neg q, hn]
      rcases (by omega : rcHas G 3 0 < 0 ∨ 0 ≤ rcHas G 3 0) with g | g
      · rw [if_pos g, if_neg (show ¬ 0 ≤ rcHas G 3 0 by omega), if_neg (show ¬ (so = 3 ∧ ((3 : Int) ≠ 0 ∨ nm z.1 = 0)) from fun e => q e.1), if_pos (by decide)]
      · rw [if_neg (by omega), if_pos g, if_neg (by omega), rcEnt_lo (by omega) (by omega)]
theorem GTb.add {nm G : Int → Int} {so c : Int} {z y : rpS} (h : GTb G c) (h0 : 0 ≤ G 0) (hso : 0 ≤ so ∧ so ≤ 9) (hN : rcNs nm so z) (hz : 0 ≤ z.2.2) (hcz : c ≤ z.2.2) (hzy : z.2.2 ≤ y.2.2) (hy : y.2.2 ≤ 300) (hy2 : 0 ≤ so ∧ so ≤ 2 → z.2.2 < y.2.2) : GTb (rcEnt nm G so z y) y.2.2 := by
  obtain ⟨c0, c1, h⟩ := h
  refine ⟨by omega, hy, fun q q0 q1 => ?_⟩
  rw [rcEnt_0] at q1
  rcases (by omega : q < G 0 ∨ q = G 0) with g | g
  · rw [rcEnt_lo (by omega) (by omega), rcEnt_lo (by omega) (by omega), rcEnt_lo (by omega) (by omega), rcEnt_lo (by omega) (by omega)]
    obtain ⟨b1, b2, b3, b4⟩ := h q q0 g
    exact ⟨b1, b2, fun e => by have := b3 e; omega, b4⟩
  · subst g
    rw [rcEnt_1 h0, rcEnt_2 h0, rcEnt_3 h0, rcEnt_4 h0]
    obtain ⟨n0, n3, n4, n5, n6, n7⟩ := hN
    refine ⟨hso, n0, fun e => ?_, n3, n4, fun e => ?_, n6, fun e => ?_⟩
    · rw [if_pos e, if_pos e]; have := hy2 ⟨hso.1, e⟩; omega
    · rw [if_neg (by omega)]; exact n5 e
    · rw [if_neg (by omega), if_neg (by omega)]; exact n7 e
