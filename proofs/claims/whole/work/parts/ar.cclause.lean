/-! The class's clause. -/
def CSl (t : Nat) (s : Nat → Int → Int) (G : Int → Int) (slot so la : Int) : Prop := (rcHas G so la < 0 → s (t + 4) slot = 0 ∧ s (t + 5) slot = 0) ∧ (0 ≤ rcHas G so la → s (t + 4) slot = G (3 + 4 * rcHas G so la) ∧ s (t + 5) slot = G (4 + 4 * rcHas G so la))
/-- the class's text beside the table -/
def CG (t : Nat) (s : Nat → Int → Int) (G : Int → Int) : Prop := s t 5 = G 0 ∧ (0 ≤ G 0 ∧ G 0 ≤ 24) ∧
  (∀ q, 0 ≤ q → q < G 0 → s (t + 1) q = wdS (G (1 + 4 * q)) ∧ ((G (1 + 4 * q) = 0 ∨ (3 ≤ G (1 + 4 * q) ∧ G (1 + 4 * q) ≤ 7)) → s (t + 2) (3 * q) = G (2 + 4 * q)) ∧ ((G (1 + 4 * q) = 5 ∨ G (1 + 4 * q) = 7) → s (t + 2) (3 * q + 1) = G (3 + 4 * q)) ∧ (G (1 + 4 * q) = 7 → s (t + 2) (3 * q + 2) = G (4 + 4 * q))) ∧
  (∀ la, 0 ≤ la → la < 6 → CSl t s G la 0 la) ∧ CSl t s G 6 1 0 ∧ CSl t s G 7 2 0 ∧ (s t 7 = if rcHas G 3 0 < 0 then 0 else G (2 + 4 * rcHas G 3 0))
/-- the table's own bounds -/
def GTb (G : Int → Int) (c : Int) : Prop := 0 ≤ c ∧ c ≤ 300 ∧ ∀ q, 0 ≤ q → q < G 0 → (0 ≤ G (1 + 4 * q) ∧ G (1 + 4 * q) ≤ 9) ∧ (G (1 + 4 * q) = 0 → 0 ≤ G (2 + 4 * q) ∧ G (2 + 4 * q) ≤ 5) ∧ (G (1 + 4 * q) ≤ 2 → 0 ≤ G (3 + 4 * q) ∧ G (3 + 4 * q) < G (4 + 4 * q) ∧ G (4 + 4 * q) ≤ c) ∧ (G (1 + 4 * q) = 3 → 1 ≤ G (2 + 4 * q) ∧ G (2 + 4 * q) ≤ 2) ∧ (G (1 + 4 * q) = 4 → 1 ≤ G (2 + 4 * q) ∧ G (2 + 4 * q) ≤ 99) ∧ (G (1 + 4 * q) = 5 → (0 ≤ G (2 + 4 * q) ∧ G (2 + 4 * q) ≤ 2) ∧ 0 ≤ G (3 + 4 * q) ∧ G (3 + 4 * q) ≤ 9) ∧ (G (1 + 4 * q) = 6 → 0 ≤ G (2 + 4 * q) ∧ G (2 + 4 * q) ≤ 9) ∧ (G (1 + 4 * q) = 7 → (0 ≤ G (2 + 4 * q) ∧ G (2 + 4 * q) ≤ 9) ∧ (0 ≤ G (3 + 4 * q) ∧ G (3 + 4 * q) ≤ 2) ∧ 0 ≤ G (4 + 4 * q) ∧ G (4 + 4 * q) ≤ 9)
theorem CSl_r {t : Nat} {s : Nat → Int → Int} {G : Int → Int} {slot so la c : Int} (h : CSl t s G slot so la) (h0 : 0 ≤ G 0) (hI : GTb G c) (hso : 0 ≤ so ∧ so ≤ 2) : rI (s (t + 4) slot) ∧ rI (s (t + 5) slot) ∧ (s (t + 4) slot < s (t + 5) slot ↔ 0 ≤ rcHas G so la) := by
  obtain ⟨a1, a2, a3, a4⟩ := rcHas_r (G := G) (so := so) (la := la) h0
  obtain ⟨-, i1, hI⟩ := hI
  rcases (by omega : rcHas G so la < 0 ∨ 0 ≤ rcHas G so la) with g | g
  · obtain ⟨b1, b2⟩ := h.1 g
    rw [b1, b2]
    exact ⟨⟨by decide, by decide⟩, ⟨by decide, by decide⟩, ⟨fun e => absurd e (by decide), fun e => by omega⟩⟩
  · obtain ⟨b1, b2⟩ := h.2 g
    have e := (a3 g).1
    have q := (hI _ g a2).2.2.1 (by omega)
    rw [b1, b2]
    exact ⟨⟨by omega, by omega⟩, ⟨by omega, by omega⟩, ⟨fun _ => g, fun _ => by omega⟩⟩
theorem CG.ch {t : Nat} {s : Nat → Int → Int} {G : Int → Int} {c : Int} (h : CG t s G) (hI : GTb G c) : CH t s G := fun v v0 v1 => CSl_r (h.2.2.2.1 v v0 v1) h.2.1.1 hI (by omega)
def slt (so v : Int) : Int := if so = 0 then v else if so = 1 then 6 else 7
theorem CSl.add {t : Nat} {s s1 : Nat → Int → Int} {nm G : Int → Int} {so : Int} {z y : rpS} {slot so' la : Int} (h : CSl t s G slot so' la) (h0 : 0 ≤ G 0) (hG : ∀ q, 0 ≤ q → q < G 0 → 0 ≤ q) (hso' : 0 ≤ so' ∧ so' ≤ 2) (hno : so = so' ∧ (so' ≠ 0 ∨ nm z.1 = la) → rcHas G so' la < 0)
    (f : s1 (t + 4) slot = (if so = so' ∧ (so' ≠ 0 ∨ nm z.1 = la) then z.2.2 else s (t + 4) slot) ∧ s1 (t + 5) slot = (if so = so' ∧ (so' ≠ 0 ∨ nm z.1 = la) then y.2.2 else s (t + 5) slot)) : CSl t s1 (rcEnt nm G so z y) slot so' la := by
  obtain ⟨a1, a2, a3, a4⟩ := rcHas_r (G := G) (so := so') (la := la) h0
  unfold CSl
  rw [rcHas_ent h0]
  rcases (by omega : rcHas G so' la < 0 ∨ 0 ≤ rcHas G so' la) with g | g
  · rw [if_neg (by omega)]
    by_cases m : so = so' ∧ (so' ≠ 0 ∨ nm z.1 = la)
    · rw [if_pos m, if_pos m] at f
      rw [if_pos m, rcEnt_3 h0, rcEnt_4 h0, if_pos (by omega), if_pos (by omega)]
      exact ⟨fun e => by omega, fun _ => f⟩
    · rw [if_neg m, if_neg m] at f
      rw [if_neg m]
      exact ⟨fun _ => ⟨f.1.trans (h.1 g).1, f.2.trans (h.1 g).2⟩, fun e => absurd e (by decide)⟩
  · have m : ¬ (so = so' ∧ (so' ≠ 0 ∨ nm z.1 = la)) := fun e => by have := hno e; omega
    rw [if_neg m, if_neg m] at f
    rw [if_pos g, rcEnt_lo (by omega) (by omega), rcEnt_lo (by omega) (by omega)]
    exact ⟨fun e => by omega, fun _ => ⟨f.1.trans (h.2 g).1, f.2.trans (h.2 g).2⟩⟩
/-- a clause more -/
theorem CG.add {t : Nat} {s s1 : Nat → Int → Int} {nm G : Int → Int} {so : Int} {z y : rpS} (h : CG t s G) (hso : 0 ≤ so ∧ so ≤ 9) (hc : G 0 < 24) (h05 : so = 0 → 0 ≤ nm z.1 ∧ nm z.1 ≤ 5) (hno : (so = 0 → rcHas G 0 (nm z.1) < 0) ∧ (1 ≤ so ∧ so ≤ 3 → rcHas G so 0 < 0))
    (f5 : s1 t 5 = G 0 + 1) (fw : ∀ q, 0 ≤ q → q < G 0 → s1 (t + 1) q = s (t + 1) q) (fw2 : s1 (t + 1) (G 0) = wdS so) (fn : ∀ j, j < 3 * G 0 → s1 (t + 2) j = s (t + 2) j)
    (fn1 : (so = 0 ∨ (3 ≤ so ∧ so ≤ 7)) → s1 (t + 2) (3 * G 0) = nm z.1) (fn2 : (so = 5 ∨ so = 7) → s1 (t + 2) (3 * G 0 + 1) = nm (z.1 + 2)) (fn3 : so = 7 → s1 (t + 2) (3 * G 0 + 2) = nm (z.1 + 4))
    (fb : ∀ j, 0 ≤ j → j < 8 → s1 (t + 4) j = (if so ≤ 2 ∧ j = slt so (nm z.1) then z.2.2 else s (t + 4) j) ∧ s1 (t + 5) j = (if so ≤ 2 ∧ j = slt so (nm z.1) then y.2.2 else s (t + 5) j))
    (f7 : s1 t 7 = if so = 3 then nm z.1 else s t 7) : CG t s1 (rcEnt nm G so z y) := by
  obtain ⟨h5, ⟨h0, h24⟩, hq, hl, h6, h7, hn⟩ := h
  have hg9 : ∀ q, 0 ≤ q → q < G 0 → 0 ≤ q := fun q a _ => a
  refine ⟨by rw [rcEnt_0]; exact f5, by rw [rcEnt_0]; omega, fun q q0 q1 => ?_, fun la l0 l1 => ?_, ?_, ?_, ?_⟩
  · rw [rcEnt_0] at q1
    rcases (by omega : q < G 0 ∨ q = G 0) with g | g
    · rw [rcEnt_lo (by omega) (by omega), rcEnt_lo (by omega) (by omega), rcEnt_lo (by omega) (by omega), rcEnt_lo (by omega) (by omega)]
      obtain ⟨b1, b2, b3, b4⟩ := hq q q0 g
      exact ⟨(fw q q0 g).trans b1, fun e => (fn _ (by omega)).trans (b2 e), fun e => (fn _ (by omega)).trans (b3 e), fun e => (fn _ (by omega)).trans (b4 e)⟩
    · subst g
      rw [rcEnt_1 h0, rcEnt_2 h0, rcEnt_3 h0, rcEnt_4 h0]
      refine ⟨fw2, fn1, fun e => ?_, fun e => ?_⟩
      · rw [if_neg (by omega)]; exact fn2 e
      · rw [if_neg (by omega)]; exact fn3 e
  · refine (hl la l0 l1).add h0 hg9 (by omega) (fun e => ?_) ?_
    · have := hno.1 e.1
      rcases e.2 with q | q
      · exact absurd rfl q
      · rw [← q]; exact this
    · have f := fb la l0 (by omega)
      by_cases m : so = 0 ∧ ((0 : Int) ≠ 0 ∨ nm z.1 = la)
      · rw [if_pos (show so ≤ 2 ∧ la = slt so (nm z.1) from ⟨by omega, by rcases m.2 with q | q; exact absurd rfl q; unfold slt; rw [if_pos m.1]; exact q.symm⟩), if_pos (show so ≤ 2 ∧ la = slt so (nm z.1) from ⟨by omega, by rcases m.2 with q | q; exact absurd rfl q; unfold slt; rw [if_pos m.1]; exact q.symm⟩)] at f
        rw [if_pos m, if_pos m]; exact f
      · have m2 : ¬ (so ≤ 2 ∧ la = slt so (nm z.1)) := fun e => by
          by_cases q : so = 0
          · refine m ⟨q, Or.inr ?_⟩
            have := e.2
            unfold slt at this
            rw [if_pos q] at this
            exact this.symm
          · have := e.2
            unfold slt at this
            rw [if_neg q] at this
            split at this <;> omega
        rw [if_neg m2, if_neg m2] at f
        rw [if_neg m, if_neg m]; exact f
  · refine h6.add h0 hg9 (by omega) (fun e => ?_) ?_
    · have := hno.2 (by omega); rw [e.1] at this; exact this
    · have f := fb 6 (by decide) (by decide)
      by_cases m : so = 1 ∧ ((1 : Int) ≠ 0 ∨ nm z.1 = 0)
      · rw [if_pos (show so ≤ 2 ∧ (6 : Int) = slt so (nm z.1) from ⟨by omega, by unfold slt; rw [if_neg (by omega), if_pos m.1]⟩), if_pos (show so ≤ 2 ∧ (6 : Int) = slt so (nm z.1) from ⟨by omega, by unfold slt; rw [if_neg (by omega), if_pos m.1]⟩)] at f
        rw [if_pos m, if_pos m]; exact f
      · have m2 : ¬ (so ≤ 2 ∧ (6 : Int) = slt so (nm z.1)) := fun e => by
          have e2 := e.2
          unfold slt at e2
          by_cases q : so = 0
          · rw [if_pos q] at e2; have := h05 q; omega
          · rw [if_neg q] at e2
            by_cases q1 : so = 1
            · exact m ⟨q1, Or.inl (by decide)⟩
            · rw [if_neg q1] at e2; omega
        rw [if_neg m2, if_neg m2] at f
        rw [if_neg m, if_neg m]; exact f
  · refine h7.add h0 hg9 (by omega) (fun e => ?_) ?_
    · have := hno.2 (by omega); rw [e.1] at this; exact this
    · have f := fb 7 (by decide) (by decide)
      by_cases m : so = 2 ∧ ((2 : Int) ≠ 0 ∨ nm z.1 = 0)
      · rw [if_pos (show so ≤ 2 ∧ (7 : Int) = slt so (nm z.1) from ⟨by omega, by unfold slt; rw [if_neg (by omega), if_neg (by omega)]⟩), if_pos (show so ≤ 2 ∧ (7 : Int) = slt so (nm z.1) from ⟨by omega, by unfold slt; rw [if_neg (by omega), if_neg (by omega)]⟩)] at f
        rw [if_pos m, if_pos m]; exact f
      · have m2 : ¬ (so ≤ 2 ∧ (7 : Int) = slt so (nm z.1)) := fun e => by
          have e2 := e.2
          unfold slt at e2
          by_cases q : so = 0
          · rw [if_pos q] at e2; have := h05 q; omega
          · rw [if_neg q] at e2
            by_cases q1 : so = 1
            · rw [if_pos q1] at e2; omega
            · exact m ⟨by omega, Or.inl (by decide)⟩
        rw [if_neg m2, if_neg m2] at f
        rw [if_neg m, if_neg m]; exact f
  · obtain ⟨a1, a2, a3, a4⟩ := rcHas_r (G := G) (so := 3) (la := 0) h0
    rw [rcHas_ent h0, f7]
    by_cases q : so = 3
    · have g := hno.2 (by omega)
      rw [q] at g
      rw [if_pos q, if_neg (show ¬ 0 ≤ rcHas G 3 0 by omega), if_pos (show so = 3 ∧ ((3 : Int) ≠ 0 ∨ nm z.1 = 0) from ⟨q, Or.inl (by decide)⟩), if_neg (by omega), rcEnt_2 h0]
    · rw [if_neg q, hn]
      rcases (by omega : rcHas G 3 0 < 0 ∨ 0 ≤ rcHas G 3 0) with g | g
      · rw [if_pos g, if_neg (show ¬ 0 ≤ rcHas G 3 0 by omega), if_neg (show ¬ (so = 3 ∧ ((3 : Int) ≠ 0 ∨ nm z.1 = 0)) from fun e => q e.1), if_pos (by decide)]
      · rw [if_neg (by omega), if_pos g, if_neg (by omega), rcEnt_lo (by omega) (by omega)]
theorem GTb.add {nm G : Int → Int} {so c : Int} {z y : rpS} (h : GTb G c) (h0 : 0 ≤ G 0) (hso : 0 ≤ so ∧ so ≤ 9) (hN : rcNs nm so z) (hz : 0 ≤ z.2.2) (hcz : c ≤ z.2.2) (hzy : z.2.2 ≤ y.2.2) (hy : y.2.2 ≤ 300) (hy2 : 0 ≤ so ∧ so ≤ 2 → z.2.2 < y.2.2) : GTb (rcEnt nm G so z y) y.2.2 := by
  obtain ⟨c0, c1, h⟩ := h
  refine ⟨by omega, hy, fun q q0 q1 => ?_⟩
  rw [rcEnt_0] at q1
  rcases (by omega : q < G 0 ∨ q = G 0) with g | g
  · rw [rcEnt_lo (by omega) (by omega), rcEnt_lo (by omega) (by omega), rcEnt_lo (by omega) (by omega), rcEnt_lo (by omega) (by omega)]
    obtain ⟨b1, b2, b3, b4⟩ := h q q0 g
    exact ⟨b1, b2, fun e => by have := b3 e; omega, b4⟩
  · subst g
    rw [rcEnt_1 h0, rcEnt_2 h0, rcEnt_3 h0, rcEnt_4 h0]
    obtain ⟨n0, n3, n4, n5, n6, n7⟩ := hN
    refine ⟨hso, n0, fun e => ?_, n3, n4, fun e => ?_, n6, fun e => ?_⟩
    · rw [if_pos e, if_pos e]; have := hy2 ⟨hso.1, e⟩; omega
    · rw [if_neg (by omega)]; exact n5 e
    · rw [if_neg (by omega), if_neg (by omega)]; exact n7 e
def AC (t : Nat) (i lit c sl b e : Int) (s s1 : Nat → Int → Int) : Prop := (∀ q, q ≠ 580 → ¬ (t ≤ q ∧ q ≤ t + 5) → s1 q = s q) ∧ (∀ j, j ≠ 4 → ¬ (6 ≤ j ∧ j ≤ 9) → s1 580 j = s 580 j) ∧ s1 t 5 = i + 1 ∧ (∀ q, q < i → s1 (t + 1) q = s (t + 1) q) ∧ s1 (t + 1) i = lit ∧ (∀ j, j < 3 * i → s1 (t + 2) j = s (t + 2) j) ∧ (∀ j, j < c → s1 (t + 3) j = s (t + 3) j) ∧ ∀ j, 0 ≤ j → s1 (t + 4) j = (if j = sl then b else s (t + 4) j) ∧ s1 (t + 5) j = (if j = sl then e else s (t + 5) j)
def ND (nm : Int → Int) (t : Nat) (i so : Int) (z : rpS) (s s1 : Nat → Int → Int) : Prop := ((so = 0 ∨ (3 ≤ so ∧ so ≤ 7)) → s1 (t + 2) (3 * i) = nm z.1) ∧ ((so = 5 ∨ so = 7) → s1 (t + 2) (3 * i + 1) = nm (z.1 + 2)) ∧ (so = 7 → s1 (t + 2) (3 * i + 2) = nm (z.1 + 4)) ∧ s1 t 7 = if so = 3 then nm z.1 else s t 7
/-- what a clause leaves as it was -/
def CCf (t : Nat) (c : Int) (s s1 : Nat → Int → Int) : Prop := (∀ q, q ≠ 580 → ¬ (t ≤ q ∧ q ≤ t + 5) → s1 q = s q) ∧ (∀ j, j ≠ 4 → ¬ (6 ≤ j ∧ j ≤ 9) → s1 580 j = s 580 j) ∧ ∀ j, j < c → s1 (t + 3) j = s (t + 3) j
section ACP
variable {t L : Nat} {i lit c sl b e so lo c' v : Int} {s s1 s2 s3 s4 s5 : Nat → Int → Int} {nm kd pl : Int → Int} {z z' : rpS} {tn W op : Int}
theorem kt_all (hkt : KT L t t) : ¬ (t ≤ 580 ∧ 580 ≤ t + 5) := by
  obtain ⟨-, h, h1, h2, h3, h4, h5⟩ := hkt
  have key : ∀ q, q = 580 → (mm_SH L t q).1 = 4 := fun q e => by rw [e]; rfl
  intro ⟨g1, g2⟩
  rcases (by omega : t = 580 ∨ t + 1 = 580 ∨ t + 2 = 580 ∨ t + 3 = 580 ∨ t + 4 = 580 ∨ t + 5 = 580) with e | e | e | e | e | e
  · have := key _ e; rw [h] at this; exact absurd (show (6 : Nat) = 4 from this) (by decide)
  · have := key _ e; rw [h1] at this; exact absurd this (by decide)
  · have := key _ e; rw [h2] at this; exact absurd this (by decide)
  · have := key _ e; rw [h3] at this; exact absurd this (by decide)
  · have := key _ e; rw [h4] at this; exact absurd this (by decide)
  · have := key _ e; rw [h5] at this; exact absurd this (by decide)
theorem kt_a4 (hkt : KT L t t) : ¬ (t ≤ 581 ∧ 581 ≤ t + 5) ∧ ¬ (t ≤ 582 ∧ 582 ≤ t + 5) ∧ ¬ (t ≤ 583 ∧ 583 ≤ t + 5) := by
  obtain ⟨-, h, h1, h2, h3, h4, h5⟩ := hkt
  have key : ∀ q, (q = 581 ∨ q = 582 ∨ q = 583) → (mm_SH L t q).1 = 100 ∧ (mm_SH L t q).2.1 = 301 := fun q e => by
    rcases e with e | e | e <;> (rw [e]; exact ⟨rfl, rfl⟩)
  have kk : ∀ x, (x = 581 ∨ x = 582 ∨ x = 583) → ¬ (t ≤ x ∧ x ≤ t + 5) := fun x hx ⟨g1, g2⟩ => by
    rcases (by omega : t = x ∨ t + 1 = x ∨ t + 2 = x ∨ t + 3 = x ∨ t + 4 = x ∨ t + 5 = x) with e | e | e | e | e | e
    · have := (key _ (e ▸ hx)).1; rw [h] at this; exact absurd (show (6 : Nat) = 100 from this) (by decide)
    · have := (key _ (e ▸ hx)).2; rw [h1] at this; exact absurd this (by decide)
    · have := (key _ (e ▸ hx)).2; rw [h2] at this; exact absurd this (by decide)
    · have := (key _ (e ▸ hx)).2; rw [h3] at this; exact absurd this (by decide)
    · have := (key _ (e ▸ hx)).2; rw [h4] at this; exact absurd this (by decide)
    · have := (key _ (e ▸ hx)).2; rw [h5] at this; exact absurd this (by decide)
  exact ⟨kk 581 (by decide), kk 582 (by decide), kk 583 (by decide)⟩
theorem AC.f (h : AC t i lit c sl b e s s1) : CCf t c s s1 := ⟨h.1, h.2.1, h.2.2.2.2.2.2.1⟩
theorem AC.cng (hkt : KT L t t) (h : AC t i lit c sl b e s s1) (g : CNg t (3 * i) s1 s2) : AC t i lit c sl b e s s2 := by
  have hl := kt_all hkt
  obtain ⟨h1, h2, h3, h4, h5, h6, h7, h8⟩ := h
  refine ⟨fun q a1 a2 => (g.1 q a1 (by omega) (by omega)).trans (h1 q a1 a2), fun j a1 a2 => (g.2.1 j a1 (by omega)).trans (h2 j a1 a2), (g.2.2.1 5 (by decide)).trans h3, fun q a => ?_, ?_, fun j a => (g.2.2.2 j a).trans (h6 j a), fun j a => ?_, fun j a => ?_⟩
  · rw [g.1 (t + 1) (by omega) (by omega) (by omega)]; exact h4 q a
  · rw [g.1 (t + 1) (by omega) (by omega) (by omega)]; exact h5
  · rw [g.1 (t + 3) (by omega) (by omega) (by omega)]; exact h7 j a
  · rw [g.1 (t + 4) (by omega) (by omega) (by omega), g.1 (t + 5) (by omega) (by omega) (by omega)]; exact h8 j a
theorem AC.cnf (hkt : KT L t t) (h : AC t i lit c sl b e s s1) (g : CNf t lo s1 s2) (hlo : 3 * i ≤ lo) : AC t i lit c sl b e s s2 := h.cng hkt ⟨g.1, g.2.1, fun j _ => g.2.2.1 j, fun j a => g.2.2.2 j (by omega)⟩
theorem AC.cfr (hkt : KT L t t) (h : AC t i lit c sl b e s s1) (g : CFR t c' s1 s2) (hc : c ≤ c') : AC t i lit c sl b e s s2 := by
  have hl := kt_all hkt
  obtain ⟨h1, h2, h3, h4, h5, h6, h7, h8⟩ := h
  refine ⟨fun q a1 a2 => (g.1 q a1 (by omega) (by omega)).trans (h1 q a1 a2), fun j a1 a2 => (g.2.1 j a1 (by omega)).trans (h2 j a1 a2), (g.2.2.1 5 (by decide)).trans h3, fun q a => ?_, ?_, fun j a => ?_, fun j a => (g.2.2.2 j (by omega)).trans (h7 j a), fun j a => ?_⟩
  · rw [g.1 (t + 1) (by omega) (by omega) (by omega)]; exact h4 q a
  · rw [g.1 (t + 1) (by omega) (by omega) (by omega)]; exact h5
  · rw [g.1 (t + 2) (by omega) (by omega) (by omega)]; exact h6 j a
  · rw [g.1 (t + 4) (by omega) (by omega) (by omega), g.1 (t + 5) (by omega) (by omega) (by omega)]; exact h8 j a
theorem AC.st (hkt : KT L t t) (h : AC t i lit c (-1) 0 0 s s1) (e1 : s2 = up s1 (t + 4) sl b) (e2 : s3 = up s2 (t + 5) sl e) : AC t i lit c sl b e s s3 := by
  have hl := kt_all hkt
  obtain ⟨h1, h2, h3, h4, h5, h6, h7, h8⟩ := h
  have f : ∀ q, q ≠ t + 4 → q ≠ t + 5 → s3 q = s1 q := fun q a1 a2 => by rw [e2, up_cc a2, e1, up_cc a1]
  refine ⟨fun q a1 a2 => (f q (by omega) (by omega)).trans (h1 q a1 a2), fun j a1 a2 => by rw [f 580 (by omega) (by omega)]; exact h2 j a1 a2, by rw [f t (by omega) (by omega)]; exact h3, fun q a => by rw [f (t + 1) (by omega) (by omega)]; exact h4 q a, by rw [f (t + 1) (by omega) (by omega)]; exact h5, fun j a => by rw [f (t + 2) (by omega) (by omega)]; exact h6 j a, fun j a => by rw [f (t + 3) (by omega) (by omega)]; exact h7 j a, fun j a => ?_⟩
  obtain ⟨p1, p2⟩ := h8 j a
  rw [if_neg (by omega)] at p1 p2
  constructor
  · rw [e2, up_c (by omega), e1, up_ite]
    by_cases q : j = sl
    · rw [if_pos q, if_pos q]
    · rw [if_neg q, if_neg q]; exact p1
  · rw [e2, up_ite]
    by_cases q : j = sl
    · rw [if_pos q, if_pos q]
    · rw [if_neg q, if_neg q, e1, up_c (by omega)]; exact p2
theorem ND.cfr (hkt : KT L t t) (h : ND nm t i so z s s1) (g : CFR t c' s1 s2) : ND nm t i so z s s2 := by
  have hl := kt_all hkt
  unfold ND
  rw [g.1 (t + 2) (by omega) (by omega) (by omega), g.2.2.1 7 (by decide)]
  exact h
theorem ND.cnf (hkt : KT L t t) (h : ND nm t i so z s s1) (g : CNf t (3 * i + 3) s1 s2) : ND nm t i so z s s2 := by
  unfold ND
  rw [g.2.2.2 _ (by omega), g.2.2.2 _ (by omega), g.2.2.2 _ (by omega), g.2.2.1 7]
  exact h
theorem ND.st (h : ND nm t i so z s s1) (e1 : s2 = up s1 (t + 4) sl b) (e2 : s3 = up s2 (t + 5) sl e) : ND nm t i so z s s3 := by
  have f : ∀ q, q ≠ t + 4 → q ≠ t + 5 → s3 q = s1 q := fun q a1 a2 => by rw [e2, up_cc a2, e1, up_cc a1]
  unfold ND
  rw [f (t + 2) (by omega) (by omega), f t (by omega) (by omega)]
  exact h
theorem CSt.st (hkt : KT L t t) (h : CSt kd pl nm tn t W s1 z op) (e1 : s2 = up s1 (t + 4) sl b) (e2 : s3 = up s2 (t + 5) sl e) : CSt kd pl nm tn t W s3 z op := by
  have hl := kt_all hkt
  have hl2 := kt_a4 hkt
  have f : ∀ q, q ≠ t + 4 → q ≠ t + 5 → s3 q = s1 q := fun q a1 a2 => by rw [e2, up_cc a2, e1, up_cc a1]
  obtain ⟨a1, a2, a3, a4, a5, a6⟩ := h
  refine ⟨a1.of (fun j hj => by rw [f 580 (by omega) (by omega)]) (f 581 (by omega) (by omega)) (f 582 (by omega) (by omega)) (f 583 (by omega) (by omega)), by rw [f 580 (by omega) (by omega)]; exact a2, by rw [f 580 (by omega) (by omega)]; exact a3, by rw [f 580 (by omega) (by omega)]; exact a4, by rw [f t (by omega) (by omega)]; exact a5, fun j j0 j1 => by rw [f (t + 3) (by omega) (by omega)]; exact a6 j j0 j1⟩
theorem CSt.sw6 (h : CSt kd pl nm tn t W s z op) (hkt : KT L t t) (e1 : s1 = up s 580 6 v) : CSt kd pl nm tn t v s1 z op := by
  have hl := kt_all hkt
  have hl2 := kt_lo hkt
  obtain ⟨a1, a2, a3, a4, a5, a6⟩ := h
  subst e1
  exact ⟨a1.of (fun j hj => up_k (by omega)) (up_cc (by decide)) (up_cc (by decide)) (up_cc (by decide)), (up_k (by decide)).trans a2, (up_k (by decide)).trans a3, up_at, (up_c hl2.1).trans a5, fun j j0 j1 => (up_c hl2.2.1).trans (a6 j j0 j1)⟩
/-- a clause begins -/
theorem CSt.beg (h : CSt kd pl nm tn t W s z op) (hkt : KT L t t) (e1 : s1 = up s 580 6 lit) (e2 : s2 = up s1 580 4 (z.1 + 1)) (e3 : s3 = up s2 580 7 0) (e4 : s4 = up s3 (t + 1) i lit) (e5 : s5 = up s4 t 5 (i + 1)) : CSt kd pl nm tn t lit s5 (rpNx z) 0 ∧ AC t i lit c (-1) 0 0 s s5 ∧ (∀ j, j ≠ 5 → s5 t j = s t j) ∧ s5 (t + 4) = s (t + 4) ∧ s5 (t + 5) = s (t + 5) := by
  have hl := kt_all hkt
  have hl2 := kt_lo hkt
  have hl3 := kt_a4 hkt
  have f : ∀ q, q ≠ 580 → q ≠ t + 1 → q ≠ t → s5 q = s q := fun q a1 a2 a3 => by rw [e5, up_cc a3, e4, up_cc a2, e3, up_cc a1, e2, up_cc a1, e1, up_cc a1]
  have f580 : s5 580 = s3 580 := by rw [e5, up_cc (by omega), e4, up_cc (by omega)]
  have ft : ∀ j, j ≠ 5 → s5 t j = s t j := fun j a => by rw [e5, up_k a, e4, up_cc (by omega), e3, up_cc (by omega), e2, up_cc (by omega), e1, up_cc (by omega)]
  have f1 : ∀ q, s5 (t + 1) q = if q = i then lit else s (t + 1) q := fun q => by rw [e5, up_cc (by omega), e4, up_ite, e3, up_cc (by omega), e2, up_cc (by omega), e1, up_cc (by omega)]
  have fz : ∀ j, s3 580 j = if j = 7 then 0 else if j = 4 then z.1 + 1 else if j = 6 then lit else s 580 j := fun j => by rw [e3, up_ite, e2, up_ite, e1, up_ite]
  obtain ⟨a1, a2, a3, a4, a5, a6⟩ := h
  refine ⟨⟨a1.of (fun j hj => by rw [f580, fz, if_neg (by omega), if_neg (by omega), if_neg (by omega)]) (f 581 (by decide) (by omega) (by omega)) (f 582 (by decide) (by omega) (by omega)) (f 583 (by decide) (by omega) (by omega)), by rw [f580, fz]; rfl, by rw [f580, fz]; rfl, by rw [f580, fz]; rfl, (ft 6 (by decide)).trans a5, fun j j0 j1 => by rw [f (t + 3) (by omega) (by omega) (by omega)]; exact a6 j j0 j1⟩, ⟨fun q b1 b2 => f q b1 (by omega) (by omega), fun j b1 b2 => by rw [f580, fz, if_neg (by omega), if_neg b1, if_neg (by omega)], by rw [e5, up_at], fun q b => by rw [f1, if_neg (by omega)], by rw [f1, if_pos rfl], fun j b => by rw [f (t + 2) (by omega) (by omega) (by omega)], fun j b => by rw [f (t + 3) (by omega) (by omega) (by omega)], fun j b => by rw [if_neg (by omega), if_neg (by omega), f (t + 4) (by omega) (by omega) (by omega), f (t + 5) (by omega) (by omega) (by omega)]; exact ⟨rfl, rfl⟩⟩, ft, f _ (by omega) (by omega) (by omega), f _ (by omega) (by omega) (by omega)⟩
end ACP
section RCL
variable {k nm G : Int → Int} {z : rpS} {so : Int}
theorem rcCl_1 (h : soO (k z.1) < 0) : rcCl k nm z G = (1, z, G) := if_pos h
theorem rcCl_4 (e : soO (k z.1) = so) (h : 1 ≤ so ∧ so ≤ 3) (h2 : 0 ≤ rcHas G so 0) : rcCl k nm z G = (4, z, G) := by
  unfold rcCl
  rw [e, if_neg (by omega), if_pos ⟨h, h2⟩]
theorem rcCl_6 (e : soO (k z.1) = so) (h0 : 0 ≤ so) (h : ¬ ((1 ≤ so ∧ so ≤ 3) ∧ 0 ≤ rcHas G so 0)) (h2 : G 0 = 24) : rcCl k nm z G = (6, z, G) := by
  unfold rcCl
  rw [e, if_neg (by omega), if_neg h, if_pos h2]
theorem rcCl_go (e : soO (k z.1) = so) (h0 : 0 ≤ so) (h : ¬ ((1 ≤ so ∧ so ≤ 3) ∧ 0 ≤ rcHas G so 0)) (h2 : G 0 ≠ 24) {R : rpR} (hR : rpB (rpB (rcNum k nm G so (rpNx z)) (rcMore k nm so)) (rcWd k 39) = R) : rcCl k nm z G = (R.1, R.2, rcEnt nm G so (rpNx z) R.2) := by
  unfold rcCl
  rw [e, if_neg (by omega), if_neg h, if_neg h2, rcBody_s h0, hR]
end RCL
theorem tw_57_0 {d L t : Nat} {s l : Nat → Int → Int} (hkt : KT L t t) (hW : s 580 6 = 15) : mm_Ev mm_ct mm_CM (d + 2) 57 [.ref 580] (MX L t s l) (some (.int (iI (0))), MX L t s l) := by
  have hc : (mm_CM 57).2.2.2.2.2.2.2 = mm_cf cd_57 := by rw [cm_57]; rfl
  refine ev_of (mx := 1) (by rw [cm_57]; decide) (by rw [cm_57]; rfl) (by show 1 ≤ _; decide) ?_
  show mm_wp _ _ (0, [some (.ref 580)], [], MX L t s l) (fun r => r = (some (.int (iI (0))), MX L t s l))
  have ht6 := hkt.1
  refine wi_a1 hc rfl rfl ?_
  refine wi_gfv (kz := 6) rfl hc rfl rfl (by decide) (Nat.le_of_ble_eq_true rfl) rfl (v := 15) (hW) ?_
  refine wi_sw hc rfl ⟨by decide, by decide⟩ ?_
  show mm_wp _ _ (68, [some (.ref 580)], [], MX L t s l) _
  refine wi_ic hc rfl ?_
  refine wi_r0 hc rfl (by rw [cm_57]; rfl) ?_
  rfl
theorem tw_57_1 {d L t : Nat} {s l : Nat → Int → Int} (hkt : KT L t t) (hW : s 580 6 = 16) {G : Int → Int} (hX : rI (s (t + 4) 6) ∧ rI (s (t + 5) 6) ∧ (s (t + 4) 6 < s (t + 5) 6 ↔ 0 ≤ rcHas G 1 0)) : mm_Ev mm_ct mm_CM (d + 2) 57 [.ref 580] (MX L t s l) (some (.int (iI (bI (0 ≤ rcHas G 1 0)))), MX L t s l) := by
  have hc : (mm_CM 57).2.2.2.2.2.2.2 = mm_cf cd_57 := by rw [cm_57]; rfl
  refine ev_of (mx := 1) (by rw [cm_57]; decide) (by rw [cm_57]; rfl) (by show 1 ≤ _; decide) ?_
  show mm_wp _ _ (0, [some (.ref 580)], [], MX L t s l) (fun r => r = (some (.int (iI (bI (0 ≤ rcHas G 1 0)))), MX L t s l))
  have ht6 := hkt.1
  refine wi_a1 hc rfl rfl ?_
  refine wi_gfv (kz := 6) rfl hc rfl rfl (by decide) (Nat.le_of_ble_eq_true rfl) rfl (v := 16) (hW) ?_
  refine wi_sw hc rfl ⟨by decide, by decide⟩ ?_
  show mm_wp _ _ (32, [some (.ref 580)], [], MX L t s l) _
  refine wi_a1 hc rfl rfl ?_
  refine wi_gr (w := t) hc rfl rfl (by decide) (Nat.le_of_ble_eq_true rfl) rfl ?_
  refine wi_bi hc rfl rfl ?_
  refine wp_cv (b := t) (As := [.int (iI 6)]) (r := []) hc rfl (by rw [cm_80]; rfl) rfl (Nat.le_of_ble_eq_true rfl) (show t < 621 by omega) (by rw [cm_80]; exact congrArg Prod.fst hkt.2.1) (ev_mono (sp_80 (d := 0) hkt (x := 6) (by decide) (by decide) hX.1 hX.2.1) (by omega)) ?_
  show mm_wp _ _ (41, [some (.ref 580)], [.int (iI (bI (s (t + 4) 6 < s (t + 5) 6)))], MX L t s l) _
  refine wi_rb hc rfl (by rw [cm_57]; rfl) ?_
  rw [show bI (s (t + 4) 6 < s (t + 5) 6) = bI (0 ≤ rcHas G 1 0) by unfold bI; congr 1; exact propext hX.2.2]
theorem tw_57_2 {d L t : Nat} {s l : Nat → Int → Int} (hkt : KT L t t) (hW : s 580 6 = 17) {G : Int → Int} (hX : rI (s (t + 4) 7) ∧ rI (s (t + 5) 7) ∧ (s (t + 4) 7 < s (t + 5) 7 ↔ 0 ≤ rcHas G 2 0)) : mm_Ev mm_ct mm_CM (d + 2) 57 [.ref 580] (MX L t s l) (some (.int (iI (bI (0 ≤ rcHas G 2 0)))), MX L t s l) := by
  have hc : (mm_CM 57).2.2.2.2.2.2.2 = mm_cf cd_57 := by rw [cm_57]; rfl
  refine ev_of (mx := 1) (by rw [cm_57]; decide) (by rw [cm_57]; rfl) (by show 1 ≤ _; decide) ?_
  show mm_wp _ _ (0, [some (.ref 580)], [], MX L t s l) (fun r => r = (some (.int (iI (bI (0 ≤ rcHas G 2 0)))), MX L t s l))
  have ht6 := hkt.1
  refine wi_a1 hc rfl rfl ?_
  refine wi_gfv (kz := 6) rfl hc rfl rfl (by decide) (Nat.le_of_ble_eq_true rfl) rfl (v := 17) (hW) ?_
  refine wi_sw hc rfl ⟨by decide, by decide⟩ ?_
  show mm_wp _ _ (42, [some (.ref 580)], [], MX L t s l) _
  refine wi_a1 hc rfl rfl ?_
  refine wi_gr (w := t) hc rfl rfl (by decide) (Nat.le_of_ble_eq_true rfl) rfl ?_
  refine wi_bi hc rfl rfl ?_
  refine wp_cv (b := t) (As := [.int (iI 7)]) (r := []) hc rfl (by rw [cm_80]; rfl) rfl (Nat.le_of_ble_eq_true rfl) (show t < 621 by omega) (by rw [cm_80]; exact congrArg Prod.fst hkt.2.1) (ev_mono (sp_80 (d := 0) hkt (x := 7) (by decide) (by decide) hX.1 hX.2.1) (by omega)) ?_
  show mm_wp _ _ (51, [some (.ref 580)], [.int (iI (bI (s (t + 4) 7 < s (t + 5) 7)))], MX L t s l) _
  refine wi_rb hc rfl (by rw [cm_57]; rfl) ?_
  rw [show bI (s (t + 4) 7 < s (t + 5) 7) = bI (0 ≤ rcHas G 2 0) by unfold bI; congr 1; exact propext hX.2.2]
theorem tw_57_3 {d L t : Nat} {s l : Nat → Int → Int} (hkt : KT L t t) (hW : s 580 6 = 18) {G : Int → Int} {x : Int} (hX : s t 7 = x) (hx : rI x) (hi : 0 < x ↔ 0 ≤ rcHas G 3 0) : mm_Ev mm_ct mm_CM (d + 2) 57 [.ref 580] (MX L t s l) (some (.int (iI (bI (0 ≤ rcHas G 3 0)))), MX L t s l) := by
  have hc : (mm_CM 57).2.2.2.2.2.2.2 = mm_cf cd_57 := by rw [cm_57]; rfl
  refine ev_of (mx := 1) (by rw [cm_57]; decide) (by rw [cm_57]; rfl) (by show 1 ≤ _; decide) ?_
  show mm_wp _ _ (0, [some (.ref 580)], [], MX L t s l) (fun r => r = (some (.int (iI (bI (0 ≤ rcHas G 3 0)))), MX L t s l))
  have ht6 := hkt.1
  refine wi_a1 hc rfl rfl ?_
  refine wi_gfv (kz := 6) rfl hc rfl rfl (by decide) (Nat.le_of_ble_eq_true rfl) rfl (v := 18) (hW) ?_
  refine wi_sw hc rfl ⟨by decide, by decide⟩ ?_
  show mm_wp _ _ (52, [some (.ref 580)], [], MX L t s l) _
  refine wi_a1 hc rfl rfl ?_
  refine wi_gr (w := t) hc rfl rfl (by decide) (Nat.le_of_ble_eq_true rfl) rfl ?_
  refine wi_gfs (kz := 7) rfl hkt.2.1 hc rfl (by have := hkt.1; omega) (by decide) rfl (v := x) (hX) ?_
  refine wi_zle hc rfl hx (fun h1_ => ?_) (fun h1_ => ?_)
  · refine wi_ic hc rfl ?_
    refine wi_r0 hc rfl (by rw [cm_57]; rfl) ?_
    rw [bI_f (p := 0 ≤ rcHas G 3 0) (fun e => by have := hi.mpr e; omega)]
  · refine wi_ic hc rfl ?_
    refine wi_go hc rfl ?_
    refine wi_r1 hc rfl (by rw [cm_57]; rfl) ?_
    rw [bI_t (p := 0 ≤ rcHas G 3 0) (hi.mp (by omega))]
theorem tw_57_4 {d L t : Nat} {s l : Nat → Int → Int} (hkt : KT L t t) (hW : s 580 6 = 19) : mm_Ev mm_ct mm_CM (d + 2) 57 [.ref 580] (MX L t s l) (some (.int (iI (0))), MX L t s l) := by
  have hc : (mm_CM 57).2.2.2.2.2.2.2 = mm_cf cd_57 := by rw [cm_57]; rfl
  refine ev_of (mx := 1) (by rw [cm_57]; decide) (by rw [cm_57]; rfl) (by show 1 ≤ _; decide) ?_
  show mm_wp _ _ (0, [some (.ref 580)], [], MX L t s l) (fun r => r = (some (.int (iI (0))), MX L t s l))
  have ht6 := hkt.1
  refine wi_a1 hc rfl rfl ?_
  refine wi_gfv (kz := 6) rfl hc rfl rfl (by decide) (Nat.le_of_ble_eq_true rfl) rfl (v := 19) (hW) ?_
  refine wi_sw hc rfl ⟨by decide, by decide⟩ ?_
  show mm_wp _ _ (68, [some (.ref 580)], [], MX L t s l) _
  refine wi_ic hc rfl ?_
  refine wi_r0 hc rfl (by rw [cm_57]; rfl) ?_
  rfl
theorem tw_57_5 {d L t : Nat} {s l : Nat → Int → Int} (hkt : KT L t t) (hW : s 580 6 = 20) : mm_Ev mm_ct mm_CM (d + 2) 57 [.ref 580] (MX L t s l) (some (.int (iI (0))), MX L t s l) := by
  have hc : (mm_CM 57).2.2.2.2.2.2.2 = mm_cf cd_57 := by rw [cm_57]; rfl
  refine ev_of (mx := 1) (by rw [cm_57]; decide) (by rw [cm_57]; rfl) (by show 1 ≤ _; decide) ?_
  show mm_wp _ _ (0, [some (.ref 580)], [], MX L t s l) (fun r => r = (some (.int (iI (0))), MX L t s l))
  have ht6 := hkt.1
  refine wi_a1 hc rfl rfl ?_
  refine wi_gfv (kz := 6) rfl hc rfl rfl (by decide) (Nat.le_of_ble_eq_true rfl) rfl (v := 20) (hW) ?_
  refine wi_sw hc rfl ⟨by decide, by decide⟩ ?_
  show mm_wp _ _ (68, [some (.ref 580)], [], MX L t s l) _
  refine wi_ic hc rfl ?_
  refine wi_r0 hc rfl (by rw [cm_57]; rfl) ?_
  rfl
theorem tw_57_6 {d L t : Nat} {s l : Nat → Int → Int} (hkt : KT L t t) (hW : s 580 6 = 21) : mm_Ev mm_ct mm_CM (d + 2) 57 [.ref 580] (MX L t s l) (some (.int (iI (0))), MX L t s l) := by
  have hc : (mm_CM 57).2.2.2.2.2.2.2 = mm_cf cd_57 := by rw [cm_57]; rfl
  refine ev_of (mx := 1) (by rw [cm_57]; decide) (by rw [cm_57]; rfl) (by show 1 ≤ _; decide) ?_
  show mm_wp _ _ (0, [some (.ref 580)], [], MX L t s l) (fun r => r = (some (.int (iI (0))), MX L t s l))
  have ht6 := hkt.1
  refine wi_a1 hc rfl rfl ?_
  refine wi_gfv (kz := 6) rfl hc rfl rfl (by decide) (Nat.le_of_ble_eq_true rfl) rfl (v := 21) (hW) ?_
  refine wi_sw hc rfl ⟨by decide, by decide⟩ ?_
  show mm_wp _ _ (68, [some (.ref 580)], [], MX L t s l) _
  refine wi_ic hc rfl ?_
  refine wi_r0 hc rfl (by rw [cm_57]; rfl) ?_
  rfl
theorem tw_57_7 {d L t : Nat} {s l : Nat → Int → Int} (hkt : KT L t t) (hW : s 580 6 = 22) : mm_Ev mm_ct mm_CM (d + 2) 57 [.ref 580] (MX L t s l) (some (.int (iI (0))), MX L t s l) := by
  have hc : (mm_CM 57).2.2.2.2.2.2.2 = mm_cf cd_57 := by rw [cm_57]; rfl
  refine ev_of (mx := 1) (by rw [cm_57]; decide) (by rw [cm_57]; rfl) (by show 1 ≤ _; decide) ?_
  show mm_wp _ _ (0, [some (.ref 580)], [], MX L t s l) (fun r => r = (some (.int (iI (0))), MX L t s l))
  have ht6 := hkt.1
  refine wi_a1 hc rfl rfl ?_
  refine wi_gfv (kz := 6) rfl hc rfl rfl (by decide) (Nat.le_of_ble_eq_true rfl) rfl (v := 22) (hW) ?_
  refine wi_sw hc rfl ⟨by decide, by decide⟩ ?_
  show mm_wp _ _ (68, [some (.ref 580)], [], MX L t s l) _
  refine wi_ic hc rfl ?_
  refine wi_r0 hc rfl (by rw [cm_57]; rfl) ?_
  rfl
theorem tw_57_8 {d L t : Nat} {s l : Nat → Int → Int} (hkt : KT L t t) (hW : s 580 6 = 5) : mm_Ev mm_ct mm_CM (d + 2) 57 [.ref 580] (MX L t s l) (some (.int (iI (0))), MX L t s l) := by
  have hc : (mm_CM 57).2.2.2.2.2.2.2 = mm_cf cd_57 := by rw [cm_57]; rfl
  refine ev_of (mx := 1) (by rw [cm_57]; decide) (by rw [cm_57]; rfl) (by show 1 ≤ _; decide) ?_
  show mm_wp _ _ (0, [some (.ref 580)], [], MX L t s l) (fun r => r = (some (.int (iI (0))), MX L t s l))
  have ht6 := hkt.1
  refine wi_a1 hc rfl rfl ?_
  refine wi_gfv (kz := 6) rfl hc rfl rfl (by decide) (Nat.le_of_ble_eq_true rfl) rfl (v := 5) (hW) ?_
  refine wi_sw hc rfl ⟨by decide, by decide⟩ ?_
  show mm_wp _ _ (68, [some (.ref 580)], [], MX L t s l) _
  refine wi_ic hc rfl ?_
  refine wi_r0 hc rfl (by rw [cm_57]; rfl) ?_
  rfl
theorem tw_57_9 {d L t : Nat} {s l : Nat → Int → Int} (hkt : KT L t t) (hW : s 580 6 = 23) : mm_Ev mm_ct mm_CM (d + 2) 57 [.ref 580] (MX L t s l) (some (.int (iI (0))), MX L t s l) := by
  have hc : (mm_CM 57).2.2.2.2.2.2.2 = mm_cf cd_57 := by rw [cm_57]; rfl
  refine ev_of (mx := 1) (by rw [cm_57]; decide) (by rw [cm_57]; rfl) (by show 1 ≤ _; decide) ?_
  show mm_wp _ _ (0, [some (.ref 580)], [], MX L t s l) (fun r => r = (some (.int (iI (0))), MX L t s l))
  have ht6 := hkt.1
  refine wi_a1 hc rfl rfl ?_
  refine wi_gfv (kz := 6) rfl hc rfl rfl (by decide) (Nat.le_of_ble_eq_true rfl) rfl (v := 23) (hW) ?_
  refine wi_sw hc rfl ⟨by decide, by decide⟩ ?_
  show mm_wp _ _ (68, [some (.ref 580)], [], MX L t s l) _
  refine wi_ic hc rfl ?_
  refine wi_r0 hc rfl (by rw [cm_57]; rfl) ?_
  rfl
theorem sl_58_0 {d L t : Nat} {s l : Nat → Int → Int} (hkt : KT L t t) (hW : s 580 6 = 15) {i : Int} (hi : 0 ≤ i ∧ i < 24) (h5 : s t 5 = i + 1) {v : Int} (hv : s (t + 2) (3 * i) = v) : mm_Ev mm_ct mm_CM (d + 2) 58 [.ref 580, .int (iI i)] (MX L t s l) (some (.int (iI v)), MX L t s l) := by
  have hc : (mm_CM 58).2.2.2.2.2.2.2 = mm_cf cd_58 := by rw [cm_58]; rfl
  refine ev_of (mx := 2) (by rw [cm_58]; decide) (by rw [cm_58]; rfl) (by show 2 ≤ _; decide) ?_
  show mm_wp _ _ (0, [some (.ref 580), some (.int (iI i))], [], MX L t s l) (fun r => r = (some (.int (iI v)), MX L t s l))
  have ht6 := hkt.1
  refine wi_a1 hc rfl rfl ?_
  refine wi_gfv (kz := 6) rfl hc rfl rfl (by decide) (Nat.le_of_ble_eq_true rfl) rfl (v := 15) (hW) ?_
  refine wi_sw hc rfl ⟨by decide, by decide⟩ ?_
  show mm_wp _ _ (32, [some (.ref 580), some (.int (iI i))], [], MX L t s l) _
  refine wi_a1 hc rfl rfl ?_
  refine wi_gr (w := t) hc rfl rfl (by decide) (Nat.le_of_ble_eq_true rfl) rfl ?_
  refine wi_i1 hc rfl rfl ?_
  refine wi_ic hc rfl ?_
  have hT : mm_Ev mm_ct mm_CM (0 + 1) 82 [.ref t, .int (iI i), .int (iI 0)] (MX L t s l) (some (.int (iI v)), MX L t s l) := by
    rw [← hv, show 3 * i = 3 * i + 0 by omega]
    exact sp_82 (d := 0) hkt h5 ⟨by omega, by omega⟩ hi.1 (by omega) (j := 0) (by decide) (by decide)
  refine wp_cv (b := t) (As := [.int (iI i), .int (iI 0)]) (r := []) hc rfl (by rw [cm_82]; rfl) rfl (Nat.le_of_ble_eq_true rfl) (show t < 621 by omega) (by rw [cm_82]; exact congrArg Prod.fst hkt.2.1) (ev_mono hT (by omega)) ?_
  show mm_wp _ _ (41, [some (.ref 580), some (.int (iI i))], [.int (iI v)], MX L t s l) _
  refine wi_ri hc rfl (by rw [cm_58]; rfl) ?_
  rfl
theorem sl_58_1 {d L t : Nat} {s l : Nat → Int → Int} (hkt : KT L t t) (hW : s 580 6 = 16) {i : Int} : mm_Ev mm_ct mm_CM (d + 2) 58 [.ref 580, .int (iI i)] (MX L t s l) (some (.int (iI 6)), MX L t s l) := by
  have hc : (mm_CM 58).2.2.2.2.2.2.2 = mm_cf cd_58 := by rw [cm_58]; rfl
  refine ev_of (mx := 2) (by rw [cm_58]; decide) (by rw [cm_58]; rfl) (by show 2 ≤ _; decide) ?_
  show mm_wp _ _ (0, [some (.ref 580), some (.int (iI i))], [], MX L t s l) (fun r => r = (some (.int (iI 6)), MX L t s l))
  have ht6 := hkt.1
  refine wi_a1 hc rfl rfl ?_
  refine wi_gfv (kz := 6) rfl hc rfl rfl (by decide) (Nat.le_of_ble_eq_true rfl) rfl (v := 16) (hW) ?_
  refine wi_sw hc rfl ⟨by decide, by decide⟩ ?_
  show mm_wp _ _ (42, [some (.ref 580), some (.int (iI i))], [], MX L t s l) _
  refine wi_bi hc rfl rfl ?_
  refine wi_ri hc rfl (by rw [cm_58]; rfl) ?_
  rfl
theorem sl_58_2 {d L t : Nat} {s l : Nat → Int → Int} (hkt : KT L t t) (hW : s 580 6 = 17) {i : Int} : mm_Ev mm_ct mm_CM (d + 2) 58 [.ref 580, .int (iI i)] (MX L t s l) (some (.int (iI 7)), MX L t s l) := by
  have hc : (mm_CM 58).2.2.2.2.2.2.2 = mm_cf cd_58 := by rw [cm_58]; rfl
  refine ev_of (mx := 2) (by rw [cm_58]; decide) (by rw [cm_58]; rfl) (by show 2 ≤ _; decide) ?_
  show mm_wp _ _ (0, [some (.ref 580), some (.int (iI i))], [], MX L t s l) (fun r => r = (some (.int (iI 7)), MX L t s l))
  have ht6 := hkt.1
  refine wi_a1 hc rfl rfl ?_
  refine wi_gfv (kz := 6) rfl hc rfl rfl (by decide) (Nat.le_of_ble_eq_true rfl) rfl (v := 17) (hW) ?_
  refine wi_sw hc rfl ⟨by decide, by decide⟩ ?_
  show mm_wp _ _ (45, [some (.ref 580), some (.int (iI i))], [], MX L t s l) _
  refine wi_bi hc rfl rfl ?_
  refine wi_ri hc rfl (by rw [cm_58]; rfl) ?_
  rfl
theorem sl_58_3 {d L t : Nat} {s l : Nat → Int → Int} (hkt : KT L t t) (hW : s 580 6 = 18) {i : Int} : mm_Ev mm_ct mm_CM (d + 2) 58 [.ref 580, .int (iI i)] (MX L t s l) (some (.int (iI (-1))), MX L t s l) := by
  have hc : (mm_CM 58).2.2.2.2.2.2.2 = mm_cf cd_58 := by rw [cm_58]; rfl
  refine ev_of (mx := 2) (by rw [cm_58]; decide) (by rw [cm_58]; rfl) (by show 2 ≤ _; decide) ?_
  show mm_wp _ _ (0, [some (.ref 580), some (.int (iI i))], [], MX L t s l) (fun r => r = (some (.int (iI (-1))), MX L t s l))
  have ht6 := hkt.1
  refine wi_a1 hc rfl rfl ?_
  refine wi_gfv (kz := 6) rfl hc rfl rfl (by decide) (Nat.le_of_ble_eq_true rfl) rfl (v := 18) (hW) ?_
  refine wi_sw hc rfl ⟨by decide, by decide⟩ ?_
  show mm_wp _ _ (48, [some (.ref 580), some (.int (iI i))], [], MX L t s l) _
  refine wi_ic hc rfl ?_
  refine wi_ri hc rfl (by rw [cm_58]; rfl) ?_
  rfl
theorem sl_58_4 {d L t : Nat} {s l : Nat → Int → Int} (hkt : KT L t t) (hW : s 580 6 = 19) {i : Int} : mm_Ev mm_ct mm_CM (d + 2) 58 [.ref 580, .int (iI i)] (MX L t s l) (some (.int (iI (-1))), MX L t s l) := by
  have hc : (mm_CM 58).2.2.2.2.2.2.2 = mm_cf cd_58 := by rw [cm_58]; rfl
  refine ev_of (mx := 2) (by rw [cm_58]; decide) (by rw [cm_58]; rfl) (by show 2 ≤ _; decide) ?_
  show mm_wp _ _ (0, [some (.ref 580), some (.int (iI i))], [], MX L t s l) (fun r => r = (some (.int (iI (-1))), MX L t s l))
  have ht6 := hkt.1
  refine wi_a1 hc rfl rfl ?_
  refine wi_gfv (kz := 6) rfl hc rfl rfl (by decide) (Nat.le_of_ble_eq_true rfl) rfl (v := 19) (hW) ?_
  refine wi_sw hc rfl ⟨by decide, by decide⟩ ?_
  show mm_wp _ _ (48, [some (.ref 580), some (.int (iI i))], [], MX L t s l) _
  refine wi_ic hc rfl ?_
  refine wi_ri hc rfl (by rw [cm_58]; rfl) ?_
  rfl
theorem sl_58_5 {d L t : Nat} {s l : Nat → Int → Int} (hkt : KT L t t) (hW : s 580 6 = 20) {i : Int} : mm_Ev mm_ct mm_CM (d + 2) 58 [.ref 580, .int (iI i)] (MX L t s l) (some (.int (iI (-1))), MX L t s l) := by
  have hc : (mm_CM 58).2.2.2.2.2.2.2 = mm_cf cd_58 := by rw [cm_58]; rfl
  refine ev_of (mx := 2) (by rw [cm_58]; decide) (by rw [cm_58]; rfl) (by show 2 ≤ _; decide) ?_
  show mm_wp _ _ (0, [some (.ref 580), some (.int (iI i))], [], MX L t s l) (fun r => r = (some (.int (iI (-1))), MX L t s l))
  have ht6 := hkt.1
  refine wi_a1 hc rfl rfl ?_
  refine wi_gfv (kz := 6) rfl hc rfl rfl (by decide) (Nat.le_of_ble_eq_true rfl) rfl (v := 20) (hW) ?_
  refine wi_sw hc rfl ⟨by decide, by decide⟩ ?_
  show mm_wp _ _ (48, [some (.ref 580), some (.int (iI i))], [], MX L t s l) _
  refine wi_ic hc rfl ?_
  refine wi_ri hc rfl (by rw [cm_58]; rfl) ?_
  rfl
theorem sl_58_6 {d L t : Nat} {s l : Nat → Int → Int} (hkt : KT L t t) (hW : s 580 6 = 21) {i : Int} : mm_Ev mm_ct mm_CM (d + 2) 58 [.ref 580, .int (iI i)] (MX L t s l) (some (.int (iI (-1))), MX L t s l) := by
  have hc : (mm_CM 58).2.2.2.2.2.2.2 = mm_cf cd_58 := by rw [cm_58]; rfl
  refine ev_of (mx := 2) (by rw [cm_58]; decide) (by rw [cm_58]; rfl) (by show 2 ≤ _; decide) ?_
  show mm_wp _ _ (0, [some (.ref 580), some (.int (iI i))], [], MX L t s l) (fun r => r = (some (.int (iI (-1))), MX L t s l))
  have ht6 := hkt.1
  refine wi_a1 hc rfl rfl ?_
  refine wi_gfv (kz := 6) rfl hc rfl rfl (by decide) (Nat.le_of_ble_eq_true rfl) rfl (v := 21) (hW) ?_
  refine wi_sw hc rfl ⟨by decide, by decide⟩ ?_
  show mm_wp _ _ (48, [some (.ref 580), some (.int (iI i))], [], MX L t s l) _
  refine wi_ic hc rfl ?_
  refine wi_ri hc rfl (by rw [cm_58]; rfl) ?_
  rfl
theorem sl_58_7 {d L t : Nat} {s l : Nat → Int → Int} (hkt : KT L t t) (hW : s 580 6 = 22) {i : Int} : mm_Ev mm_ct mm_CM (d + 2) 58 [.ref 580, .int (iI i)] (MX L t s l) (some (.int (iI (-1))), MX L t s l) := by
  have hc : (mm_CM 58).2.2.2.2.2.2.2 = mm_cf cd_58 := by rw [cm_58]; rfl
  refine ev_of (mx := 2) (by rw [cm_58]; decide) (by rw [cm_58]; rfl) (by show 2 ≤ _; decide) ?_
  show mm_wp _ _ (0, [some (.ref 580), some (.int (iI i))], [], MX L t s l) (fun r => r = (some (.int (iI (-1))), MX L t s l))
  have ht6 := hkt.1
  refine wi_a1 hc rfl rfl ?_
  refine wi_gfv (kz := 6) rfl hc rfl rfl (by decide) (Nat.le_of_ble_eq_true rfl) rfl (v := 22) (hW) ?_
  refine wi_sw hc rfl ⟨by decide, by decide⟩ ?_
  show mm_wp _ _ (48, [some (.ref 580), some (.int (iI i))], [], MX L t s l) _
  refine wi_ic hc rfl ?_
  refine wi_ri hc rfl (by rw [cm_58]; rfl) ?_
  rfl
theorem sl_58_8 {d L t : Nat} {s l : Nat → Int → Int} (hkt : KT L t t) (hW : s 580 6 = 5) {i : Int} : mm_Ev mm_ct mm_CM (d + 2) 58 [.ref 580, .int (iI i)] (MX L t s l) (some (.int (iI (-1))), MX L t s l) := by
  have hc : (mm_CM 58).2.2.2.2.2.2.2 = mm_cf cd_58 := by rw [cm_58]; rfl
  refine ev_of (mx := 2) (by rw [cm_58]; decide) (by rw [cm_58]; rfl) (by show 2 ≤ _; decide) ?_
  show mm_wp _ _ (0, [some (.ref 580), some (.int (iI i))], [], MX L t s l) (fun r => r = (some (.int (iI (-1))), MX L t s l))
  have ht6 := hkt.1
  refine wi_a1 hc rfl rfl ?_
  refine wi_gfv (kz := 6) rfl hc rfl rfl (by decide) (Nat.le_of_ble_eq_true rfl) rfl (v := 5) (hW) ?_
  refine wi_sw hc rfl ⟨by decide, by decide⟩ ?_
  show mm_wp _ _ (48, [some (.ref 580), some (.int (iI i))], [], MX L t s l) _
  refine wi_ic hc rfl ?_
  refine wi_ri hc rfl (by rw [cm_58]; rfl) ?_
  rfl
theorem sl_58_9 {d L t : Nat} {s l : Nat → Int → Int} (hkt : KT L t t) (hW : s 580 6 = 23) {i : Int} : mm_Ev mm_ct mm_CM (d + 2) 58 [.ref 580, .int (iI i)] (MX L t s l) (some (.int (iI (-1))), MX L t s l) := by
  have hc : (mm_CM 58).2.2.2.2.2.2.2 = mm_cf cd_58 := by rw [cm_58]; rfl
  refine ev_of (mx := 2) (by rw [cm_58]; decide) (by rw [cm_58]; rfl) (by show 2 ≤ _; decide) ?_
  show mm_wp _ _ (0, [some (.ref 580), some (.int (iI i))], [], MX L t s l) (fun r => r = (some (.int (iI (-1))), MX L t s l))
  have ht6 := hkt.1
  refine wi_a1 hc rfl rfl ?_
  refine wi_gfv (kz := 6) rfl hc rfl rfl (by decide) (Nat.le_of_ble_eq_true rfl) rfl (v := 23) (hW) ?_
  refine wi_sw hc rfl ⟨by decide, by decide⟩ ?_
  show mm_wp _ _ (48, [some (.ref 580), some (.int (iI i))], [], MX L t s l) _
  refine wi_ic hc rfl ?_
  refine wi_ri hc rfl (by rw [cm_58]; rfl) ?_
  rfl
theorem cl_56_x {D L t : Nat} {s l : Nat → Int → Int} (hD : 24 ≤ D) (hkt : KT L t t) {kd k pl nm : Int → Int} {tn W0 op0 : Int} (hGC : GTC kd k pl nm tn) {z : rpS} (h : CSt kd pl nm tn t W0 s z op0) (hg : rpG tn z) {G : Int → Int} (hG : CG t s G) (hI : GTb G z.2.2) {i : Int} (hi : i = G 0) (hs9 : soO (k z.1) = -1) {r : rcR} (hr : rcCl k nm z G = r) : ∃ s1, mm_Ev mm_ct mm_CM (D + 1) 56 [.ref 580, .int (iI i)] (MX L t s l) (some (.int (iI (bI (r.1 = 0)))), MX L t s1 l) ∧ (r.1 = 0 → (∃ W1 op1, CSt kd pl nm tn t W1 s1 r.2.1 op1) ∧ CG t s1 r.2.2) ∧ (r.1 ≠ 0 → s1 580 8 = r.1 ∧ s1 580 9 = plA pl tn r.2.1.1) ∧ CCf t z.2.2 s s1 := by
  have hc : (mm_CM 56).2.2.2.2.2.2.2 = mm_cf cd_56 := by rw [cm_56]; rfl
  refine ev_xs ?_
  refine ev_to (mx := 4) (by rw [cm_56]; decide) (by rw [cm_56]; rfl) (by show 2 ≤ _; decide) ?_
  show mm_wp _ _ (0, [some (.ref 580), some (.int (iI i)), none, none], [], MX L t s l) (fun res => ∃ s1, res = (some (.int (iI (bI (r.1 = 0)))), MX L t s1 l) ∧ (r.1 = 0 → (∃ W1 op1, CSt kd pl nm tn t W1 s1 r.2.1 op1) ∧ CG t s1 r.2.2) ∧ (r.1 ≠ 0 → s1 580 8 = r.1 ∧ s1 580 9 = plA pl tn r.2.1.1) ∧ CCf t z.2.2 s s1)
  obtain ⟨hk, hk43, hkr, htn⟩ := id hGC
  obtain ⟨hg0, hg1, hg2, hg3⟩ := id hg
  have ht6 := hkt.1
  have hka := kt_all hkt
  have hkz := hkr z.1
  have hG0 := hG.2.1
  have hq9 := soO_s (k z.1)
  refine wi_a1 hc rfl rfl ?_
  refine wi_a1 hc rfl rfl ?_
  have hk1_ : mm_Ev mm_ct mm_CM (0 + 1) 53 [.ref 580] (MX L t s l) (some (.int (iI (k z.1))), MX L t s l) := by rw [hk]; exact sp_53 (d := 0) (CSt.rR h) (CSt.ra h) ⟨by omega, by omega⟩
  skip
  refine wp_cv (b := 580) (As := []) (r := [.ref 580]) hc rfl (by rw [cm_53]; rfl) rfl (Nat.le_of_ble_eq_true rfl) (show 580 < 621 by decide) (by rw [cm_53]; rfl) (ev_mono hk1_ (by omega)) ?_
  show mm_wp _ _ (5, [some (.ref 580), some (.int (iI i)), none, none], [.int (iI (k z.1)), .ref 580], MX L t s l) _
  refine wi_pf (kz := 6) rfl hc rfl rfl (by decide) (Nat.le_of_ble_eq_true rfl) rfl (Nat.le_of_ble_eq_true rfl) ⟨rfl, rfl⟩ rfl ?_
  obtain ⟨s1_, es1_⟩ : ∃ q, q = up s 580 6 (k z.1) := ⟨_, rfl⟩
  rw [← es1_]
  refine wi_a1 hc rfl rfl ?_
  refine wi_gfv (kz := 6) rfl hc rfl rfl (by decide) (Nat.le_of_ble_eq_true rfl) rfl (v := k z.1) ((congrFun (congrFun es1_ _) _).trans (up_e (by omega))) ?_
  refine wi_ic hc rfl ?_
  refine wi_ceq hc rfl ⟨by omega, by omega⟩ ⟨by decide, by decide⟩ (fun h1_ => (by exfalso; omega)) (fun h1_ => ?_)
  refine wi_a1 hc rfl rfl ?_
  refine wi_gfv (kz := 6) rfl hc rfl rfl (by decide) (Nat.le_of_ble_eq_true rfl) rfl (v := k z.1) ((congrFun (congrFun es1_ _) _).trans (up_e (by omega))) ?_
  refine wi_bi hc rfl rfl ?_
  refine wi_clt hc rfl ⟨by omega, by omega⟩ ⟨by decide, by decide⟩ (fun h2_ => ?_) (fun h2_ => ?_)
  · refine wi_a1 hc rfl rfl ?_
    refine wi_ic hc rfl ?_
    have hM2_ := h.sw6 hkt es1_
    obtain ⟨s2_, hE2_, hX2_, hY2_⟩ := sp_54 (d := 0) (L := L) (t := t) (l := l) (CSt.rR hM2_) (CSt.ra hM2_) ⟨by omega, by omega⟩ (n := 1) ⟨by decide, by decide⟩
    refine wp_cv (b := 580) (As := [.int (iI 1)]) (r := []) hc rfl (by rw [cm_54]; rfl) rfl (Nat.le_of_ble_eq_true rfl) (show 580 < 621 by decide) (by rw [cm_54]; rfl) (ev_mono hE2_ (by omega)) ?_
    show mm_wp _ _ (39, [some (.ref 580), some (.int (iI i)), none, none], [.int (iI 0)], MX L t s2_ l) _
    refine wi_r0 hc rfl (by rw [cm_56]; rfl) ?_
    have hr9 : r = (1, z, G) := by rw [← hr, rcCl_1 (by omega)]
    subst hr9
    exact ⟨s2_, by rw [bI_f (p := ((1, z, G) : rcR).1 = 0) (by show ¬ (1 : Int) = 0; decide)], fun e => absurd (show (1 : Int) = 0 from e) (by decide), fun _ => ⟨by rw [hY2_]; rfl, by rw [hY2_]; rfl⟩, fun q a1 a2 => by rw [hX2_ q a1, es1_, up_cc a1], fun j a1 a2 => by rw [hY2_, if_neg (by omega), if_neg (by omega), es1_, up_k (by omega)], fun j a => by rw [hX2_ (t + 3) (by omega), es1_, up_cc (by omega)]⟩
  · refine wi_a1 hc rfl rfl ?_
    refine wi_gfv (kz := 6) rfl hc rfl rfl (by decide) (Nat.le_of_ble_eq_true rfl) rfl (v := k z.1) ((congrFun (congrFun es1_ _) _).trans (up_e (by omega))) ?_
    refine wi_bi hc rfl rfl ?_
    refine wi_cle hc rfl ⟨by omega, by omega⟩ ⟨by decide, by decide⟩ (fun h3_ => (by exfalso; omega)) (fun h3_ => ?_)
    refine wi_a1 hc rfl rfl ?_
    refine wi_ic hc rfl ?_
    have hM3_ := h.sw6 hkt es1_
    obtain ⟨s3_, hE3_, hX3_, hY3_⟩ := sp_54 (d := 0) (L := L) (t := t) (l := l) (CSt.rR hM3_) (CSt.ra hM3_) ⟨by omega, by omega⟩ (n := 1) ⟨by decide, by decide⟩
    refine wp_cv (b := 580) (As := [.int (iI 1)]) (r := []) hc rfl (by rw [cm_54]; rfl) rfl (Nat.le_of_ble_eq_true rfl) (show 580 < 621 by decide) (by rw [cm_54]; rfl) (ev_mono hE3_ (by omega)) ?_
    show mm_wp _ _ (39, [some (.ref 580), some (.int (iI i)), none, none], [.int (iI 0)], MX L t s3_ l) _
    refine wi_r0 hc rfl (by rw [cm_56]; rfl) ?_
    have hr9 : r = (1, z, G) := by rw [← hr, rcCl_1 (by omega)]
    subst hr9
    exact ⟨s3_, by rw [bI_f (p := ((1, z, G) : rcR).1 = 0) (by show ¬ (1 : Int) = 0; decide)], fun e => absurd (show (1 : Int) = 0 from e) (by decide), fun _ => ⟨by rw [hY3_]; rfl, by rw [hY3_]; rfl⟩, fun q a1 a2 => by rw [hX3_ q a1, es1_, up_cc a1], fun j a1 a2 => by rw [hY3_, if_neg (by omega), if_neg (by omega), es1_, up_k (by omega)], fun j a => by rw [hX3_ (t + 3) (by omega), es1_, up_cc (by omega)]⟩
theorem AC.fb {t : Nat} {i lit c sl b e : Int} {s s1 : Nat → Int → Int} (h : AC t i lit c sl b e s s1) {C : Int → Prop} [DecidablePred C] (hC : ∀ j, 0 ≤ j → (C j ↔ j = sl)) : ∀ j, 0 ≤ j → j < 8 → s1 (t + 4) j = (if C j then b else s (t + 4) j) ∧ s1 (t + 5) j = (if C j then e else s (t + 5) j) := fun j j0 _ => by
  obtain ⟨p1, p2⟩ := h.2.2.2.2.2.2.2 j j0
  by_cases q : j = sl
  · rw [if_pos q] at p1 p2
    rw [if_pos ((hC j j0).mpr q), if_pos ((hC j j0).mpr q)]
    exact ⟨p1, p2⟩
  · rw [if_neg q] at p1 p2
    rw [if_neg (fun e => q ((hC j j0).mp e)), if_neg (fun e => q ((hC j j0).mp e))]
    exact ⟨p1, p2⟩
theorem CG.n7 {t : Nat} {s : Nat → Int → Int} {G : Int → Int} {c : Int} (h : CG t s G) (hI : GTb G c) : rI (s t 7) ∧ (0 < s t 7 ↔ 0 ≤ rcHas G 3 0) := by
  obtain ⟨-, h0, -, -, -, -, hn⟩ := h
  obtain ⟨a1, a2, a3, a4⟩ := rcHas_r (G := G) (so := 3) (la := 0) h0.1
  rw [hn]
  rcases (by omega : rcHas G 3 0 < 0 ∨ 0 ≤ rcHas G 3 0) with g | g
  · rw [if_pos g]
    exact ⟨⟨by decide, by decide⟩, ⟨fun e => absurd e (by decide), fun e => by omega⟩⟩
  · rw [if_neg (by omega)]
    have := (hI.2.2 _ g a2).2.2.2.1 (a3 g).1
    exact ⟨⟨by omega, by omega⟩, ⟨fun _ => g, fun _ => by omega⟩⟩
theorem rcMore_0 {k nm : Int → Int} {y : rpS} : rcMore k nm 0 y = rpEi k nm 15 301 false false y := if_pos rfl
theorem rcMore_1 {k nm : Int → Int} {y : rpS} : rcMore k nm 1 y = rpEi k nm 16 301 false false y := by unfold rcMore; rw [if_neg (by decide), if_pos rfl]
theorem rcMore_2 {k nm : Int → Int} {y : rpS} : rcMore k nm 2 y = rpSum k (rpOne k nm 17 8) y := by unfold rcMore; rw [if_neg (by decide), if_neg (by decide), if_pos rfl]
theorem rcMore_n {k nm : Int → Int} {so : Int} {y : rpS} (h : 3 ≤ so) : rcMore k nm so y = (0, y) := by unfold rcMore; rw [if_neg (by omega), if_neg (by omega), if_neg (by omega)]
theorem rcNum_K {k nm G : Int → Int} {tn so : Int} (hk : ∀ a, tn ≤ a → k a = 43) {z y : rpS} (h0 : 0 ≤ so) (hz : z.1 ≤ tn) (h : rcNum k nm G so z = (0, y)) : z.1 ≤ y.1 ∧ y.1 ≤ tn ∧ y.2 = z.2 ∧ (so = 0 → (0 ≤ nm z.1 ∧ nm z.1 ≤ 5) ∧ rcHas G 0 (nm z.1) < 0) := by
  unfold rcNum at h
  by_cases e : so = 0
  · rw [if_pos e] at h
    obtain ⟨g1, g2⟩ := rcF_K hk h
    subst g2
    refine ⟨by show z.1 ≤ z.1 + 1; omega, g1, rfl, fun _ => ?_⟩
    unfold rcF at h
    rw [if_pos rfl] at h
    obtain ⟨u, h1, h2⟩ := rpB_0 h
    obtain ⟨-, -, g3⟩ := rcFig_K hk h1
    split at h2
    · cases h2
    · exact ⟨g3, by omega⟩
  · rw [if_neg e] at h
    have w1 : ∀ {lo hi : Int} {x u : rpS}, rcFig k nm lo hi x = (0, u) → x.1 ≤ u.1 ∧ u.1 ≤ tn ∧ u.2 = x.2 := fun q => by
      obtain ⟨g1, g2, -⟩ := rcFig_K hk q
      exact ⟨g1.1, g1.2.2.2.1, by rw [g2]; rfl⟩
    have w2 : ∀ {q9 : Int} {x u : rpS}, q9 ≠ 43 → rcWd k q9 x = (0, u) → x.1 ≤ u.1 ∧ u.1 ≤ tn ∧ u.2 = x.2 := fun n q => by
      obtain ⟨g1, g2⟩ := rcWd_K hk n q
      exact ⟨g1.1, g1.2.2.2.1, by rw [g2]; rfl⟩
    have key : z.1 ≤ y.1 ∧ y.1 ≤ tn ∧ y.2 = z.2 := by
      split at h
      · cases h; exact ⟨Int.le_refl _, hz, rfl⟩
      · split at h
        · exact w1 h
        · split at h
          · exact w1 h
          · split at h
            · obtain ⟨u, h1, h2⟩ := rpB_0 h
              obtain ⟨u2, h3, h4⟩ := rpB_0 h2
              obtain ⟨a1, a2, a3⟩ := w1 h1
              obtain ⟨b1, b2, b3⟩ := w2 (by decide) h3
              obtain ⟨c1, c2, c3⟩ := w1 h4
              exact ⟨by omega, c2, c3.trans (b3.trans a3)⟩
            · split at h
              · exact w1 h
              · split at h
                · obtain ⟨u, h1, h2⟩ := rpB_0 h
                  obtain ⟨u2, h3, h4⟩ := rpB_0 h2
                  obtain ⟨u3, h5, h6⟩ := rpB_0 h4
                  obtain ⟨u4, h7, h8⟩ := rpB_0 h6
                  obtain ⟨a1, a2, a3⟩ := w1 h1
                  obtain ⟨b1, b2, b3⟩ := w2 (by decide) h3
                  obtain ⟨c1, c2, c3⟩ := w1 h5
                  obtain ⟨d1, d2, d3⟩ := w2 (by decide) h7
                  obtain ⟨e1, e2, e3⟩ := w1 h8
                  exact ⟨by omega, e2, e3.trans (d3.trans (c3.trans (b3.trans a3)))⟩
                · cases h; exact ⟨Int.le_refl _, hz, rfl⟩
    exact ⟨key.1, key.2.1, key.2.2, fun q => absurd q e⟩
theorem cl_56_0 {D L t : Nat} {s l : Nat → Int → Int} (hD : 24 ≤ D) (hkt : KT L t t) {kd k pl nm : Int → Int} {tn W0 op0 : Int} (hGC : GTC kd k pl nm tn) {z : rpS} (h : CSt kd pl nm tn t W0 s z op0) (hg : rpG tn z) {G : Int → Int} (hG : CG t s G) (hI : GTb G z.2.2) {i : Int} (hi : i = G 0) (hk9 : k z.1 = 15) (hs9 : soO (k z.1) = 0) {r : rcR} (hr : rcCl k nm z G = r) : ∃ s1, mm_Ev mm_ct mm_CM (D + 1) 56 [.ref 580, .int (iI i)] (MX L t s l) (some (.int (iI (bI (r.1 = 0)))), MX L t s1 l) ∧ (r.1 = 0 → (∃ W1 op1, CSt kd pl nm tn t W1 s1 r.2.1 op1) ∧ CG t s1 r.2.2) ∧ (r.1 ≠ 0 → s1 580 8 = r.1 ∧ s1 580 9 = plA pl tn r.2.1.1) ∧ CCf t z.2.2 s s1 := by
  have hc : (mm_CM 56).2.2.2.2.2.2.2 = mm_cf cd_56 := by rw [cm_56]; rfl
  refine ev_xs ?_
  refine ev_to (mx := 4) (by rw [cm_56]; decide) (by rw [cm_56]; rfl) (by show 2 ≤ _; decide) ?_
  show mm_wp _ _ (0, [some (.ref 580), some (.int (iI i)), none, none], [], MX L t s l) (fun res => ∃ s1, res = (some (.int (iI (bI (r.1 = 0)))), MX L t s1 l) ∧ (r.1 = 0 → (∃ W1 op1, CSt kd pl nm tn t W1 s1 r.2.1 op1) ∧ CG t s1 r.2.2) ∧ (r.1 ≠ 0 → s1 580 8 = r.1 ∧ s1 580 9 = plA pl tn r.2.1.1) ∧ CCf t z.2.2 s s1)
  obtain ⟨hk, hk43, hkr, htn⟩ := id hGC
  obtain ⟨hg0, hg1, hg2, hg3⟩ := id hg
  have ht6 := hkt.1
  have hka := kt_all hkt
  have hkz := hkr z.1
  have hG0 := hG.2.1
  refine wi_a1 hc rfl rfl ?_
  refine wi_a1 hc rfl rfl ?_
  have hk1_ : mm_Ev mm_ct mm_CM (0 + 1) 53 [.ref 580] (MX L t s l) (some (.int (iI (k z.1))), MX L t s l) := by rw [hk]; exact sp_53 (d := 0) (CSt.rR h) (CSt.ra h) ⟨by omega, by omega⟩
  rw [hk9] at hk1_
  refine wp_cv (b := 580) (As := []) (r := [.ref 580]) hc rfl (by rw [cm_53]; rfl) rfl (Nat.le_of_ble_eq_true rfl) (show 580 < 621 by decide) (by rw [cm_53]; rfl) (ev_mono hk1_ (by omega)) ?_
  show mm_wp _ _ (5, [some (.ref 580), some (.int (iI i)), none, none], [.int (iI 15), .ref 580], MX L t s l) _
  refine wi_pf (kz := 6) rfl hc rfl rfl (by decide) (Nat.le_of_ble_eq_true rfl) rfl (Nat.le_of_ble_eq_true rfl) ⟨rfl, rfl⟩ rfl ?_
  obtain ⟨s1_, es1_⟩ : ∃ q, q = up s 580 6 15 := ⟨_, rfl⟩
  rw [← es1_]
  refine wi_a1 hc rfl rfl ?_
  refine wi_gfv (kz := 6) rfl hc rfl rfl (by decide) (Nat.le_of_ble_eq_true rfl) rfl (v := 15) ((congrFun (congrFun es1_ _) _).trans (up_e (by omega))) ?_
  refine wi_ic hc rfl ?_
  refine wi_ceq hc rfl ⟨by decide, by decide⟩ ⟨by decide, by decide⟩ (fun q => absurd q (by decide)) (fun _ => ?_)
  refine wi_a1 hc rfl rfl ?_
  refine wi_gfv (kz := 6) rfl hc rfl rfl (by decide) (Nat.le_of_ble_eq_true rfl) rfl (v := 15) ((congrFun (congrFun es1_ _) _).trans (up_e (by omega))) ?_
  refine wi_bi hc rfl rfl ?_
  refine wi_clt hc rfl ⟨by decide, by decide⟩ ⟨by decide, by decide⟩ (fun q => absurd q (by decide)) (fun _ => ?_)
  refine wi_a1 hc rfl rfl ?_
  refine wi_gfv (kz := 6) rfl hc rfl rfl (by decide) (Nat.le_of_ble_eq_true rfl) rfl (v := 15) ((congrFun (congrFun es1_ _) _).trans (up_e (by omega))) ?_
  refine wi_bi hc rfl rfl ?_
  refine wi_cle hc rfl ⟨by decide, by decide⟩ ⟨by decide, by decide⟩ (fun _ => ?_) (fun q => absurd q (by decide))
  refine wi_a1 hc rfl rfl ?_
  refine wp_cv (b := 580) (As := []) (r := []) hc rfl (by rw [cm_57]; rfl) rfl (Nat.le_of_ble_eq_true rfl) (show 580 < 621 by decide) (by rw [cm_57]; rfl) (ev_mono (tw_57_0 (d := 0) hkt (by rw [es1_, up_at])) (by omega)) ?_
  show mm_wp _ _ (44, [some (.ref 580), some (.int (iI i)), none, none], [.int (iI 0)], MX L t s1_ l) _
  refine wi_zeq hc rfl ⟨by decide, by decide⟩ (fun _ => ?_) (fun q => absurd q (by decide))
  refine wi_i1 hc rfl rfl ?_
  refine wi_bi hc rfl rfl ?_
  refine wi_clt hc rfl ⟨by omega, by omega⟩ ⟨by decide, by decide⟩ (fun h5_ => ?_) (fun h5_ => ?_)
  · have hnx9 : z.1 + 1 < tn := by
      rcases (by omega : z.1 + 1 < tn ∨ tn - 1 ≤ z.1) with g | g
      · exact g
      · exfalso; have := hk43 z.1 g; omega
    refine wi_a1 hc rfl rfl ?_
    refine wi_dupr hc rfl ?_
    refine wi_gfv (kz := 4) rfl hc rfl rfl (by decide) (Nat.le_of_ble_eq_true rfl) rfl (v := z.1) (((congrFun (congrFun es1_ _) _).trans (up_k (by omega))).trans ((by have q := CSt.ra h; exact q : s 580 4 = z.1))) ?_
    refine wi_ic hc rfl ?_
    refine wi_add hc rfl ?_
    refine wi_pf (kz := 4) rfl hc rfl rfl (by decide) (Nat.le_of_ble_eq_true rfl) rfl (Nat.le_of_ble_eq_true rfl) ⟨rfl, rfl⟩ rfl ?_
    obtain ⟨s2_, es2_⟩ : ∃ q, q = up s1_ 580 4 (z.1 + 1) := ⟨_, rfl⟩
    rw [← es2_]
    refine wi_a1 hc rfl rfl ?_
    refine wi_ic hc rfl ?_
    refine wi_pf (kz := 7) rfl hc rfl rfl (by decide) (Nat.le_of_ble_eq_true rfl) rfl (Nat.le_of_ble_eq_true rfl) ⟨rfl, rfl⟩ rfl ?_
    obtain ⟨s3_, es3_⟩ : ∃ q, q = up s2_ 580 7 0 := ⟨_, rfl⟩
    rw [← es3_]
    refine wi_a1 hc rfl rfl ?_
    refine wi_gr (w := t) hc rfl rfl (by decide) (Nat.le_of_ble_eq_true rfl) rfl ?_
    refine wi_grs (w := t + 1) hkt.2.1 hc rfl (by have := hkt.1; omega) (by decide) rfl ?_
    refine wi_i1 hc rfl rfl ?_
    refine wi_a1 hc rfl rfl ?_
    refine wi_gfv (kz := 6) rfl hc rfl rfl (by decide) (Nat.le_of_ble_eq_true rfl) rfl (v := 15) (((congrFun (congrFun es3_ _) _).trans (up_k (by omega))).trans (((congrFun (congrFun es2_ _) _).trans (up_k (by omega))).trans ((congrFun (congrFun es1_ _) _).trans (up_e (by omega))))) ?_
    refine wi_ist (N := 24) hc rfl hkt.2.2.1 (by have := hkt.1; omega) (by decide) (by omega) (by omega) ?_
    obtain ⟨s4_, es4_⟩ : ∃ q, q = up s3_ (t + 1) i 15 := ⟨_, rfl⟩
    rw [← es4_]
    refine wi_a1 hc rfl rfl ?_
    refine wi_gr (w := t) hc rfl rfl (by decide) (Nat.le_of_ble_eq_true rfl) rfl ?_
    refine wi_i1 hc rfl rfl ?_
    refine wi_ic hc rfl ?_
    refine wi_add hc rfl ?_
    refine wi_pfs (kz := 5) rfl hkt.2.1 hc rfl (by have := hkt.1; omega) (by decide) rfl (Nat.le_of_ble_eq_true rfl) ⟨rfl, rfl⟩ rfl ?_
    obtain ⟨s5_, es5_⟩ : ∃ q, q = up s4_ t 5 (i + 1) := ⟨_, rfl⟩
    rw [← es5_]
    refine wi_a1 hc rfl rfl ?_
    refine wi_gr (w := t) hc rfl rfl (by decide) (Nat.le_of_ble_eq_true rfl) rfl ?_
    refine wi_gfs (kz := 6) rfl hkt.2.1 hc rfl (by have := hkt.1; omega) (by decide) rfl (v := z.2.2) (((congrFun (congrFun es5_ _) _).trans (up_k (by omega))).trans (((congrFun (congrFun es4_ _) _).trans (up_c (by omega))).trans (((congrFun (congrFun es3_ _) _).trans (up_c (by omega))).trans (((congrFun (congrFun es2_ _) _).trans (up_c (by omega))).trans (((congrFun (congrFun es1_ _) _).trans (up_c (by omega))).trans ((by have q := CSt.rc h; exact q : s t 6 = z.2.2))))))) ?_
    refine wi_is1 (L' := [some (.ref 580), some (.int (iI i)), some (.int (iI z.2.2)), none]) hc rfl (Nat.le_of_ble_eq_true rfl) rfl ?_
    refine wi_a1 hc rfl rfl ?_
    refine wi_i1 hc rfl rfl ?_
    obtain ⟨hMb, hAb, hTb, hB4, hB5⟩ := CSt.beg (c := z.2.2) h hkt es1_ es2_ es3_ es4_ es5_
    have hCH : CH t s5_ G := by
      have q := hG.ch hI
      unfold CH at q ⊢
      rw [hB4, hB5]
      exact q
    obtain ⟨f1, y1, hy1⟩ : ∃ f y, rcNum k nm G 0 (rpNx z) = (f, y) := ⟨_, _, rfl⟩
    obtain ⟨sn, hEn, ⟨hC1, hC2, hC3⟩, hN⟩ := nb_59_0 (d := 0) (L := L) (l := l) hkt hGC hMb ⟨by show 0 ≤ z.1 + 1; omega, by show z.1 + 1 + 1 ≤ tn; omega⟩ hCH (i := i) ⟨by omega, by omega⟩ hy1
    refine wp_cv (b := 580) (As := [.int (iI i)]) (r := []) hc rfl (by rw [cm_59]; rfl) rfl (Nat.le_of_ble_eq_true rfl) (show 580 < 621 by decide) (by rw [cm_59]; rfl) (ev_mono hEn (by omega)) ?_
    have hAn := hAb.cng hkt hC3
    have hDn : f1 = 0 → ND nm t i 0 (rpNx z) s sn := fun e0 => ⟨fun _ => (hN e0).1, fun e => absurd e (by decide), fun e => absurd e (by decide), (by rw [if_neg (by decide)]; exact (hN e0).2.trans (hTb 7 (by decide)))⟩
    show mm_wp _ _ (117, [some (.ref 580), some (.int (iI i)), some (.int (iI z.2.2)), none], [.int (iI (bI (f1 = 0)))], MX L t sn l) _
    refine wi_bne hc rfl (fun h6_ => ?_) (fun h6_ => ?_)
    · subst h6_
      have hMn : CSt kd pl nm tn t 15 sn y1 0 := hC1 rfl
      have hDn := hDn rfl
      obtain ⟨hK1, hK2, hK3, hK4⟩ := rcNum_K hk43 (by decide) (by show z.1 + 1 ≤ tn - 1; omega) hy1
      have hK1 : z.1 + 1 ≤ y1.1 := hK1
      have hK5 : y1.2.2 = z.2.2 := by rw [hK3]; rfl
      have hK6 : 0 ≤ nm (z.1 + 1) ∧ nm (z.1 + 1) ≤ 5 := (hK4 rfl).1
      have hK7 : rcHas G 0 (nm (z.1 + 1)) < 0 := (hK4 rfl).2
      refine wi_a1 hc rfl rfl ?_
      refine wi_i1 hc rfl rfl ?_
      refine wp_cv (b := 580) (As := [.int (iI i)]) (r := []) hc rfl (by rw [cm_58]; rfl) rfl (Nat.le_of_ble_eq_true rfl) (show 580 < 621 by decide) (by rw [cm_58]; rfl) (ev_mono (sl_58_0 (d := 0) hkt (CSt.rw9 hMn) (i := i) ⟨by omega, by omega⟩ hAn.2.2.1 (v := nm (z.1 + 1)) (hDn.1 (Or.inl rfl))) (by omega)) ?_
      show mm_wp _ _ (127, [some (.ref 580), some (.int (iI i)), some (.int (iI z.2.2)), none], [.int (iI (nm (z.1 + 1)))], MX L t sn l) _
      refine wi_is1 (L' := [some (.ref 580), some (.int (iI i)), some (.int (iI z.2.2)), some (.int (iI (nm (z.1 + 1))))]) hc rfl (Nat.le_of_ble_eq_true rfl) rfl ?_
      refine wi_i1 hc rfl rfl ?_
      refine wi_ic hc rfl ?_
      refine wi_ceq hc rfl ⟨by omega, by omega⟩ ⟨by decide, by decide⟩ (fun h7_ => (by exfalso; omega)) (fun h7_ => ?_)
      refine wi_i1 hc rfl rfl ?_
      refine wi_bi hc rfl rfl ?_
      refine wi_cne hc rfl ⟨by omega, by omega⟩ ⟨by decide, by decide⟩ (fun h8_ => ?_) (fun h8_ => (by exfalso; omega))
      refine wi_a1 hc rfl rfl ?_
      obtain ⟨f2, y2, hy2⟩ : ∃ f y, rpEi k nm 15 301 false false y1 = (f, y) := ⟨_, _, rfl⟩
      obtain ⟨sm, hEm, hCm⟩ := ei_61 (D := 23) (L := L) (l := l) (Nat.le_refl _) hkt hGC (by decide) hMn hy2 ⟨by omega, by omega, by omega, by omega⟩ (c := z.2.2) (by omega)
      refine wp_cv (b := 580) (As := []) (r := []) hc rfl (by rw [cm_61]; rfl) rfl (Nat.le_of_ble_eq_true rfl) (show 580 < 621 by decide) (by rw [cm_61]; rfl) (ev_mono hEm (by omega)) ?_
      have hAm := hAn.cfr hkt hCm.2.2 (Int.le_refl _)
      have hDm := hDn.cfr hkt hCm.2.2
      show mm_wp _ _ (153, [some (.ref 580), some (.int (iI i)), some (.int (iI z.2.2)), some (.int (iI (nm (z.1 + 1))))], [.int (iI (bI (f2 = 0)))], MX L t sm l) _
      refine wi_bne hc rfl (fun h9_ => ?_) (fun h9_ => ?_)
      · subst h9_
        have hMm : CSt kd pl nm tn t 15 sm y2 0 := hCm.1 rfl
        obtain ⟨hL1, hL2, hL3, hL4, hL5⟩ := (rpEi_Kw hk43 hy2).1
        refine wi_a1 hc rfl rfl ?_
        refine wi_gr (w := t) hc rfl rfl (by decide) (Nat.le_of_ble_eq_true rfl) rfl ?_
        refine wi_grs (w := t + 4) hkt.2.1 hc rfl (by have := hkt.1; omega) (by decide) rfl ?_
        refine wi_i1 hc rfl rfl ?_
        refine wi_i1 hc rfl rfl ?_
        refine wi_ist (N := 8) hc rfl hkt.2.2.2.2.2.1 (by have := hkt.1; omega) (by decide) (by omega) (by omega) ?_
        obtain ⟨s7_, es7_⟩ : ∃ q, q = up sm (t + 4) (nm (z.1 + 1)) z.2.2 := ⟨_, rfl⟩
        rw [← es7_]
        refine wi_a1 hc rfl rfl ?_
        refine wi_gr (w := t) hc rfl rfl (by decide) (Nat.le_of_ble_eq_true rfl) rfl ?_
        refine wi_grs (w := t + 5) hkt.2.1 hc rfl (by have := hkt.1; omega) (by decide) rfl ?_
        refine wi_i1 hc rfl rfl ?_
        refine wi_a1 hc rfl rfl ?_
        refine wi_gr (w := t) hc rfl rfl (by decide) (Nat.le_of_ble_eq_true rfl) rfl ?_
        refine wi_gfs (kz := 6) rfl hkt.2.1 hc rfl (by have := hkt.1; omega) (by decide) rfl (v := y2.2.2) (((congrFun (congrFun es7_ _) _).trans (up_c (by omega))).trans ((by have q := CSt.rc hMm; exact q : sm t 6 = y2.2.2))) ?_
        refine wi_ist (N := 8) hc rfl hkt.2.2.2.2.2.2 (by have := hkt.1; omega) (by decide) (by omega) (by omega) ?_
        obtain ⟨s8_, es8_⟩ : ∃ q, q = up s7_ (t + 5) (nm (z.1 + 1)) y2.2.2 := ⟨_, rfl⟩
        rw [← es8_]
        refine wi_a1 hc rfl rfl ?_
        refine wi_bi hc rfl rfl ?_
        have hA3 := hAm.st hkt es7_ es8_
        have hD3 := hDm.st es7_ es8_
        have hM3 := hMm.st hkt es7_ es8_
        obtain ⟨f4, y4, hy4⟩ : ∃ f y, rcWd k 39 y2 = (f, y) := ⟨_, _, rfl⟩
        obtain ⟨se, hEe, hCe⟩ := sk_55 (d := 0) (L := L) (l := l) hkt hGC hM3 ⟨by omega, by omega⟩ (q := 39) ⟨by decide, by decide⟩ (3 * i + 3) hy4
        refine wp_cv (b := 580) (As := [.int (iI 39)]) (r := []) hc rfl (by rw [cm_55]; rfl) rfl (Nat.le_of_ble_eq_true rfl) (show 580 < 621 by decide) (by rw [cm_55]; rfl) (ev_mono hEe (by omega)) ?_
        have hAe := hA3.cnf hkt hCe.2.2 (by omega)
        have hDe := hD3.cnf hkt hCe.2.2
        show mm_wp _ _ (190, [some (.ref 580), some (.int (iI i)), some (.int (iI z.2.2)), some (.int (iI (nm (z.1 + 1))))], [.int (iI (bI (f4 = 0)))], MX L t se l) _
        refine wi_rb hc rfl (by rw [cm_56]; rfl) ?_
        have hR9 : rpB (rpB (rcNum k nm G 0 (rpNx z)) (rcMore k nm 0)) (rcWd k 39) = (f4, y4) := by
          rw [hy1, rpB_z, rcMore_0, hy2, rpB_z]
          exact hy4
        have hr9 := rcCl_go hs9 (by decide) (fun e => absurd e.1 (by decide)) (by omega) hR9
        rw [hr] at hr9
        subst hr9
        refine ⟨se, rfl, fun e => ?_, hCe.2.1, hAe.f⟩
        have e : f4 = 0 := e
        subst e
        obtain rfl : y4 = rpNx y2 := (rcWd_K hk43 (by decide) hy4).2
        subst hi
        refine ⟨⟨_, _, hCe.1 rfl⟩, ?_⟩
        refine CG.add hG (so := 0) (z := rpNx z) (y := rpNx y2) ⟨by decide, by decide⟩ (by omega) (fun _ => hK6) ⟨fun _ => hK7, fun e => absurd e (by decide)⟩ hAe.2.2.1 (fun q q0 q1 => hAe.2.2.2.1 q q1) (hAe.2.2.2.2.1.trans (by decide : (15 : Int) = wdS 0)) hAe.2.2.2.2.2.1 hDe.1 hDe.2.1 hDe.2.2.1 ?_ hDe.2.2.2
        exact hAe.fb (C := fun j => (0 : Int) ≤ 2 ∧ j = slt 0 (nm (rpNx z).1)) (fun j j0 => ⟨fun e => e.2, fun e => ⟨by decide, e⟩⟩)
      · skip
        refine wi_ic hc rfl ?_
        refine wi_r0 hc rfl (by rw [cm_56]; rfl) ?_
        have hR9 : rpB (rpB (rcNum k nm G 0 (rpNx z)) (rcMore k nm 0)) (rcWd k 39) = (f2, y2) := by
          rw [hy1, rpB_z, rcMore_0, hy2, rpB_n (r := (f2, y2)) h9_]
        have hr9 := rcCl_go hs9 (by decide) (fun e => absurd e.1 (by decide)) (by omega) hR9
        rw [hr] at hr9
        subst hr9
        exact ⟨sm, by have q := bI_f (p := f2 = 0) h9_; exact congrArg (fun v => (some (Value.int (iI v)), MX L t sm l)) q.symm, fun e => absurd e h9_, fun _ => hCm.2.1 h9_, hAm.f⟩
    · skip
      refine wi_ic hc rfl ?_
      refine wi_r0 hc rfl (by rw [cm_56]; rfl) ?_
      have hR9 : rpB (rpB (rcNum k nm G 0 (rpNx z)) (rcMore k nm 0)) (rcWd k 39) = (f1, y1) := by
        rw [hy1, rpB_n (r := (f1, y1)) h6_, rpB_n (r := (f1, y1)) h6_]
      have hr9 := rcCl_go hs9 (by decide) (fun e => absurd e.1 (by decide)) (by omega) hR9
      rw [hr] at hr9
      subst hr9
      exact ⟨sn, by have q := bI_f (p := f1 = 0) h6_; exact congrArg (fun v => (some (Value.int (iI v)), MX L t sn l)) q.symm, fun e => absurd e h6_, fun _ => hC2 h6_, hAn.f⟩
  · refine wi_a1 hc rfl rfl ?_
    refine wi_bi hc rfl rfl ?_
    have hM9_ := h.sw6 hkt es1_
    obtain ⟨s9_, hE9_, hX9_, hY9_⟩ := sp_54 (d := 0) (L := L) (t := t) (l := l) (CSt.rR hM9_) (CSt.ra hM9_) ⟨by omega, by omega⟩ (n := 6) ⟨by decide, by decide⟩
    refine wp_cv (b := 580) (As := [.int (iI 6)]) (r := []) hc rfl (by rw [cm_54]; rfl) rfl (Nat.le_of_ble_eq_true rfl) (show 580 < 621 by decide) (by rw [cm_54]; rfl) (ev_mono hE9_ (by omega)) ?_
    show mm_wp _ _ (65, [some (.ref 580), some (.int (iI i)), none, none], [.int (iI 0)], MX L t s9_ l) _
    refine wi_r0 hc rfl (by rw [cm_56]; rfl) ?_
    have hr9 : r = (6, z, G) := by rw [← hr, rcCl_6 hs9 (by decide) (fun e => absurd e.1 (by decide)) (by omega)]
    subst hr9
    exact ⟨s9_, by rw [bI_f (p := ((6, z, G) : rcR).1 = 0) (by show ¬ (6 : Int) = 0; decide)], fun e => absurd (show (6 : Int) = 0 from e) (by decide), fun _ => ⟨by rw [hY9_]; rfl, by rw [hY9_]; rfl⟩, fun q a1 a2 => by rw [hX9_ q a1, es1_, up_cc a1], fun j a1 a2 => by rw [hY9_, if_neg (by omega), if_neg (by omega), es1_, up_k (by omega)], fun j a => by rw [hX9_ (t + 3) (by omega), es1_, up_cc (by omega)]⟩
theorem cl_56_1 {D L t : Nat} {s l : Nat → Int → Int} (hD : 24 ≤ D) (hkt : KT L t t) {kd k pl nm : Int → Int} {tn W0 op0 : Int} (hGC : GTC kd k pl nm tn) {z : rpS} (h : CSt kd pl nm tn t W0 s z op0) (hg : rpG tn z) {G : Int → Int} (hG : CG t s G) (hI : GTb G z.2.2) {i : Int} (hi : i = G 0) (hk9 : k z.1 = 16) (hs9 : soO (k z.1) = 1) {r : rcR} (hr : rcCl k nm z G = r) : ∃ s1, mm_Ev mm_ct mm_CM (D + 1) 56 [.ref 580, .int (iI i)] (MX L t s l) (some (.int (iI (bI (r.1 = 0)))), MX L t s1 l) ∧ (r.1 = 0 → (∃ W1 op1, CSt kd pl nm tn t W1 s1 r.2.1 op1) ∧ CG t s1 r.2.2) ∧ (r.1 ≠ 0 → s1 580 8 = r.1 ∧ s1 580 9 = plA pl tn r.2.1.1) ∧ CCf t z.2.2 s s1 := by
  have hc : (mm_CM 56).2.2.2.2.2.2.2 = mm_cf cd_56 := by rw [cm_56]; rfl
  refine ev_xs ?_
  refine ev_to (mx := 4) (by rw [cm_56]; decide) (by rw [cm_56]; rfl) (by show 2 ≤ _; decide) ?_
  show mm_wp _ _ (0, [some (.ref 580), some (.int (iI i)), none, none], [], MX L t s l) (fun res => ∃ s1, res = (some (.int (iI (bI (r.1 = 0)))), MX L t s1 l) ∧ (r.1 = 0 → (∃ W1 op1, CSt kd pl nm tn t W1 s1 r.2.1 op1) ∧ CG t s1 r.2.2) ∧ (r.1 ≠ 0 → s1 580 8 = r.1 ∧ s1 580 9 = plA pl tn r.2.1.1) ∧ CCf t z.2.2 s s1)
  obtain ⟨hk, hk43, hkr, htn⟩ := id hGC
  obtain ⟨hg0, hg1, hg2, hg3⟩ := id hg
  have ht6 := hkt.1
  have hka := kt_all hkt
  have hkz := hkr z.1
  have hG0 := hG.2.1
  refine wi_a1 hc rfl rfl ?_
  refine wi_a1 hc rfl rfl ?_
  have hk1_ : mm_Ev mm_ct mm_CM (0 + 1) 53 [.ref 580] (MX L t s l) (some (.int (iI (k z.1))), MX L t s l) := by rw [hk]; exact sp_53 (d := 0) (CSt.rR h) (CSt.ra h) ⟨by omega, by omega⟩
  rw [hk9] at hk1_
  refine wp_cv (b := 580) (As := []) (r := [.ref 580]) hc rfl (by rw [cm_53]; rfl) rfl (Nat.le_of_ble_eq_true rfl) (show 580 < 621 by decide) (by rw [cm_53]; rfl) (ev_mono hk1_ (by omega)) ?_
  show mm_wp _ _ (5, [some (.ref 580), some (.int (iI i)), none, none], [.int (iI 16), .ref 580], MX L t s l) _
  refine wi_pf (kz := 6) rfl hc rfl rfl (by decide) (Nat.le_of_ble_eq_true rfl) rfl (Nat.le_of_ble_eq_true rfl) ⟨rfl, rfl⟩ rfl ?_
  obtain ⟨s1_, es1_⟩ : ∃ q, q = up s 580 6 16 := ⟨_, rfl⟩
  rw [← es1_]
  refine wi_a1 hc rfl rfl ?_
  refine wi_gfv (kz := 6) rfl hc rfl rfl (by decide) (Nat.le_of_ble_eq_true rfl) rfl (v := 16) ((congrFun (congrFun es1_ _) _).trans (up_e (by omega))) ?_
  refine wi_ic hc rfl ?_
  refine wi_ceq hc rfl ⟨by decide, by decide⟩ ⟨by decide, by decide⟩ (fun q => absurd q (by decide)) (fun _ => ?_)
  refine wi_a1 hc rfl rfl ?_
  refine wi_gfv (kz := 6) rfl hc rfl rfl (by decide) (Nat.le_of_ble_eq_true rfl) rfl (v := 16) ((congrFun (congrFun es1_ _) _).trans (up_e (by omega))) ?_
  refine wi_bi hc rfl rfl ?_
  refine wi_clt hc rfl ⟨by decide, by decide⟩ ⟨by decide, by decide⟩ (fun q => absurd q (by decide)) (fun _ => ?_)
  refine wi_a1 hc rfl rfl ?_
  refine wi_gfv (kz := 6) rfl hc rfl rfl (by decide) (Nat.le_of_ble_eq_true rfl) rfl (v := 16) ((congrFun (congrFun es1_ _) _).trans (up_e (by omega))) ?_
  refine wi_bi hc rfl rfl ?_
  refine wi_cle hc rfl ⟨by decide, by decide⟩ ⟨by decide, by decide⟩ (fun _ => ?_) (fun q => absurd q (by decide))
  refine wi_a1 hc rfl rfl ?_
  refine wp_cv (b := 580) (As := []) (r := []) hc rfl (by rw [cm_57]; rfl) rfl (Nat.le_of_ble_eq_true rfl) (show 580 < 621 by decide) (by rw [cm_57]; rfl) (ev_mono (tw_57_1 (d := 0) hkt (by rw [es1_, up_at]) (by rw [es1_, up_cc (show t + 4 ≠ 580 by omega), up_cc (show t + 5 ≠ 580 by omega)]; exact CSl_r hG.2.2.2.2.1 hG0.1 hI (by decide))) (by omega)) ?_
  show mm_wp _ _ (44, [some (.ref 580), some (.int (iI i)), none, none], [.int (iI (bI (0 ≤ rcHas G 1 0)))], MX L t s1_ l) _
  refine wi_beq hc rfl (fun h4_ => ?_) (fun h4_ => ?_)
  · skip
    refine wi_i1 hc rfl rfl ?_
    refine wi_bi hc rfl rfl ?_
    refine wi_clt hc rfl ⟨by omega, by omega⟩ ⟨by decide, by decide⟩ (fun h5_ => ?_) (fun h5_ => ?_)
    · have hnx9 : z.1 + 1 < tn := by
        rcases (by omega : z.1 + 1 < tn ∨ tn - 1 ≤ z.1) with g | g
        · exact g
        · exfalso; have := hk43 z.1 g; omega
      refine wi_a1 hc rfl rfl ?_
      refine wi_dupr hc rfl ?_
      refine wi_gfv (kz := 4) rfl hc rfl rfl (by decide) (Nat.le_of_ble_eq_true rfl) rfl (v := z.1) (((congrFun (congrFun es1_ _) _).trans (up_k (by omega))).trans ((by have q := CSt.ra h; exact q : s 580 4 = z.1))) ?_
      refine wi_ic hc rfl ?_
      refine wi_add hc rfl ?_
      refine wi_pf (kz := 4) rfl hc rfl rfl (by decide) (Nat.le_of_ble_eq_true rfl) rfl (Nat.le_of_ble_eq_true rfl) ⟨rfl, rfl⟩ rfl ?_
      obtain ⟨s2_, es2_⟩ : ∃ q, q = up s1_ 580 4 (z.1 + 1) := ⟨_, rfl⟩
      rw [← es2_]
      refine wi_a1 hc rfl rfl ?_
      refine wi_ic hc rfl ?_
      refine wi_pf (kz := 7) rfl hc rfl rfl (by decide) (Nat.le_of_ble_eq_true rfl) rfl (Nat.le_of_ble_eq_true rfl) ⟨rfl, rfl⟩ rfl ?_
      obtain ⟨s3_, es3_⟩ : ∃ q, q = up s2_ 580 7 0 := ⟨_, rfl⟩
      rw [← es3_]
      refine wi_a1 hc rfl rfl ?_
      refine wi_gr (w := t) hc rfl rfl (by decide) (Nat.le_of_ble_eq_true rfl) rfl ?_
      refine wi_grs (w := t + 1) hkt.2.1 hc rfl (by have := hkt.1; omega) (by decide) rfl ?_
      refine wi_i1 hc rfl rfl ?_
      refine wi_a1 hc rfl rfl ?_
      refine wi_gfv (kz := 6) rfl hc rfl rfl (by decide) (Nat.le_of_ble_eq_true rfl) rfl (v := 16) (((congrFun (congrFun es3_ _) _).trans (up_k (by omega))).trans (((congrFun (congrFun es2_ _) _).trans (up_k (by omega))).trans ((congrFun (congrFun es1_ _) _).trans (up_e (by omega))))) ?_
      refine wi_ist (N := 24) hc rfl hkt.2.2.1 (by have := hkt.1; omega) (by decide) (by omega) (by omega) ?_
      obtain ⟨s4_, es4_⟩ : ∃ q, q = up s3_ (t + 1) i 16 := ⟨_, rfl⟩
      rw [← es4_]
      refine wi_a1 hc rfl rfl ?_
      refine wi_gr (w := t) hc rfl rfl (by decide) (Nat.le_of_ble_eq_true rfl) rfl ?_
      refine wi_i1 hc rfl rfl ?_
      refine wi_ic hc rfl ?_
      refine wi_add hc rfl ?_
      refine wi_pfs (kz := 5) rfl hkt.2.1 hc rfl (by have := hkt.1; omega) (by decide) rfl (Nat.le_of_ble_eq_true rfl) ⟨rfl, rfl⟩ rfl ?_
      obtain ⟨s5_, es5_⟩ : ∃ q, q = up s4_ t 5 (i + 1) := ⟨_, rfl⟩
      rw [← es5_]
      refine wi_a1 hc rfl rfl ?_
      refine wi_gr (w := t) hc rfl rfl (by decide) (Nat.le_of_ble_eq_true rfl) rfl ?_
      refine wi_gfs (kz := 6) rfl hkt.2.1 hc rfl (by have := hkt.1; omega) (by decide) rfl (v := z.2.2) (((congrFun (congrFun es5_ _) _).trans (up_k (by omega))).trans (((congrFun (congrFun es4_ _) _).trans (up_c (by omega))).trans (((congrFun (congrFun es3_ _) _).trans (up_c (by omega))).trans (((congrFun (congrFun es2_ _) _).trans (up_c (by omega))).trans (((congrFun (congrFun es1_ _) _).trans (up_c (by omega))).trans ((by have q := CSt.rc h; exact q : s t 6 = z.2.2))))))) ?_
      refine wi_is1 (L' := [some (.ref 580), some (.int (iI i)), some (.int (iI z.2.2)), none]) hc rfl (Nat.le_of_ble_eq_true rfl) rfl ?_
      refine wi_a1 hc rfl rfl ?_
      refine wi_i1 hc rfl rfl ?_
      obtain ⟨hMb, hAb, hTb, hB4, hB5⟩ := CSt.beg (c := z.2.2) h hkt es1_ es2_ es3_ es4_ es5_
      have hCH : CH t s5_ G := by
        have q := hG.ch hI
        unfold CH at q ⊢
        rw [hB4, hB5]
        exact q
      obtain ⟨f1, y1, hy1⟩ : ∃ f y, rcNum k nm G 1 (rpNx z) = (f, y) := ⟨_, _, rfl⟩
      obtain ⟨sn, hEn, ⟨hC1, hC2, hC3⟩, hN⟩ := nb_59_1 (d := 0) (L := L) (l := l) hkt hGC hMb ⟨by show 0 ≤ z.1 + 1; omega, by show z.1 + 1 + 1 ≤ tn; omega⟩ hCH (i := i) ⟨by omega, by omega⟩ hy1
      refine wp_cv (b := 580) (As := [.int (iI i)]) (r := []) hc rfl (by rw [cm_59]; rfl) rfl (Nat.le_of_ble_eq_true rfl) (show 580 < 621 by decide) (by rw [cm_59]; rfl) (ev_mono hEn (by omega)) ?_
      have hAn := hAb.cng hkt hC3
      have hDn : f1 = 0 → ND nm t i 1 (rpNx z) s sn := fun e0 => ⟨fun e => absurd e (by decide), fun e => absurd e (by decide), fun e => absurd e (by decide), (by rw [if_neg (by decide)]; exact (hN e0).trans (hTb 7 (by decide)))⟩
      show mm_wp _ _ (117, [some (.ref 580), some (.int (iI i)), some (.int (iI z.2.2)), none], [.int (iI (bI (f1 = 0)))], MX L t sn l) _
      refine wi_bne hc rfl (fun h6_ => ?_) (fun h6_ => ?_)
      · subst h6_
        have hMn : CSt kd pl nm tn t 16 sn y1 0 := hC1 rfl
        have hDn := hDn rfl
        obtain ⟨hK1, hK2, hK3, hK4⟩ := rcNum_K hk43 (by decide) (by show z.1 + 1 ≤ tn - 1; omega) hy1
        have hK1 : z.1 + 1 ≤ y1.1 := hK1
        have hK5 : y1.2.2 = z.2.2 := by rw [hK3]; rfl
        refine wi_a1 hc rfl rfl ?_
        refine wi_i1 hc rfl rfl ?_
        refine wp_cv (b := 580) (As := [.int (iI i)]) (r := []) hc rfl (by rw [cm_58]; rfl) rfl (Nat.le_of_ble_eq_true rfl) (show 580 < 621 by decide) (by rw [cm_58]; rfl) (ev_mono (sl_58_1 (d := 0) hkt (CSt.rw9 hMn) (i := i)) (by omega)) ?_
        show mm_wp _ _ (127, [some (.ref 580), some (.int (iI i)), some (.int (iI z.2.2)), none], [.int (iI 6)], MX L t sn l) _
        refine wi_is1 (L' := [some (.ref 580), some (.int (iI i)), some (.int (iI z.2.2)), some (.int (iI 6))]) hc rfl (Nat.le_of_ble_eq_true rfl) rfl ?_
        refine wi_i1 hc rfl rfl ?_
        refine wi_ic hc rfl ?_
        refine wi_ceq hc rfl ⟨by decide, by decide⟩ ⟨by decide, by decide⟩ (fun q => absurd q (by decide)) (fun _ => ?_)
        refine wi_i1 hc rfl rfl ?_
        refine wi_bi hc rfl rfl ?_
        refine wi_cne hc rfl ⟨by decide, by decide⟩ ⟨by decide, by decide⟩ (fun _ => ?_) (fun q => absurd q (by decide))
        refine wi_a1 hc rfl rfl ?_
        obtain ⟨f2, y2, hy2⟩ : ∃ f y, rpEi k nm 16 301 false false y1 = (f, y) := ⟨_, _, rfl⟩
        obtain ⟨sm, hEm, hCm⟩ := ei_61 (D := 23) (L := L) (l := l) (Nat.le_refl _) hkt hGC (by decide) hMn hy2 ⟨by omega, by omega, by omega, by omega⟩ (c := z.2.2) (by omega)
        refine wp_cv (b := 580) (As := []) (r := []) hc rfl (by rw [cm_61]; rfl) rfl (Nat.le_of_ble_eq_true rfl) (show 580 < 621 by decide) (by rw [cm_61]; rfl) (ev_mono hEm (by omega)) ?_
        have hAm := hAn.cfr hkt hCm.2.2 (Int.le_refl _)
        have hDm := hDn.cfr hkt hCm.2.2
        show mm_wp _ _ (153, [some (.ref 580), some (.int (iI i)), some (.int (iI z.2.2)), some (.int (iI 6))], [.int (iI (bI (f2 = 0)))], MX L t sm l) _
        refine wi_bne hc rfl (fun h9_ => ?_) (fun h9_ => ?_)
        · subst h9_
          have hMm : CSt kd pl nm tn t 16 sm y2 0 := hCm.1 rfl
          obtain ⟨hL1, hL2, hL3, hL4, hL5⟩ := (rpEi_Kw hk43 hy2).1
          refine wi_a1 hc rfl rfl ?_
          refine wi_gr (w := t) hc rfl rfl (by decide) (Nat.le_of_ble_eq_true rfl) rfl ?_
          refine wi_grs (w := t + 4) hkt.2.1 hc rfl (by have := hkt.1; omega) (by decide) rfl ?_
          refine wi_i1 hc rfl rfl ?_
          refine wi_i1 hc rfl rfl ?_
          refine wi_ist (N := 8) hc rfl hkt.2.2.2.2.2.1 (by have := hkt.1; omega) (by decide) (by omega) (by omega) ?_
          obtain ⟨s7_, es7_⟩ : ∃ q, q = up sm (t + 4) 6 z.2.2 := ⟨_, rfl⟩
          rw [← es7_]
          refine wi_a1 hc rfl rfl ?_
          refine wi_gr (w := t) hc rfl rfl (by decide) (Nat.le_of_ble_eq_true rfl) rfl ?_
          refine wi_grs (w := t + 5) hkt.2.1 hc rfl (by have := hkt.1; omega) (by decide) rfl ?_
          refine wi_i1 hc rfl rfl ?_
          refine wi_a1 hc rfl rfl ?_
          refine wi_gr (w := t) hc rfl rfl (by decide) (Nat.le_of_ble_eq_true rfl) rfl ?_
          refine wi_gfs (kz := 6) rfl hkt.2.1 hc rfl (by have := hkt.1; omega) (by decide) rfl (v := y2.2.2) (((congrFun (congrFun es7_ _) _).trans (up_c (by omega))).trans ((by have q := CSt.rc hMm; exact q : sm t 6 = y2.2.2))) ?_
          refine wi_ist (N := 8) hc rfl hkt.2.2.2.2.2.2 (by have := hkt.1; omega) (by decide) (by omega) (by omega) ?_
          obtain ⟨s8_, es8_⟩ : ∃ q, q = up s7_ (t + 5) 6 y2.2.2 := ⟨_, rfl⟩
          rw [← es8_]
          refine wi_a1 hc rfl rfl ?_
          refine wi_bi hc rfl rfl ?_
          have hA3 := hAm.st hkt es7_ es8_
          have hD3 := hDm.st es7_ es8_
          have hM3 := hMm.st hkt es7_ es8_
          obtain ⟨f4, y4, hy4⟩ : ∃ f y, rcWd k 39 y2 = (f, y) := ⟨_, _, rfl⟩
          obtain ⟨se, hEe, hCe⟩ := sk_55 (d := 0) (L := L) (l := l) hkt hGC hM3 ⟨by omega, by omega⟩ (q := 39) ⟨by decide, by decide⟩ (3 * i + 3) hy4
          refine wp_cv (b := 580) (As := [.int (iI 39)]) (r := []) hc rfl (by rw [cm_55]; rfl) rfl (Nat.le_of_ble_eq_true rfl) (show 580 < 621 by decide) (by rw [cm_55]; rfl) (ev_mono hEe (by omega)) ?_
          have hAe := hA3.cnf hkt hCe.2.2 (by omega)
          have hDe := hD3.cnf hkt hCe.2.2
          show mm_wp _ _ (190, [some (.ref 580), some (.int (iI i)), some (.int (iI z.2.2)), some (.int (iI 6))], [.int (iI (bI (f4 = 0)))], MX L t se l) _
          refine wi_rb hc rfl (by rw [cm_56]; rfl) ?_
          have hR9 : rpB (rpB (rcNum k nm G 1 (rpNx z)) (rcMore k nm 1)) (rcWd k 39) = (f4, y4) := by
            rw [hy1, rpB_z, rcMore_1, hy2, rpB_z]
            exact hy4
          have hr9 := rcCl_go hs9 (by decide) (fun e => h4_ e.2) (by omega) hR9
          rw [hr] at hr9
          subst hr9
          refine ⟨se, rfl, fun e => ?_, hCe.2.1, hAe.f⟩
          have e : f4 = 0 := e
          subst e
          obtain rfl : y4 = rpNx y2 := (rcWd_K hk43 (by decide) hy4).2
          subst hi
          refine ⟨⟨_, _, hCe.1 rfl⟩, ?_⟩
          refine CG.add hG (so := 1) (z := rpNx z) (y := rpNx y2) ⟨by decide, by decide⟩ (by omega) (fun e => absurd e (by decide)) ⟨fun e => absurd e (by decide), fun e => by have := h4_; omega⟩ hAe.2.2.1 (fun q q0 q1 => hAe.2.2.2.1 q q1) (hAe.2.2.2.2.1.trans (by decide : (16 : Int) = wdS 1)) hAe.2.2.2.2.2.1 hDe.1 hDe.2.1 hDe.2.2.1 ?_ hDe.2.2.2
          exact hAe.fb (C := fun j => (1 : Int) ≤ 2 ∧ j = slt 1 (nm (rpNx z).1)) (fun j j0 => ⟨fun e => e.2, fun e => ⟨by decide, e⟩⟩)
        · skip
          refine wi_ic hc rfl ?_
          refine wi_r0 hc rfl (by rw [cm_56]; rfl) ?_
          have hR9 : rpB (rpB (rcNum k nm G 1 (rpNx z)) (rcMore k nm 1)) (rcWd k 39) = (f2, y2) := by
            rw [hy1, rpB_z, rcMore_1, hy2, rpB_n (r := (f2, y2)) h9_]
          have hr9 := rcCl_go hs9 (by decide) (fun e => h4_ e.2) (by omega) hR9
          rw [hr] at hr9
          subst hr9
          exact ⟨sm, by have q := bI_f (p := f2 = 0) h9_; exact congrArg (fun v => (some (Value.int (iI v)), MX L t sm l)) q.symm, fun e => absurd e h9_, fun _ => hCm.2.1 h9_, hAm.f⟩
      · skip
        refine wi_ic hc rfl ?_
        refine wi_r0 hc rfl (by rw [cm_56]; rfl) ?_
        have hR9 : rpB (rpB (rcNum k nm G 1 (rpNx z)) (rcMore k nm 1)) (rcWd k 39) = (f1, y1) := by
          rw [hy1, rpB_n (r := (f1, y1)) h6_, rpB_n (r := (f1, y1)) h6_]
        have hr9 := rcCl_go hs9 (by decide) (fun e => h4_ e.2) (by omega) hR9
        rw [hr] at hr9
        subst hr9
        exact ⟨sn, by have q := bI_f (p := f1 = 0) h6_; exact congrArg (fun v => (some (Value.int (iI v)), MX L t sn l)) q.symm, fun e => absurd e h6_, fun _ => hC2 h6_, hAn.f⟩
    · refine wi_a1 hc rfl rfl ?_
      refine wi_bi hc rfl rfl ?_
      have hM9_ := h.sw6 hkt es1_
      obtain ⟨s9_, hE9_, hX9_, hY9_⟩ := sp_54 (d := 0) (L := L) (t := t) (l := l) (CSt.rR hM9_) (CSt.ra hM9_) ⟨by omega, by omega⟩ (n := 6) ⟨by decide, by decide⟩
      refine wp_cv (b := 580) (As := [.int (iI 6)]) (r := []) hc rfl (by rw [cm_54]; rfl) rfl (Nat.le_of_ble_eq_true rfl) (show 580 < 621 by decide) (by rw [cm_54]; rfl) (ev_mono hE9_ (by omega)) ?_
      show mm_wp _ _ (65, [some (.ref 580), some (.int (iI i)), none, none], [.int (iI 0)], MX L t s9_ l) _
      refine wi_r0 hc rfl (by rw [cm_56]; rfl) ?_
      have hr9 : r = (6, z, G) := by rw [← hr, rcCl_6 hs9 (by decide) (fun e => h4_ e.2) (by omega)]
      subst hr9
      exact ⟨s9_, by rw [bI_f (p := ((6, z, G) : rcR).1 = 0) (by show ¬ (6 : Int) = 0; decide)], fun e => absurd (show (6 : Int) = 0 from e) (by decide), fun _ => ⟨by rw [hY9_]; rfl, by rw [hY9_]; rfl⟩, fun q a1 a2 => by rw [hX9_ q a1, es1_, up_cc a1], fun j a1 a2 => by rw [hY9_, if_neg (by omega), if_neg (by omega), es1_, up_k (by omega)], fun j a => by rw [hX9_ (t + 3) (by omega), es1_, up_cc (by omega)]⟩
  · skip
    refine wi_a1 hc rfl rfl ?_
    refine wi_ic hc rfl ?_
    have hM10_ := h.sw6 hkt es1_
    obtain ⟨s10_, hE10_, hX10_, hY10_⟩ := sp_54 (d := 0) (L := L) (t := t) (l := l) (CSt.rR hM10_) (CSt.ra hM10_) ⟨by omega, by omega⟩ (n := 4) ⟨by decide, by decide⟩
    refine wp_cv (b := 580) (As := [.int (iI 4)]) (r := []) hc rfl (by rw [cm_54]; rfl) rfl (Nat.le_of_ble_eq_true rfl) (show 580 < 621 by decide) (by rw [cm_54]; rfl) (ev_mono hE10_ (by omega)) ?_
    show mm_wp _ _ (52, [some (.ref 580), some (.int (iI i)), none, none], [.int (iI 0)], MX L t s10_ l) _
    refine wi_r0 hc rfl (by rw [cm_56]; rfl) ?_
    have hr9 : r = (4, z, G) := by rw [← hr, rcCl_4 hs9 (by decide) h4_]
    subst hr9
    exact ⟨s10_, by rw [bI_f (p := ((4, z, G) : rcR).1 = 0) (by show ¬ (4 : Int) = 0; decide)], fun e => absurd (show (4 : Int) = 0 from e) (by decide), fun _ => ⟨by rw [hY10_]; rfl, by rw [hY10_]; rfl⟩, fun q a1 a2 => by rw [hX10_ q a1, es1_, up_cc a1], fun j a1 a2 => by rw [hY10_, if_neg (by omega), if_neg (by omega), es1_, up_k (by omega)], fun j a => by rw [hX10_ (t + 3) (by omega), es1_, up_cc (by omega)]⟩
theorem cl_56_2 {D L t : Nat} {s l : Nat → Int → Int} (hD : 24 ≤ D) (hkt : KT L t t) {kd k pl nm : Int → Int} {tn W0 op0 : Int} (hGC : GTC kd k pl nm tn) {z : rpS} (h : CSt kd pl nm tn t W0 s z op0) (hg : rpG tn z) {G : Int → Int} (hG : CG t s G) (hI : GTb G z.2.2) {i : Int} (hi : i = G 0) (hk9 : k z.1 = 17) (hs9 : soO (k z.1) = 2) {r : rcR} (hr : rcCl k nm z G = r) : ∃ s1, mm_Ev mm_ct mm_CM (D + 1) 56 [.ref 580, .int (iI i)] (MX L t s l) (some (.int (iI (bI (r.1 = 0)))), MX L t s1 l) ∧ (r.1 = 0 → (∃ W1 op1, CSt kd pl nm tn t W1 s1 r.2.1 op1) ∧ CG t s1 r.2.2) ∧ (r.1 ≠ 0 → s1 580 8 = r.1 ∧ s1 580 9 = plA pl tn r.2.1.1) ∧ CCf t z.2.2 s s1 := by
  have hc : (mm_CM 56).2.2.2.2.2.2.2 = mm_cf cd_56 := by rw [cm_56]; rfl
  refine ev_xs ?_
  refine ev_to (mx := 4) (by rw [cm_56]; decide) (by rw [cm_56]; rfl) (by show 2 ≤ _; decide) ?_
  show mm_wp _ _ (0, [some (.ref 580), some (.int (iI i)), none, none], [], MX L t s l) (fun res => ∃ s1, res = (some (.int (iI (bI (r.1 = 0)))), MX L t s1 l) ∧ (r.1 = 0 → (∃ W1 op1, CSt kd pl nm tn t W1 s1 r.2.1 op1) ∧ CG t s1 r.2.2) ∧ (r.1 ≠ 0 → s1 580 8 = r.1 ∧ s1 580 9 = plA pl tn r.2.1.1) ∧ CCf t z.2.2 s s1)
  obtain ⟨hk, hk43, hkr, htn⟩ := id hGC
  obtain ⟨hg0, hg1, hg2, hg3⟩ := id hg
  have ht6 := hkt.1
  have hka := kt_all hkt
  have hkz := hkr z.1
  have hG0 := hG.2.1
  refine wi_a1 hc rfl rfl ?_
  refine wi_a1 hc rfl rfl ?_
  have hk1_ : mm_Ev mm_ct mm_CM (0 + 1) 53 [.ref 580] (MX L t s l) (some (.int (iI (k z.1))), MX L t s l) := by rw [hk]; exact sp_53 (d := 0) (CSt.rR h) (CSt.ra h) ⟨by omega, by omega⟩
  rw [hk9] at hk1_
  refine wp_cv (b := 580) (As := []) (r := [.ref 580]) hc rfl (by rw [cm_53]; rfl) rfl (Nat.le_of_ble_eq_true rfl) (show 580 < 621 by decide) (by rw [cm_53]; rfl) (ev_mono hk1_ (by omega)) ?_
  show mm_wp _ _ (5, [some (.ref 580), some (.int (iI i)), none, none], [.int (iI 17), .ref 580], MX L t s l) _
  refine wi_pf (kz := 6) rfl hc rfl rfl (by decide) (Nat.le_of_ble_eq_true rfl) rfl (Nat.le_of_ble_eq_true rfl) ⟨rfl, rfl⟩ rfl ?_
  obtain ⟨s1_, es1_⟩ : ∃ q, q = up s 580 6 17 := ⟨_, rfl⟩
  rw [← es1_]
  refine wi_a1 hc rfl rfl ?_
  refine wi_gfv (kz := 6) rfl hc rfl rfl (by decide) (Nat.le_of_ble_eq_true rfl) rfl (v := 17) ((congrFun (congrFun es1_ _) _).trans (up_e (by omega))) ?_
  refine wi_ic hc rfl ?_
  refine wi_ceq hc rfl ⟨by decide, by decide⟩ ⟨by decide, by decide⟩ (fun q => absurd q (by decide)) (fun _ => ?_)
  refine wi_a1 hc rfl rfl ?_
  refine wi_gfv (kz := 6) rfl hc rfl rfl (by decide) (Nat.le_of_ble_eq_true rfl) rfl (v := 17) ((congrFun (congrFun es1_ _) _).trans (up_e (by omega))) ?_
  refine wi_bi hc rfl rfl ?_
  refine wi_clt hc rfl ⟨by decide, by decide⟩ ⟨by decide, by decide⟩ (fun q => absurd q (by decide)) (fun _ => ?_)
  refine wi_a1 hc rfl rfl ?_
  refine wi_gfv (kz := 6) rfl hc rfl rfl (by decide) (Nat.le_of_ble_eq_true rfl) rfl (v := 17) ((congrFun (congrFun es1_ _) _).trans (up_e (by omega))) ?_
  refine wi_bi hc rfl rfl ?_
  refine wi_cle hc rfl ⟨by decide, by decide⟩ ⟨by decide, by decide⟩ (fun _ => ?_) (fun q => absurd q (by decide))
  refine wi_a1 hc rfl rfl ?_
  refine wp_cv (b := 580) (As := []) (r := []) hc rfl (by rw [cm_57]; rfl) rfl (Nat.le_of_ble_eq_true rfl) (show 580 < 621 by decide) (by rw [cm_57]; rfl) (ev_mono (tw_57_2 (d := 0) hkt (by rw [es1_, up_at]) (by rw [es1_, up_cc (show t + 4 ≠ 580 by omega), up_cc (show t + 5 ≠ 580 by omega)]; exact CSl_r hG.2.2.2.2.2.1 hG0.1 hI (by decide))) (by omega)) ?_
  show mm_wp _ _ (44, [some (.ref 580), some (.int (iI i)), none, none], [.int (iI (bI (0 ≤ rcHas G 2 0)))], MX L t s1_ l) _
  refine wi_beq hc rfl (fun h4_ => ?_) (fun h4_ => ?_)
  · skip
    refine wi_i1 hc rfl rfl ?_
    refine wi_bi hc rfl rfl ?_
    refine wi_clt hc rfl ⟨by omega, by omega⟩ ⟨by decide, by decide⟩ (fun h5_ => ?_) (fun h5_ => ?_)
    · have hnx9 : z.1 + 1 < tn := by
        rcases (by omega : z.1 + 1 < tn ∨ tn - 1 ≤ z.1) with g | g
        · exact g
        · exfalso; have := hk43 z.1 g; omega
      refine wi_a1 hc rfl rfl ?_
      refine wi_dupr hc rfl ?_
      refine wi_gfv (kz := 4) rfl hc rfl rfl (by decide) (Nat.le_of_ble_eq_true rfl) rfl (v := z.1) (((congrFun (congrFun es1_ _) _).trans (up_k (by omega))).trans ((by have q := CSt.ra h; exact q : s 580 4 = z.1))) ?_
      refine wi_ic hc rfl ?_
      refine wi_add hc rfl ?_
      refine wi_pf (kz := 4) rfl hc rfl rfl (by decide) (Nat.le_of_ble_eq_true rfl) rfl (Nat.le_of_ble_eq_true rfl) ⟨rfl, rfl⟩ rfl ?_
      obtain ⟨s2_, es2_⟩ : ∃ q, q = up s1_ 580 4 (z.1 + 1) := ⟨_, rfl⟩
      rw [← es2_]
      refine wi_a1 hc rfl rfl ?_
      refine wi_ic hc rfl ?_
      refine wi_pf (kz := 7) rfl hc rfl rfl (by decide) (Nat.le_of_ble_eq_true rfl) rfl (Nat.le_of_ble_eq_true rfl) ⟨rfl, rfl⟩ rfl ?_
      obtain ⟨s3_, es3_⟩ : ∃ q, q = up s2_ 580 7 0 := ⟨_, rfl⟩
      rw [← es3_]
      refine wi_a1 hc rfl rfl ?_
      refine wi_gr (w := t) hc rfl rfl (by decide) (Nat.le_of_ble_eq_true rfl) rfl ?_
      refine wi_grs (w := t + 1) hkt.2.1 hc rfl (by have := hkt.1; omega) (by decide) rfl ?_
      refine wi_i1 hc rfl rfl ?_
      refine wi_a1 hc rfl rfl ?_
      refine wi_gfv (kz := 6) rfl hc rfl rfl (by decide) (Nat.le_of_ble_eq_true rfl) rfl (v := 17) (((congrFun (congrFun es3_ _) _).trans (up_k (by omega))).trans (((congrFun (congrFun es2_ _) _).trans (up_k (by omega))).trans ((congrFun (congrFun es1_ _) _).trans (up_e (by omega))))) ?_
      refine wi_ist (N := 24) hc rfl hkt.2.2.1 (by have := hkt.1; omega) (by decide) (by omega) (by omega) ?_
      obtain ⟨s4_, es4_⟩ : ∃ q, q = up s3_ (t + 1) i 17 := ⟨_, rfl⟩
      rw [← es4_]
      refine wi_a1 hc rfl rfl ?_
      refine wi_gr (w := t) hc rfl rfl (by decide) (Nat.le_of_ble_eq_true rfl) rfl ?_
      refine wi_i1 hc rfl rfl ?_
      refine wi_ic hc rfl ?_
      refine wi_add hc rfl ?_
      refine wi_pfs (kz := 5) rfl hkt.2.1 hc rfl (by have := hkt.1; omega) (by decide) rfl (Nat.le_of_ble_eq_true rfl) ⟨rfl, rfl⟩ rfl ?_
      obtain ⟨s5_, es5_⟩ : ∃ q, q = up s4_ t 5 (i + 1) := ⟨_, rfl⟩
      rw [← es5_]
      refine wi_a1 hc rfl rfl ?_
      refine wi_gr (w := t) hc rfl rfl (by decide) (Nat.le_of_ble_eq_true rfl) rfl ?_
      refine wi_gfs (kz := 6) rfl hkt.2.1 hc rfl (by have := hkt.1; omega) (by decide) rfl (v := z.2.2) (((congrFun (congrFun es5_ _) _).trans (up_k (by omega))).trans (((congrFun (congrFun es4_ _) _).trans (up_c (by omega))).trans (((congrFun (congrFun es3_ _) _).trans (up_c (by omega))).trans (((congrFun (congrFun es2_ _) _).trans (up_c (by omega))).trans (((congrFun (congrFun es1_ _) _).trans (up_c (by omega))).trans ((by have q := CSt.rc h; exact q : s t 6 = z.2.2))))))) ?_
      refine wi_is1 (L' := [some (.ref 580), some (.int (iI i)), some (.int (iI z.2.2)), none]) hc rfl (Nat.le_of_ble_eq_true rfl) rfl ?_
      refine wi_a1 hc rfl rfl ?_
      refine wi_i1 hc rfl rfl ?_
      obtain ⟨hMb, hAb, hTb, hB4, hB5⟩ := CSt.beg (c := z.2.2) h hkt es1_ es2_ es3_ es4_ es5_
      have hCH : CH t s5_ G := by
        have q := hG.ch hI
        unfold CH at q ⊢
        rw [hB4, hB5]
        exact q
      obtain ⟨f1, y1, hy1⟩ : ∃ f y, rcNum k nm G 2 (rpNx z) = (f, y) := ⟨_, _, rfl⟩
      obtain ⟨sn, hEn, ⟨hC1, hC2, hC3⟩, hN⟩ := nb_59_2 (d := 0) (L := L) (l := l) hkt hGC hMb ⟨by show 0 ≤ z.1 + 1; omega, by show z.1 + 1 + 1 ≤ tn; omega⟩ hCH (i := i) ⟨by omega, by omega⟩ hy1
      refine wp_cv (b := 580) (As := [.int (iI i)]) (r := []) hc rfl (by rw [cm_59]; rfl) rfl (Nat.le_of_ble_eq_true rfl) (show 580 < 621 by decide) (by rw [cm_59]; rfl) (ev_mono hEn (by omega)) ?_
      have hAn := hAb.cng hkt hC3
      have hDn : f1 = 0 → ND nm t i 2 (rpNx z) s sn := fun e0 => ⟨fun e => absurd e (by decide), fun e => absurd e (by decide), fun e => absurd e (by decide), (by rw [if_neg (by decide)]; exact (hN e0).trans (hTb 7 (by decide)))⟩
      show mm_wp _ _ (117, [some (.ref 580), some (.int (iI i)), some (.int (iI z.2.2)), none], [.int (iI (bI (f1 = 0)))], MX L t sn l) _
      refine wi_bne hc rfl (fun h6_ => ?_) (fun h6_ => ?_)
      · subst h6_
        have hMn : CSt kd pl nm tn t 17 sn y1 0 := hC1 rfl
        have hDn := hDn rfl
        obtain ⟨hK1, hK2, hK3, hK4⟩ := rcNum_K hk43 (by decide) (by show z.1 + 1 ≤ tn - 1; omega) hy1
        have hK1 : z.1 + 1 ≤ y1.1 := hK1
        have hK5 : y1.2.2 = z.2.2 := by rw [hK3]; rfl
        refine wi_a1 hc rfl rfl ?_
        refine wi_i1 hc rfl rfl ?_
        refine wp_cv (b := 580) (As := [.int (iI i)]) (r := []) hc rfl (by rw [cm_58]; rfl) rfl (Nat.le_of_ble_eq_true rfl) (show 580 < 621 by decide) (by rw [cm_58]; rfl) (ev_mono (sl_58_2 (d := 0) hkt (CSt.rw9 hMn) (i := i)) (by omega)) ?_
        show mm_wp _ _ (127, [some (.ref 580), some (.int (iI i)), some (.int (iI z.2.2)), none], [.int (iI 7)], MX L t sn l) _
        refine wi_is1 (L' := [some (.ref 580), some (.int (iI i)), some (.int (iI z.2.2)), some (.int (iI 7))]) hc rfl (Nat.le_of_ble_eq_true rfl) rfl ?_
        refine wi_i1 hc rfl rfl ?_
        refine wi_ic hc rfl ?_
        refine wi_ceq hc rfl ⟨by decide, by decide⟩ ⟨by decide, by decide⟩ (fun q => absurd q (by decide)) (fun _ => ?_)
        refine wi_i1 hc rfl rfl ?_
        refine wi_bi hc rfl rfl ?_
        refine wi_cne hc rfl ⟨by decide, by decide⟩ ⟨by decide, by decide⟩ (fun q => absurd q (by decide)) (fun _ => ?_)
        refine wi_a1 hc rfl rfl ?_
        obtain ⟨f2, y2, hy2⟩ : ∃ f y, rpSum k (rpOne k nm 17 8) y1 = (f, y) := ⟨_, _, rfl⟩
        obtain ⟨sm, hEm, hCm⟩ := (c_all hkt hGC (by decide) 8 (by decide)).2 sn l y1 hMn _ hy2 ⟨by omega, by omega, by omega, by omega⟩ z.2.2 (by omega)
        refine wp_cv (b := 580) (As := []) (r := []) hc rfl (by rw [cm_63]; rfl) rfl (Nat.le_of_ble_eq_true rfl) (show 580 < 621 by decide) (by rw [cm_63]; rfl) (ev_mono hEm (by omega)) ?_
        have hAm := hAn.cfr hkt hCm.2.2 (Int.le_refl _)
        have hDm := hDn.cfr hkt hCm.2.2
        show mm_wp _ _ (143, [some (.ref 580), some (.int (iI i)), some (.int (iI z.2.2)), some (.int (iI 7))], [.int (iI (bI (f2 = 0)))], MX L t sm l) _
        refine wi_bne hc rfl (fun h9_ => ?_) (fun h9_ => ?_)
        · subst h9_
          have hMm : CSt kd pl nm tn t 17 sm y2 0 := hCm.1 rfl
          obtain ⟨hL1, hL2, hL3, hL4, hL5⟩ := rpKw_K (rpSum_K (rpOne_K hk43 8) hy2).1
          refine wi_a1 hc rfl rfl ?_
          refine wi_gr (w := t) hc rfl rfl (by decide) (Nat.le_of_ble_eq_true rfl) rfl ?_
          refine wi_grs (w := t + 4) hkt.2.1 hc rfl (by have := hkt.1; omega) (by decide) rfl ?_
          refine wi_i1 hc rfl rfl ?_
          refine wi_i1 hc rfl rfl ?_
          refine wi_ist (N := 8) hc rfl hkt.2.2.2.2.2.1 (by have := hkt.1; omega) (by decide) (by omega) (by omega) ?_
          obtain ⟨s7_, es7_⟩ : ∃ q, q = up sm (t + 4) 7 z.2.2 := ⟨_, rfl⟩
          rw [← es7_]
          refine wi_a1 hc rfl rfl ?_
          refine wi_gr (w := t) hc rfl rfl (by decide) (Nat.le_of_ble_eq_true rfl) rfl ?_
          refine wi_grs (w := t + 5) hkt.2.1 hc rfl (by have := hkt.1; omega) (by decide) rfl ?_
          refine wi_i1 hc rfl rfl ?_
          refine wi_a1 hc rfl rfl ?_
          refine wi_gr (w := t) hc rfl rfl (by decide) (Nat.le_of_ble_eq_true rfl) rfl ?_
          refine wi_gfs (kz := 6) rfl hkt.2.1 hc rfl (by have := hkt.1; omega) (by decide) rfl (v := y2.2.2) (((congrFun (congrFun es7_ _) _).trans (up_c (by omega))).trans ((by have q := CSt.rc hMm; exact q : sm t 6 = y2.2.2))) ?_
          refine wi_ist (N := 8) hc rfl hkt.2.2.2.2.2.2 (by have := hkt.1; omega) (by decide) (by omega) (by omega) ?_
          obtain ⟨s8_, es8_⟩ : ∃ q, q = up s7_ (t + 5) 7 y2.2.2 := ⟨_, rfl⟩
          rw [← es8_]
          refine wi_a1 hc rfl rfl ?_
          refine wi_bi hc rfl rfl ?_
          have hA3 := hAm.st hkt es7_ es8_
          have hD3 := hDm.st es7_ es8_
          have hM3 := hMm.st hkt es7_ es8_
          obtain ⟨f4, y4, hy4⟩ : ∃ f y, rcWd k 39 y2 = (f, y) := ⟨_, _, rfl⟩
          obtain ⟨se, hEe, hCe⟩ := sk_55 (d := 0) (L := L) (l := l) hkt hGC hM3 ⟨by omega, by omega⟩ (q := 39) ⟨by decide, by decide⟩ (3 * i + 3) hy4
          refine wp_cv (b := 580) (As := [.int (iI 39)]) (r := []) hc rfl (by rw [cm_55]; rfl) rfl (Nat.le_of_ble_eq_true rfl) (show 580 < 621 by decide) (by rw [cm_55]; rfl) (ev_mono hEe (by omega)) ?_
          have hAe := hA3.cnf hkt hCe.2.2 (by omega)
          have hDe := hD3.cnf hkt hCe.2.2
          show mm_wp _ _ (190, [some (.ref 580), some (.int (iI i)), some (.int (iI z.2.2)), some (.int (iI 7))], [.int (iI (bI (f4 = 0)))], MX L t se l) _
          refine wi_rb hc rfl (by rw [cm_56]; rfl) ?_
          have hR9 : rpB (rpB (rcNum k nm G 2 (rpNx z)) (rcMore k nm 2)) (rcWd k 39) = (f4, y4) := by
            rw [hy1, rpB_z, rcMore_2, hy2, rpB_z]
            exact hy4
          have hr9 := rcCl_go hs9 (by decide) (fun e => h4_ e.2) (by omega) hR9
          rw [hr] at hr9
          subst hr9
          refine ⟨se, rfl, fun e => ?_, hCe.2.1, hAe.f⟩
          have e : f4 = 0 := e
          subst e
          obtain rfl : y4 = rpNx y2 := (rcWd_K hk43 (by decide) hy4).2
          subst hi
          refine ⟨⟨_, _, hCe.1 rfl⟩, ?_⟩
          refine CG.add hG (so := 2) (z := rpNx z) (y := rpNx y2) ⟨by decide, by decide⟩ (by omega) (fun e => absurd e (by decide)) ⟨fun e => absurd e (by decide), fun e => by have := h4_; omega⟩ hAe.2.2.1 (fun q q0 q1 => hAe.2.2.2.1 q q1) (hAe.2.2.2.2.1.trans (by decide : (17 : Int) = wdS 2)) hAe.2.2.2.2.2.1 hDe.1 hDe.2.1 hDe.2.2.1 ?_ hDe.2.2.2
          exact hAe.fb (C := fun j => (2 : Int) ≤ 2 ∧ j = slt 2 (nm (rpNx z).1)) (fun j j0 => ⟨fun e => e.2, fun e => ⟨by decide, e⟩⟩)
        · skip
          refine wi_go hc rfl ?_
          refine wi_ic hc rfl ?_
          refine wi_r0 hc rfl (by rw [cm_56]; rfl) ?_
          have hR9 : rpB (rpB (rcNum k nm G 2 (rpNx z)) (rcMore k nm 2)) (rcWd k 39) = (f2, y2) := by
            rw [hy1, rpB_z, rcMore_2, hy2, rpB_n (r := (f2, y2)) h9_]
          have hr9 := rcCl_go hs9 (by decide) (fun e => h4_ e.2) (by omega) hR9
          rw [hr] at hr9
          subst hr9
          exact ⟨sm, by have q := bI_f (p := f2 = 0) h9_; exact congrArg (fun v => (some (Value.int (iI v)), MX L t sm l)) q.symm, fun e => absurd e h9_, fun _ => hCm.2.1 h9_, hAm.f⟩
      · skip
        refine wi_ic hc rfl ?_
        refine wi_r0 hc rfl (by rw [cm_56]; rfl) ?_
        have hR9 : rpB (rpB (rcNum k nm G 2 (rpNx z)) (rcMore k nm 2)) (rcWd k 39) = (f1, y1) := by
          rw [hy1, rpB_n (r := (f1, y1)) h6_, rpB_n (r := (f1, y1)) h6_]
        have hr9 := rcCl_go hs9 (by decide) (fun e => h4_ e.2) (by omega) hR9
        rw [hr] at hr9
        subst hr9
        exact ⟨sn, by have q := bI_f (p := f1 = 0) h6_; exact congrArg (fun v => (some (Value.int (iI v)), MX L t sn l)) q.symm, fun e => absurd e h6_, fun _ => hC2 h6_, hAn.f⟩
    · refine wi_a1 hc rfl rfl ?_
      refine wi_bi hc rfl rfl ?_
      have hM9_ := h.sw6 hkt es1_
      obtain ⟨s9_, hE9_, hX9_, hY9_⟩ := sp_54 (d := 0) (L := L) (t := t) (l := l) (CSt.rR hM9_) (CSt.ra hM9_) ⟨by omega, by omega⟩ (n := 6) ⟨by decide, by decide⟩
      refine wp_cv (b := 580) (As := [.int (iI 6)]) (r := []) hc rfl (by rw [cm_54]; rfl) rfl (Nat.le_of_ble_eq_true rfl) (show 580 < 621 by decide) (by rw [cm_54]; rfl) (ev_mono hE9_ (by omega)) ?_
      show mm_wp _ _ (65, [some (.ref 580), some (.int (iI i)), none, none], [.int (iI 0)], MX L t s9_ l) _
      refine wi_r0 hc rfl (by rw [cm_56]; rfl) ?_
      have hr9 : r = (6, z, G) := by rw [← hr, rcCl_6 hs9 (by decide) (fun e => h4_ e.2) (by omega)]
      subst hr9
      exact ⟨s9_, by rw [bI_f (p := ((6, z, G) : rcR).1 = 0) (by show ¬ (6 : Int) = 0; decide)], fun e => absurd (show (6 : Int) = 0 from e) (by decide), fun _ => ⟨by rw [hY9_]; rfl, by rw [hY9_]; rfl⟩, fun q a1 a2 => by rw [hX9_ q a1, es1_, up_cc a1], fun j a1 a2 => by rw [hY9_, if_neg (by omega), if_neg (by omega), es1_, up_k (by omega)], fun j a => by rw [hX9_ (t + 3) (by omega), es1_, up_cc (by omega)]⟩
  · skip
    refine wi_a1 hc rfl rfl ?_
    refine wi_ic hc rfl ?_
    have hM10_ := h.sw6 hkt es1_
    obtain ⟨s10_, hE10_, hX10_, hY10_⟩ := sp_54 (d := 0) (L := L) (t := t) (l := l) (CSt.rR hM10_) (CSt.ra hM10_) ⟨by omega, by omega⟩ (n := 4) ⟨by decide, by decide⟩
    refine wp_cv (b := 580) (As := [.int (iI 4)]) (r := []) hc rfl (by rw [cm_54]; rfl) rfl (Nat.le_of_ble_eq_true rfl) (show 580 < 621 by decide) (by rw [cm_54]; rfl) (ev_mono hE10_ (by omega)) ?_
    show mm_wp _ _ (52, [some (.ref 580), some (.int (iI i)), none, none], [.int (iI 0)], MX L t s10_ l) _
    refine wi_r0 hc rfl (by rw [cm_56]; rfl) ?_
    have hr9 : r = (4, z, G) := by rw [← hr, rcCl_4 hs9 (by decide) h4_]
    subst hr9
    exact ⟨s10_, by rw [bI_f (p := ((4, z, G) : rcR).1 = 0) (by show ¬ (4 : Int) = 0; decide)], fun e => absurd (show (4 : Int) = 0 from e) (by decide), fun _ => ⟨by rw [hY10_]; rfl, by rw [hY10_]; rfl⟩, fun q a1 a2 => by rw [hX10_ q a1, es1_, up_cc a1], fun j a1 a2 => by rw [hY10_, if_neg (by omega), if_neg (by omega), es1_, up_k (by omega)], fun j a => by rw [hX10_ (t + 3) (by omega), es1_, up_cc (by omega)]⟩
theorem cl_56_3 {D L t : Nat} {s l : Nat → Int → Int} (hD : 24 ≤ D) (hkt : KT L t t) {kd k pl nm : Int → Int} {tn W0 op0 : Int} (hGC : GTC kd k pl nm tn) {z : rpS} (h : CSt kd pl nm tn t W0 s z op0) (hg : rpG tn z) {G : Int → Int} (hG : CG t s G) (hI : GTb G z.2.2) {i : Int} (hi : i = G 0) (hk9 : k z.1 = 18) (hs9 : soO (k z.1) = 3) {r : rcR} (hr : rcCl k nm z G = r) : ∃ s1, mm_Ev mm_ct mm_CM (D + 1) 56 [.ref 580, .int (iI i)] (MX L t s l) (some (.int (iI (bI (r.1 = 0)))), MX L t s1 l) ∧ (r.1 = 0 → (∃ W1 op1, CSt kd pl nm tn t W1 s1 r.2.1 op1) ∧ CG t s1 r.2.2) ∧ (r.1 ≠ 0 → s1 580 8 = r.1 ∧ s1 580 9 = plA pl tn r.2.1.1) ∧ CCf t z.2.2 s s1 := by
  have hc : (mm_CM 56).2.2.2.2.2.2.2 = mm_cf cd_56 := by rw [cm_56]; rfl
  refine ev_xs ?_
  refine ev_to (mx := 4) (by rw [cm_56]; decide) (by rw [cm_56]; rfl) (by show 2 ≤ _; decide) ?_
  show mm_wp _ _ (0, [some (.ref 580), some (.int (iI i)), none, none], [], MX L t s l) (fun res => ∃ s1, res = (some (.int (iI (bI (r.1 = 0)))), MX L t s1 l) ∧ (r.1 = 0 → (∃ W1 op1, CSt kd pl nm tn t W1 s1 r.2.1 op1) ∧ CG t s1 r.2.2) ∧ (r.1 ≠ 0 → s1 580 8 = r.1 ∧ s1 580 9 = plA pl tn r.2.1.1) ∧ CCf t z.2.2 s s1)
  obtain ⟨hk, hk43, hkr, htn⟩ := id hGC
  obtain ⟨hg0, hg1, hg2, hg3⟩ := id hg
  have ht6 := hkt.1
  have hka := kt_all hkt
  have hkz := hkr z.1
  have hG0 := hG.2.1
  refine wi_a1 hc rfl rfl ?_
  refine wi_a1 hc rfl rfl ?_
  have hk1_ : mm_Ev mm_ct mm_CM (0 + 1) 53 [.ref 580] (MX L t s l) (some (.int (iI (k z.1))), MX L t s l) := by rw [hk]; exact sp_53 (d := 0) (CSt.rR h) (CSt.ra h) ⟨by omega, by omega⟩
  rw [hk9] at hk1_
  refine wp_cv (b := 580) (As := []) (r := [.ref 580]) hc rfl (by rw [cm_53]; rfl) rfl (Nat.le_of_ble_eq_true rfl) (show 580 < 621 by decide) (by rw [cm_53]; rfl) (ev_mono hk1_ (by omega)) ?_
  show mm_wp _ _ (5, [some (.ref 580), some (.int (iI i)), none, none], [.int (iI 18), .ref 580], MX L t s l) _
  refine wi_pf (kz := 6) rfl hc rfl rfl (by decide) (Nat.le_of_ble_eq_true rfl) rfl (Nat.le_of_ble_eq_true rfl) ⟨rfl, rfl⟩ rfl ?_
  obtain ⟨s1_, es1_⟩ : ∃ q, q = up s 580 6 18 := ⟨_, rfl⟩
  rw [← es1_]
  refine wi_a1 hc rfl rfl ?_
  refine wi_gfv (kz := 6) rfl hc rfl rfl (by decide) (Nat.le_of_ble_eq_true rfl) rfl (v := 18) ((congrFun (congrFun es1_ _) _).trans (up_e (by omega))) ?_
  refine wi_ic hc rfl ?_
  refine wi_ceq hc rfl ⟨by decide, by decide⟩ ⟨by decide, by decide⟩ (fun q => absurd q (by decide)) (fun _ => ?_)
  refine wi_a1 hc rfl rfl ?_
  refine wi_gfv (kz := 6) rfl hc rfl rfl (by decide) (Nat.le_of_ble_eq_true rfl) rfl (v := 18) ((congrFun (congrFun es1_ _) _).trans (up_e (by omega))) ?_
  refine wi_bi hc rfl rfl ?_
  refine wi_clt hc rfl ⟨by decide, by decide⟩ ⟨by decide, by decide⟩ (fun q => absurd q (by decide)) (fun _ => ?_)
  refine wi_a1 hc rfl rfl ?_
  refine wi_gfv (kz := 6) rfl hc rfl rfl (by decide) (Nat.le_of_ble_eq_true rfl) rfl (v := 18) ((congrFun (congrFun es1_ _) _).trans (up_e (by omega))) ?_
  refine wi_bi hc rfl rfl ?_
  refine wi_cle hc rfl ⟨by decide, by decide⟩ ⟨by decide, by decide⟩ (fun _ => ?_) (fun q => absurd q (by decide))
  refine wi_a1 hc rfl rfl ?_
  refine wp_cv (b := 580) (As := []) (r := []) hc rfl (by rw [cm_57]; rfl) rfl (Nat.le_of_ble_eq_true rfl) (show 580 < 621 by decide) (by rw [cm_57]; rfl) (ev_mono (tw_57_3 (d := 0) hkt (by rw [es1_, up_at]) (G := G) (x := s t 7) (by rw [es1_, up_cc (show t ≠ 580 by omega)]) (hG.n7 hI).1 (hG.n7 hI).2) (by omega)) ?_
  show mm_wp _ _ (44, [some (.ref 580), some (.int (iI i)), none, none], [.int (iI (bI (0 ≤ rcHas G 3 0)))], MX L t s1_ l) _
  refine wi_beq hc rfl (fun h4_ => ?_) (fun h4_ => ?_)
  · skip
    refine wi_i1 hc rfl rfl ?_
    refine wi_bi hc rfl rfl ?_
    refine wi_clt hc rfl ⟨by omega, by omega⟩ ⟨by decide, by decide⟩ (fun h5_ => ?_) (fun h5_ => ?_)
    · have hnx9 : z.1 + 1 < tn := by
        rcases (by omega : z.1 + 1 < tn ∨ tn - 1 ≤ z.1) with g | g
        · exact g
        · exfalso; have := hk43 z.1 g; omega
      refine wi_a1 hc rfl rfl ?_
      refine wi_dupr hc rfl ?_
      refine wi_gfv (kz := 4) rfl hc rfl rfl (by decide) (Nat.le_of_ble_eq_true rfl) rfl (v := z.1) (((congrFun (congrFun es1_ _) _).trans (up_k (by omega))).trans ((by have q := CSt.ra h; exact q : s 580 4 = z.1))) ?_
      refine wi_ic hc rfl ?_
      refine wi_add hc rfl ?_
      refine wi_pf (kz := 4) rfl hc rfl rfl (by decide) (Nat.le_of_ble_eq_true rfl) rfl (Nat.le_of_ble_eq_true rfl) ⟨rfl, rfl⟩ rfl ?_
      obtain ⟨s2_, es2_⟩ : ∃ q, q = up s1_ 580 4 (z.1 + 1) := ⟨_, rfl⟩
      rw [← es2_]
      refine wi_a1 hc rfl rfl ?_
      refine wi_ic hc rfl ?_
      refine wi_pf (kz := 7) rfl hc rfl rfl (by decide) (Nat.le_of_ble_eq_true rfl) rfl (Nat.le_of_ble_eq_true rfl) ⟨rfl, rfl⟩ rfl ?_
      obtain ⟨s3_, es3_⟩ : ∃ q, q = up s2_ 580 7 0 := ⟨_, rfl⟩
      rw [← es3_]
      refine wi_a1 hc rfl rfl ?_
      refine wi_gr (w := t) hc rfl rfl (by decide) (Nat.le_of_ble_eq_true rfl) rfl ?_
      refine wi_grs (w := t + 1) hkt.2.1 hc rfl (by have := hkt.1; omega) (by decide) rfl ?_
      refine wi_i1 hc rfl rfl ?_
      refine wi_a1 hc rfl rfl ?_
      refine wi_gfv (kz := 6) rfl hc rfl rfl (by decide) (Nat.le_of_ble_eq_true rfl) rfl (v := 18) (((congrFun (congrFun es3_ _) _).trans (up_k (by omega))).trans (((congrFun (congrFun es2_ _) _).trans (up_k (by omega))).trans ((congrFun (congrFun es1_ _) _).trans (up_e (by omega))))) ?_
      refine wi_ist (N := 24) hc rfl hkt.2.2.1 (by have := hkt.1; omega) (by decide) (by omega) (by omega) ?_
      obtain ⟨s4_, es4_⟩ : ∃ q, q = up s3_ (t + 1) i 18 := ⟨_, rfl⟩
      rw [← es4_]
      refine wi_a1 hc rfl rfl ?_
      refine wi_gr (w := t) hc rfl rfl (by decide) (Nat.le_of_ble_eq_true rfl) rfl ?_
      refine wi_i1 hc rfl rfl ?_
      refine wi_ic hc rfl ?_
      refine wi_add hc rfl ?_
      refine wi_pfs (kz := 5) rfl hkt.2.1 hc rfl (by have := hkt.1; omega) (by decide) rfl (Nat.le_of_ble_eq_true rfl) ⟨rfl, rfl⟩ rfl ?_
      obtain ⟨s5_, es5_⟩ : ∃ q, q = up s4_ t 5 (i + 1) := ⟨_, rfl⟩
      rw [← es5_]
      refine wi_a1 hc rfl rfl ?_
      refine wi_gr (w := t) hc rfl rfl (by decide) (Nat.le_of_ble_eq_true rfl) rfl ?_
      refine wi_gfs (kz := 6) rfl hkt.2.1 hc rfl (by have := hkt.1; omega) (by decide) rfl (v := z.2.2) (((congrFun (congrFun es5_ _) _).trans (up_k (by omega))).trans (((congrFun (congrFun es4_ _) _).trans (up_c (by omega))).trans (((congrFun (congrFun es3_ _) _).trans (up_c (by omega))).trans (((congrFun (congrFun es2_ _) _).trans (up_c (by omega))).trans (((congrFun (congrFun es1_ _) _).trans (up_c (by omega))).trans ((by have q := CSt.rc h; exact q : s t 6 = z.2.2))))))) ?_
      refine wi_is1 (L' := [some (.ref 580), some (.int (iI i)), some (.int (iI z.2.2)), none]) hc rfl (Nat.le_of_ble_eq_true rfl) rfl ?_
      refine wi_a1 hc rfl rfl ?_
      refine wi_i1 hc rfl rfl ?_
      obtain ⟨hMb, hAb, hTb, hB4, hB5⟩ := CSt.beg (c := z.2.2) h hkt es1_ es2_ es3_ es4_ es5_
      have hCH : CH t s5_ G := by
        have q := hG.ch hI
        unfold CH at q ⊢
        rw [hB4, hB5]
        exact q
      obtain ⟨f1, y1, hy1⟩ : ∃ f y, rcNum k nm G 3 (rpNx z) = (f, y) := ⟨_, _, rfl⟩
      obtain ⟨sn, hEn, ⟨hC1, hC2, hC3⟩, hN⟩ := nb_59_3 (d := 0) (L := L) (l := l) hkt hGC hMb ⟨by show 0 ≤ z.1 + 1; omega, by show z.1 + 1 + 1 ≤ tn; omega⟩ hCH (i := i) ⟨by omega, by omega⟩ hy1
      refine wp_cv (b := 580) (As := [.int (iI i)]) (r := []) hc rfl (by rw [cm_59]; rfl) rfl (Nat.le_of_ble_eq_true rfl) (show 580 < 621 by decide) (by rw [cm_59]; rfl) (ev_mono hEn (by omega)) ?_
      have hAn := hAb.cng hkt hC3
      have hDn : f1 = 0 → ND nm t i 3 (rpNx z) s sn := fun e0 => ⟨fun _ => (hN e0).1, fun e => absurd e (by decide), fun e => absurd e (by decide), (by rw [if_pos rfl]; exact (hN e0).2)⟩
      show mm_wp _ _ (117, [some (.ref 580), some (.int (iI i)), some (.int (iI z.2.2)), none], [.int (iI (bI (f1 = 0)))], MX L t sn l) _
      refine wi_bne hc rfl (fun h6_ => ?_) (fun h6_ => ?_)
      · subst h6_
        have hMn : CSt kd pl nm tn t 18 sn y1 0 := hC1 rfl
        have hDn := hDn rfl
        obtain ⟨hK1, hK2, hK3, hK4⟩ := rcNum_K hk43 (by decide) (by show z.1 + 1 ≤ tn - 1; omega) hy1
        have hK1 : z.1 + 1 ≤ y1.1 := hK1
        have hK5 : y1.2.2 = z.2.2 := by rw [hK3]; rfl
        refine wi_a1 hc rfl rfl ?_
        refine wi_i1 hc rfl rfl ?_
        refine wp_cv (b := 580) (As := [.int (iI i)]) (r := []) hc rfl (by rw [cm_58]; rfl) rfl (Nat.le_of_ble_eq_true rfl) (show 580 < 621 by decide) (by rw [cm_58]; rfl) (ev_mono (sl_58_3 (d := 0) hkt (CSt.rw9 hMn) (i := i)) (by omega)) ?_
        show mm_wp _ _ (127, [some (.ref 580), some (.int (iI i)), some (.int (iI z.2.2)), none], [.int (iI (-1))], MX L t sn l) _
        refine wi_is1 (L' := [some (.ref 580), some (.int (iI i)), some (.int (iI z.2.2)), some (.int (iI (-1)))]) hc rfl (Nat.le_of_ble_eq_true rfl) rfl ?_
        refine wi_i1 hc rfl rfl ?_
        refine wi_ic hc rfl ?_
        refine wi_ceq hc rfl ⟨by decide, by decide⟩ ⟨by decide, by decide⟩ (fun _ => ?_) (fun q => absurd q (by decide))
        refine wi_a1 hc rfl rfl ?_
        refine wi_bi hc rfl rfl ?_
        obtain ⟨f4, y4, hy4⟩ : ∃ f y, rcWd k 39 y1 = (f, y) := ⟨_, _, rfl⟩
        obtain ⟨se, hEe, hCe⟩ := sk_55 (d := 0) (L := L) (l := l) hkt hGC hMn ⟨by omega, by omega⟩ (q := 39) ⟨by decide, by decide⟩ (3 * i + 3) hy4
        refine wp_cv (b := 580) (As := [.int (iI 39)]) (r := []) hc rfl (by rw [cm_55]; rfl) rfl (Nat.le_of_ble_eq_true rfl) (show 580 < 621 by decide) (by rw [cm_55]; rfl) (ev_mono hEe (by omega)) ?_
        have hAe := hAn.cnf hkt hCe.2.2 (by omega)
        have hDe := hDn.cnf hkt hCe.2.2
        show mm_wp _ _ (190, [some (.ref 580), some (.int (iI i)), some (.int (iI z.2.2)), some (.int (iI (-1)))], [.int (iI (bI (f4 = 0)))], MX L t se l) _
        refine wi_rb hc rfl (by rw [cm_56]; rfl) ?_
        have hR9 : rpB (rpB (rcNum k nm G 3 (rpNx z)) (rcMore k nm 3)) (rcWd k 39) = (f4, y4) := by
          rw [hy1, rpB_z, rcMore_n (by decide), rpB_z]
          exact hy4
        have hr9 := rcCl_go hs9 (by decide) (fun e => h4_ e.2) (by omega) hR9
        rw [hr] at hr9
        subst hr9
        refine ⟨se, rfl, fun e => ?_, hCe.2.1, hAe.f⟩
        have e : f4 = 0 := e
        subst e
        obtain rfl : y4 = rpNx y1 := (rcWd_K hk43 (by decide) hy4).2
        subst hi
        refine ⟨⟨_, _, hCe.1 rfl⟩, ?_⟩
        refine CG.add hG (so := 3) (z := rpNx z) (y := rpNx y1) ⟨by decide, by decide⟩ (by omega) (fun e => absurd e (by decide)) ⟨fun e => absurd e (by decide), fun e => by have := h4_; omega⟩ hAe.2.2.1 (fun q q0 q1 => hAe.2.2.2.1 q q1) (hAe.2.2.2.2.1.trans (by decide : (18 : Int) = wdS 3)) hAe.2.2.2.2.2.1 hDe.1 hDe.2.1 hDe.2.2.1 ?_ hDe.2.2.2
        intro j j0 j1
        have q := hAe.fb (C := fun j => (3 : Int) ≤ 2 ∧ j = slt 3 (nm (rpNx z).1)) (fun j j0 => ⟨fun e => absurd e.1 (by decide), fun e => by omega⟩) j j0 j1
        rw [if_neg (fun e => absurd e.1 (by decide)), if_neg (fun e => absurd e.1 (by decide))] at q ⊢
        exact q
      · skip
        refine wi_ic hc rfl ?_
        refine wi_r0 hc rfl (by rw [cm_56]; rfl) ?_
        have hR9 : rpB (rpB (rcNum k nm G 3 (rpNx z)) (rcMore k nm 3)) (rcWd k 39) = (f1, y1) := by
          rw [hy1, rpB_n (r := (f1, y1)) h6_, rpB_n (r := (f1, y1)) h6_]
        have hr9 := rcCl_go hs9 (by decide) (fun e => h4_ e.2) (by omega) hR9
        rw [hr] at hr9
        subst hr9
        exact ⟨sn, by have q := bI_f (p := f1 = 0) h6_; exact congrArg (fun v => (some (Value.int (iI v)), MX L t sn l)) q.symm, fun e => absurd e h6_, fun _ => hC2 h6_, hAn.f⟩
    · refine wi_a1 hc rfl rfl ?_
      refine wi_bi hc rfl rfl ?_
      have hM7_ := h.sw6 hkt es1_
      obtain ⟨s7_, hE7_, hX7_, hY7_⟩ := sp_54 (d := 0) (L := L) (t := t) (l := l) (CSt.rR hM7_) (CSt.ra hM7_) ⟨by omega, by omega⟩ (n := 6) ⟨by decide, by decide⟩
      refine wp_cv (b := 580) (As := [.int (iI 6)]) (r := []) hc rfl (by rw [cm_54]; rfl) rfl (Nat.le_of_ble_eq_true rfl) (show 580 < 621 by decide) (by rw [cm_54]; rfl) (ev_mono hE7_ (by omega)) ?_
      show mm_wp _ _ (65, [some (.ref 580), some (.int (iI i)), none, none], [.int (iI 0)], MX L t s7_ l) _
      refine wi_r0 hc rfl (by rw [cm_56]; rfl) ?_
      have hr9 : r = (6, z, G) := by rw [← hr, rcCl_6 hs9 (by decide) (fun e => h4_ e.2) (by omega)]
      subst hr9
      exact ⟨s7_, by rw [bI_f (p := ((6, z, G) : rcR).1 = 0) (by show ¬ (6 : Int) = 0; decide)], fun e => absurd (show (6 : Int) = 0 from e) (by decide), fun _ => ⟨by rw [hY7_]; rfl, by rw [hY7_]; rfl⟩, fun q a1 a2 => by rw [hX7_ q a1, es1_, up_cc a1], fun j a1 a2 => by rw [hY7_, if_neg (by omega), if_neg (by omega), es1_, up_k (by omega)], fun j a => by rw [hX7_ (t + 3) (by omega), es1_, up_cc (by omega)]⟩
  · skip
    refine wi_a1 hc rfl rfl ?_
    refine wi_ic hc rfl ?_
    have hM8_ := h.sw6 hkt es1_
    obtain ⟨s8_, hE8_, hX8_, hY8_⟩ := sp_54 (d := 0) (L := L) (t := t) (l := l) (CSt.rR hM8_) (CSt.ra hM8_) ⟨by omega, by omega⟩ (n := 4) ⟨by decide, by decide⟩
    refine wp_cv (b := 580) (As := [.int (iI 4)]) (r := []) hc rfl (by rw [cm_54]; rfl) rfl (Nat.le_of_ble_eq_true rfl) (show 580 < 621 by decide) (by rw [cm_54]; rfl) (ev_mono hE8_ (by omega)) ?_
    show mm_wp _ _ (52, [some (.ref 580), some (.int (iI i)), none, none], [.int (iI 0)], MX L t s8_ l) _
    refine wi_r0 hc rfl (by rw [cm_56]; rfl) ?_
    have hr9 : r = (4, z, G) := by rw [← hr, rcCl_4 hs9 (by decide) h4_]
    subst hr9
    exact ⟨s8_, by rw [bI_f (p := ((4, z, G) : rcR).1 = 0) (by show ¬ (4 : Int) = 0; decide)], fun e => absurd (show (4 : Int) = 0 from e) (by decide), fun _ => ⟨by rw [hY8_]; rfl, by rw [hY8_]; rfl⟩, fun q a1 a2 => by rw [hX8_ q a1, es1_, up_cc a1], fun j a1 a2 => by rw [hY8_, if_neg (by omega), if_neg (by omega), es1_, up_k (by omega)], fun j a => by rw [hX8_ (t + 3) (by omega), es1_, up_cc (by omega)]⟩
theorem cl_56_4 {D L t : Nat} {s l : Nat → Int → Int} (hD : 24 ≤ D) (hkt : KT L t t) {kd k pl nm : Int → Int} {tn W0 op0 : Int} (hGC : GTC kd k pl nm tn) {z : rpS} (h : CSt kd pl nm tn t W0 s z op0) (hg : rpG tn z) {G : Int → Int} (hG : CG t s G) (hI : GTb G z.2.2) {i : Int} (hi : i = G 0) (hk9 : k z.1 = 19) (hs9 : soO (k z.1) = 4) {r : rcR} (hr : rcCl k nm z G = r) : ∃ s1, mm_Ev mm_ct mm_CM (D + 1) 56 [.ref 580, .int (iI i)] (MX L t s l) (some (.int (iI (bI (r.1 = 0)))), MX L t s1 l) ∧ (r.1 = 0 → (∃ W1 op1, CSt kd pl nm tn t W1 s1 r.2.1 op1) ∧ CG t s1 r.2.2) ∧ (r.1 ≠ 0 → s1 580 8 = r.1 ∧ s1 580 9 = plA pl tn r.2.1.1) ∧ CCf t z.2.2 s s1 := by
  have hc : (mm_CM 56).2.2.2.2.2.2.2 = mm_cf cd_56 := by rw [cm_56]; rfl
  refine ev_xs ?_
  refine ev_to (mx := 4) (by rw [cm_56]; decide) (by rw [cm_56]; rfl) (by show 2 ≤ _; decide) ?_
  show mm_wp _ _ (0, [some (.ref 580), some (.int (iI i)), none, none], [], MX L t s l) (fun res => ∃ s1, res = (some (.int (iI (bI (r.1 = 0)))), MX L t s1 l) ∧ (r.1 = 0 → (∃ W1 op1, CSt kd pl nm tn t W1 s1 r.2.1 op1) ∧ CG t s1 r.2.2) ∧ (r.1 ≠ 0 → s1 580 8 = r.1 ∧ s1 580 9 = plA pl tn r.2.1.1) ∧ CCf t z.2.2 s s1)
  obtain ⟨hk, hk43, hkr, htn⟩ := id hGC
  obtain ⟨hg0, hg1, hg2, hg3⟩ := id hg
  have ht6 := hkt.1
  have hka := kt_all hkt
  have hkz := hkr z.1
  have hG0 := hG.2.1
  refine wi_a1 hc rfl rfl ?_
  refine wi_a1 hc rfl rfl ?_
  have hk1_ : mm_Ev mm_ct mm_CM (0 + 1) 53 [.ref 580] (MX L t s l) (some (.int (iI (k z.1))), MX L t s l) := by rw [hk]; exact sp_53 (d := 0) (CSt.rR h) (CSt.ra h) ⟨by omega, by omega⟩
  rw [hk9] at hk1_
  refine wp_cv (b := 580) (As := []) (r := [.ref 580]) hc rfl (by rw [cm_53]; rfl) rfl (Nat.le_of_ble_eq_true rfl) (show 580 < 621 by decide) (by rw [cm_53]; rfl) (ev_mono hk1_ (by omega)) ?_
  show mm_wp _ _ (5, [some (.ref 580), some (.int (iI i)), none, none], [.int (iI 19), .ref 580], MX L t s l) _
  refine wi_pf (kz := 6) rfl hc rfl rfl (by decide) (Nat.le_of_ble_eq_true rfl) rfl (Nat.le_of_ble_eq_true rfl) ⟨rfl, rfl⟩ rfl ?_
  obtain ⟨s1_, es1_⟩ : ∃ q, q = up s 580 6 19 := ⟨_, rfl⟩
  rw [← es1_]
  refine wi_a1 hc rfl rfl ?_
  refine wi_gfv (kz := 6) rfl hc rfl rfl (by decide) (Nat.le_of_ble_eq_true rfl) rfl (v := 19) ((congrFun (congrFun es1_ _) _).trans (up_e (by omega))) ?_
  refine wi_ic hc rfl ?_
  refine wi_ceq hc rfl ⟨by decide, by decide⟩ ⟨by decide, by decide⟩ (fun q => absurd q (by decide)) (fun _ => ?_)
  refine wi_a1 hc rfl rfl ?_
  refine wi_gfv (kz := 6) rfl hc rfl rfl (by decide) (Nat.le_of_ble_eq_true rfl) rfl (v := 19) ((congrFun (congrFun es1_ _) _).trans (up_e (by omega))) ?_
  refine wi_bi hc rfl rfl ?_
  refine wi_clt hc rfl ⟨by decide, by decide⟩ ⟨by decide, by decide⟩ (fun q => absurd q (by decide)) (fun _ => ?_)
  refine wi_a1 hc rfl rfl ?_
  refine wi_gfv (kz := 6) rfl hc rfl rfl (by decide) (Nat.le_of_ble_eq_true rfl) rfl (v := 19) ((congrFun (congrFun es1_ _) _).trans (up_e (by omega))) ?_
  refine wi_bi hc rfl rfl ?_
  refine wi_cle hc rfl ⟨by decide, by decide⟩ ⟨by decide, by decide⟩ (fun _ => ?_) (fun q => absurd q (by decide))
  refine wi_a1 hc rfl rfl ?_
  refine wp_cv (b := 580) (As := []) (r := []) hc rfl (by rw [cm_57]; rfl) rfl (Nat.le_of_ble_eq_true rfl) (show 580 < 621 by decide) (by rw [cm_57]; rfl) (ev_mono (tw_57_4 (d := 0) hkt (by rw [es1_, up_at])) (by omega)) ?_
  show mm_wp _ _ (44, [some (.ref 580), some (.int (iI i)), none, none], [.int (iI 0)], MX L t s1_ l) _
  refine wi_zeq hc rfl ⟨by decide, by decide⟩ (fun _ => ?_) (fun q => absurd q (by decide))
  refine wi_i1 hc rfl rfl ?_
  refine wi_bi hc rfl rfl ?_
  refine wi_clt hc rfl ⟨by omega, by omega⟩ ⟨by decide, by decide⟩ (fun h5_ => ?_) (fun h5_ => ?_)
  · have hnx9 : z.1 + 1 < tn := by
      rcases (by omega : z.1 + 1 < tn ∨ tn - 1 ≤ z.1) with g | g
      · exact g
      · exfalso; have := hk43 z.1 g; omega
    refine wi_a1 hc rfl rfl ?_
    refine wi_dupr hc rfl ?_
    refine wi_gfv (kz := 4) rfl hc rfl rfl (by decide) (Nat.le_of_ble_eq_true rfl) rfl (v := z.1) (((congrFun (congrFun es1_ _) _).trans (up_k (by omega))).trans ((by have q := CSt.ra h; exact q : s 580 4 = z.1))) ?_
    refine wi_ic hc rfl ?_
    refine wi_add hc rfl ?_
    refine wi_pf (kz := 4) rfl hc rfl rfl (by decide) (Nat.le_of_ble_eq_true rfl) rfl (Nat.le_of_ble_eq_true rfl) ⟨rfl, rfl⟩ rfl ?_
    obtain ⟨s2_, es2_⟩ : ∃ q, q = up s1_ 580 4 (z.1 + 1) := ⟨_, rfl⟩
    rw [← es2_]
    refine wi_a1 hc rfl rfl ?_
    refine wi_ic hc rfl ?_
    refine wi_pf (kz := 7) rfl hc rfl rfl (by decide) (Nat.le_of_ble_eq_true rfl) rfl (Nat.le_of_ble_eq_true rfl) ⟨rfl, rfl⟩ rfl ?_
    obtain ⟨s3_, es3_⟩ : ∃ q, q = up s2_ 580 7 0 := ⟨_, rfl⟩
    rw [← es3_]
    refine wi_a1 hc rfl rfl ?_
    refine wi_gr (w := t) hc rfl rfl (by decide) (Nat.le_of_ble_eq_true rfl) rfl ?_
    refine wi_grs (w := t + 1) hkt.2.1 hc rfl (by have := hkt.1; omega) (by decide) rfl ?_
    refine wi_i1 hc rfl rfl ?_
    refine wi_a1 hc rfl rfl ?_
    refine wi_gfv (kz := 6) rfl hc rfl rfl (by decide) (Nat.le_of_ble_eq_true rfl) rfl (v := 19) (((congrFun (congrFun es3_ _) _).trans (up_k (by omega))).trans (((congrFun (congrFun es2_ _) _).trans (up_k (by omega))).trans ((congrFun (congrFun es1_ _) _).trans (up_e (by omega))))) ?_
    refine wi_ist (N := 24) hc rfl hkt.2.2.1 (by have := hkt.1; omega) (by decide) (by omega) (by omega) ?_
    obtain ⟨s4_, es4_⟩ : ∃ q, q = up s3_ (t + 1) i 19 := ⟨_, rfl⟩
    rw [← es4_]
    refine wi_a1 hc rfl rfl ?_
    refine wi_gr (w := t) hc rfl rfl (by decide) (Nat.le_of_ble_eq_true rfl) rfl ?_
    refine wi_i1 hc rfl rfl ?_
    refine wi_ic hc rfl ?_
    refine wi_add hc rfl ?_
    refine wi_pfs (kz := 5) rfl hkt.2.1 hc rfl (by have := hkt.1; omega) (by decide) rfl (Nat.le_of_ble_eq_true rfl) ⟨rfl, rfl⟩ rfl ?_
    obtain ⟨s5_, es5_⟩ : ∃ q, q = up s4_ t 5 (i + 1) := ⟨_, rfl⟩
    rw [← es5_]
    refine wi_a1 hc rfl rfl ?_
    refine wi_gr (w := t) hc rfl rfl (by decide) (Nat.le_of_ble_eq_true rfl) rfl ?_
    refine wi_gfs (kz := 6) rfl hkt.2.1 hc rfl (by have := hkt.1; omega) (by decide) rfl (v := z.2.2) (((congrFun (congrFun es5_ _) _).trans (up_k (by omega))).trans (((congrFun (congrFun es4_ _) _).trans (up_c (by omega))).trans (((congrFun (congrFun es3_ _) _).trans (up_c (by omega))).trans (((congrFun (congrFun es2_ _) _).trans (up_c (by omega))).trans (((congrFun (congrFun es1_ _) _).trans (up_c (by omega))).trans ((by have q := CSt.rc h; exact q : s t 6 = z.2.2))))))) ?_
    refine wi_is1 (L' := [some (.ref 580), some (.int (iI i)), some (.int (iI z.2.2)), none]) hc rfl (Nat.le_of_ble_eq_true rfl) rfl ?_
    refine wi_a1 hc rfl rfl ?_
    refine wi_i1 hc rfl rfl ?_
    obtain ⟨hMb, hAb, hTb, hB4, hB5⟩ := CSt.beg (c := z.2.2) h hkt es1_ es2_ es3_ es4_ es5_
    have hCH : CH t s5_ G := by
      have q := hG.ch hI
      unfold CH at q ⊢
      rw [hB4, hB5]
      exact q
    obtain ⟨f1, y1, hy1⟩ : ∃ f y, rcNum k nm G 4 (rpNx z) = (f, y) := ⟨_, _, rfl⟩
    obtain ⟨sn, hEn, ⟨hC1, hC2, hC3⟩, hN⟩ := nb_59_4 (d := 0) (L := L) (l := l) hkt hGC hMb ⟨by show 0 ≤ z.1 + 1; omega, by show z.1 + 1 + 1 ≤ tn; omega⟩ hCH (i := i) ⟨by omega, by omega⟩ hy1
    refine wp_cv (b := 580) (As := [.int (iI i)]) (r := []) hc rfl (by rw [cm_59]; rfl) rfl (Nat.le_of_ble_eq_true rfl) (show 580 < 621 by decide) (by rw [cm_59]; rfl) (ev_mono hEn (by omega)) ?_
    have hAn := hAb.cng hkt hC3
    have hDn : f1 = 0 → ND nm t i 4 (rpNx z) s sn := fun e0 => ⟨fun _ => (hN e0).1, fun e => absurd e (by decide), fun e => absurd e (by decide), (by rw [if_neg (by decide)]; exact (hN e0).2.trans (hTb 7 (by decide)))⟩
    show mm_wp _ _ (117, [some (.ref 580), some (.int (iI i)), some (.int (iI z.2.2)), none], [.int (iI (bI (f1 = 0)))], MX L t sn l) _
    refine wi_bne hc rfl (fun h6_ => ?_) (fun h6_ => ?_)
    · subst h6_
      have hMn : CSt kd pl nm tn t 19 sn y1 0 := hC1 rfl
      have hDn := hDn rfl
      obtain ⟨hK1, hK2, hK3, hK4⟩ := rcNum_K hk43 (by decide) (by show z.1 + 1 ≤ tn - 1; omega) hy1
      have hK1 : z.1 + 1 ≤ y1.1 := hK1
      have hK5 : y1.2.2 = z.2.2 := by rw [hK3]; rfl
      refine wi_a1 hc rfl rfl ?_
      refine wi_i1 hc rfl rfl ?_
      refine wp_cv (b := 580) (As := [.int (iI i)]) (r := []) hc rfl (by rw [cm_58]; rfl) rfl (Nat.le_of_ble_eq_true rfl) (show 580 < 621 by decide) (by rw [cm_58]; rfl) (ev_mono (sl_58_4 (d := 0) hkt (CSt.rw9 hMn) (i := i)) (by omega)) ?_
      show mm_wp _ _ (127, [some (.ref 580), some (.int (iI i)), some (.int (iI z.2.2)), none], [.int (iI (-1))], MX L t sn l) _
      refine wi_is1 (L' := [some (.ref 580), some (.int (iI i)), some (.int (iI z.2.2)), some (.int (iI (-1)))]) hc rfl (Nat.le_of_ble_eq_true rfl) rfl ?_
      refine wi_i1 hc rfl rfl ?_
      refine wi_ic hc rfl ?_
      refine wi_ceq hc rfl ⟨by decide, by decide⟩ ⟨by decide, by decide⟩ (fun _ => ?_) (fun q => absurd q (by decide))
      refine wi_a1 hc rfl rfl ?_
      refine wi_bi hc rfl rfl ?_
      obtain ⟨f4, y4, hy4⟩ : ∃ f y, rcWd k 39 y1 = (f, y) := ⟨_, _, rfl⟩
      obtain ⟨se, hEe, hCe⟩ := sk_55 (d := 0) (L := L) (l := l) hkt hGC hMn ⟨by omega, by omega⟩ (q := 39) ⟨by decide, by decide⟩ (3 * i + 3) hy4
      refine wp_cv (b := 580) (As := [.int (iI 39)]) (r := []) hc rfl (by rw [cm_55]; rfl) rfl (Nat.le_of_ble_eq_true rfl) (show 580 < 621 by decide) (by rw [cm_55]; rfl) (ev_mono hEe (by omega)) ?_
      have hAe := hAn.cnf hkt hCe.2.2 (by omega)
      have hDe := hDn.cnf hkt hCe.2.2
      show mm_wp _ _ (190, [some (.ref 580), some (.int (iI i)), some (.int (iI z.2.2)), some (.int (iI (-1)))], [.int (iI (bI (f4 = 0)))], MX L t se l) _
      refine wi_rb hc rfl (by rw [cm_56]; rfl) ?_
      have hR9 : rpB (rpB (rcNum k nm G 4 (rpNx z)) (rcMore k nm 4)) (rcWd k 39) = (f4, y4) := by
        rw [hy1, rpB_z, rcMore_n (by decide), rpB_z]
        exact hy4
      have hr9 := rcCl_go hs9 (by decide) (fun e => absurd e.1 (by decide)) (by omega) hR9
      rw [hr] at hr9
      subst hr9
      refine ⟨se, rfl, fun e => ?_, hCe.2.1, hAe.f⟩
      have e : f4 = 0 := e
      subst e
      obtain rfl : y4 = rpNx y1 := (rcWd_K hk43 (by decide) hy4).2
      subst hi
      refine ⟨⟨_, _, hCe.1 rfl⟩, ?_⟩
      refine CG.add hG (so := 4) (z := rpNx z) (y := rpNx y1) ⟨by decide, by decide⟩ (by omega) (fun e => absurd e (by decide)) ⟨fun e => absurd e (by decide), fun e => absurd e (by decide)⟩ hAe.2.2.1 (fun q q0 q1 => hAe.2.2.2.1 q q1) (hAe.2.2.2.2.1.trans (by decide : (19 : Int) = wdS 4)) hAe.2.2.2.2.2.1 hDe.1 hDe.2.1 hDe.2.2.1 ?_ hDe.2.2.2
      intro j j0 j1
      have q := hAe.fb (C := fun j => (4 : Int) ≤ 2 ∧ j = slt 4 (nm (rpNx z).1)) (fun j j0 => ⟨fun e => absurd e.1 (by decide), fun e => by omega⟩) j j0 j1
      rw [if_neg (fun e => absurd e.1 (by decide)), if_neg (fun e => absurd e.1 (by decide))] at q ⊢
      exact q
    · skip
      refine wi_ic hc rfl ?_
      refine wi_r0 hc rfl (by rw [cm_56]; rfl) ?_
      have hR9 : rpB (rpB (rcNum k nm G 4 (rpNx z)) (rcMore k nm 4)) (rcWd k 39) = (f1, y1) := by
        rw [hy1, rpB_n (r := (f1, y1)) h6_, rpB_n (r := (f1, y1)) h6_]
      have hr9 := rcCl_go hs9 (by decide) (fun e => absurd e.1 (by decide)) (by omega) hR9
      rw [hr] at hr9
      subst hr9
      exact ⟨sn, by have q := bI_f (p := f1 = 0) h6_; exact congrArg (fun v => (some (Value.int (iI v)), MX L t sn l)) q.symm, fun e => absurd e h6_, fun _ => hC2 h6_, hAn.f⟩
  · refine wi_a1 hc rfl rfl ?_
    refine wi_bi hc rfl rfl ?_
    have hM7_ := h.sw6 hkt es1_
    obtain ⟨s7_, hE7_, hX7_, hY7_⟩ := sp_54 (d := 0) (L := L) (t := t) (l := l) (CSt.rR hM7_) (CSt.ra hM7_) ⟨by omega, by omega⟩ (n := 6) ⟨by decide, by decide⟩
    refine wp_cv (b := 580) (As := [.int (iI 6)]) (r := []) hc rfl (by rw [cm_54]; rfl) rfl (Nat.le_of_ble_eq_true rfl) (show 580 < 621 by decide) (by rw [cm_54]; rfl) (ev_mono hE7_ (by omega)) ?_
    show mm_wp _ _ (65, [some (.ref 580), some (.int (iI i)), none, none], [.int (iI 0)], MX L t s7_ l) _
    refine wi_r0 hc rfl (by rw [cm_56]; rfl) ?_
    have hr9 : r = (6, z, G) := by rw [← hr, rcCl_6 hs9 (by decide) (fun e => absurd e.1 (by decide)) (by omega)]
    subst hr9
    exact ⟨s7_, by rw [bI_f (p := ((6, z, G) : rcR).1 = 0) (by show ¬ (6 : Int) = 0; decide)], fun e => absurd (show (6 : Int) = 0 from e) (by decide), fun _ => ⟨by rw [hY7_]; rfl, by rw [hY7_]; rfl⟩, fun q a1 a2 => by rw [hX7_ q a1, es1_, up_cc a1], fun j a1 a2 => by rw [hY7_, if_neg (by omega), if_neg (by omega), es1_, up_k (by omega)], fun j a => by rw [hX7_ (t + 3) (by omega), es1_, up_cc (by omega)]⟩
theorem cl_56_5 {D L t : Nat} {s l : Nat → Int → Int} (hD : 24 ≤ D) (hkt : KT L t t) {kd k pl nm : Int → Int} {tn W0 op0 : Int} (hGC : GTC kd k pl nm tn) {z : rpS} (h : CSt kd pl nm tn t W0 s z op0) (hg : rpG tn z) {G : Int → Int} (hG : CG t s G) (hI : GTb G z.2.2) {i : Int} (hi : i = G 0) (hk9 : k z.1 = 20) (hs9 : soO (k z.1) = 5) {r : rcR} (hr : rcCl k nm z G = r) : ∃ s1, mm_Ev mm_ct mm_CM (D + 1) 56 [.ref 580, .int (iI i)] (MX L t s l) (some (.int (iI (bI (r.1 = 0)))), MX L t s1 l) ∧ (r.1 = 0 → (∃ W1 op1, CSt kd pl nm tn t W1 s1 r.2.1 op1) ∧ CG t s1 r.2.2) ∧ (r.1 ≠ 0 → s1 580 8 = r.1 ∧ s1 580 9 = plA pl tn r.2.1.1) ∧ CCf t z.2.2 s s1 := by
  have hc : (mm_CM 56).2.2.2.2.2.2.2 = mm_cf cd_56 := by rw [cm_56]; rfl
  refine ev_xs ?_
  refine ev_to (mx := 4) (by rw [cm_56]; decide) (by rw [cm_56]; rfl) (by show 2 ≤ _; decide) ?_
  show mm_wp _ _ (0, [some (.ref 580), some (.int (iI i)), none, none], [], MX L t s l) (fun res => ∃ s1, res = (some (.int (iI (bI (r.1 = 0)))), MX L t s1 l) ∧ (r.1 = 0 → (∃ W1 op1, CSt kd pl nm tn t W1 s1 r.2.1 op1) ∧ CG t s1 r.2.2) ∧ (r.1 ≠ 0 → s1 580 8 = r.1 ∧ s1 580 9 = plA pl tn r.2.1.1) ∧ CCf t z.2.2 s s1)
  obtain ⟨hk, hk43, hkr, htn⟩ := id hGC
  obtain ⟨hg0, hg1, hg2, hg3⟩ := id hg
  have ht6 := hkt.1
  have hka := kt_all hkt
  have hkz := hkr z.1
  have hG0 := hG.2.1
  refine wi_a1 hc rfl rfl ?_
  refine wi_a1 hc rfl rfl ?_
  have hk1_ : mm_Ev mm_ct mm_CM (0 + 1) 53 [.ref 580] (MX L t s l) (some (.int (iI (k z.1))), MX L t s l) := by rw [hk]; exact sp_53 (d := 0) (CSt.rR h) (CSt.ra h) ⟨by omega, by omega⟩
  rw [hk9] at hk1_
  refine wp_cv (b := 580) (As := []) (r := [.ref 580]) hc rfl (by rw [cm_53]; rfl) rfl (Nat.le_of_ble_eq_true rfl) (show 580 < 621 by decide) (by rw [cm_53]; rfl) (ev_mono hk1_ (by omega)) ?_
  show mm_wp _ _ (5, [some (.ref 580), some (.int (iI i)), none, none], [.int (iI 20), .ref 580], MX L t s l) _
  refine wi_pf (kz := 6) rfl hc rfl rfl (by decide) (Nat.le_of_ble_eq_true rfl) rfl (Nat.le_of_ble_eq_true rfl) ⟨rfl, rfl⟩ rfl ?_
  obtain ⟨s1_, es1_⟩ : ∃ q, q = up s 580 6 20 := ⟨_, rfl⟩
  rw [← es1_]
  refine wi_a1 hc rfl rfl ?_
  refine wi_gfv (kz := 6) rfl hc rfl rfl (by decide) (Nat.le_of_ble_eq_true rfl) rfl (v := 20) ((congrFun (congrFun es1_ _) _).trans (up_e (by omega))) ?_
  refine wi_ic hc rfl ?_
  refine wi_ceq hc rfl ⟨by decide, by decide⟩ ⟨by decide, by decide⟩ (fun q => absurd q (by decide)) (fun _ => ?_)
  refine wi_a1 hc rfl rfl ?_
  refine wi_gfv (kz := 6) rfl hc rfl rfl (by decide) (Nat.le_of_ble_eq_true rfl) rfl (v := 20) ((congrFun (congrFun es1_ _) _).trans (up_e (by omega))) ?_
  refine wi_bi hc rfl rfl ?_
  refine wi_clt hc rfl ⟨by decide, by decide⟩ ⟨by decide, by decide⟩ (fun q => absurd q (by decide)) (fun _ => ?_)
  refine wi_a1 hc rfl rfl ?_
  refine wi_gfv (kz := 6) rfl hc rfl rfl (by decide) (Nat.le_of_ble_eq_true rfl) rfl (v := 20) ((congrFun (congrFun es1_ _) _).trans (up_e (by omega))) ?_
  refine wi_bi hc rfl rfl ?_
  refine wi_cle hc rfl ⟨by decide, by decide⟩ ⟨by decide, by decide⟩ (fun _ => ?_) (fun q => absurd q (by decide))
  refine wi_a1 hc rfl rfl ?_
  refine wp_cv (b := 580) (As := []) (r := []) hc rfl (by rw [cm_57]; rfl) rfl (Nat.le_of_ble_eq_true rfl) (show 580 < 621 by decide) (by rw [cm_57]; rfl) (ev_mono (tw_57_5 (d := 0) hkt (by rw [es1_, up_at])) (by omega)) ?_
  show mm_wp _ _ (44, [some (.ref 580), some (.int (iI i)), none, none], [.int (iI 0)], MX L t s1_ l) _
  refine wi_zeq hc rfl ⟨by decide, by decide⟩ (fun _ => ?_) (fun q => absurd q (by decide))
  refine wi_i1 hc rfl rfl ?_
  refine wi_bi hc rfl rfl ?_
  refine wi_clt hc rfl ⟨by omega, by omega⟩ ⟨by decide, by decide⟩ (fun h5_ => ?_) (fun h5_ => ?_)
  · have hnx9 : z.1 + 1 < tn := by
      rcases (by omega : z.1 + 1 < tn ∨ tn - 1 ≤ z.1) with g | g
      · exact g
      · exfalso; have := hk43 z.1 g; omega
    refine wi_a1 hc rfl rfl ?_
    refine wi_dupr hc rfl ?_
    refine wi_gfv (kz := 4) rfl hc rfl rfl (by decide) (Nat.le_of_ble_eq_true rfl) rfl (v := z.1) (((congrFun (congrFun es1_ _) _).trans (up_k (by omega))).trans ((by have q := CSt.ra h; exact q : s 580 4 = z.1))) ?_
    refine wi_ic hc rfl ?_
    refine wi_add hc rfl ?_
    refine wi_pf (kz := 4) rfl hc rfl rfl (by decide) (Nat.le_of_ble_eq_true rfl) rfl (Nat.le_of_ble_eq_true rfl) ⟨rfl, rfl⟩ rfl ?_
    obtain ⟨s2_, es2_⟩ : ∃ q, q = up s1_ 580 4 (z.1 + 1) := ⟨_, rfl⟩
    rw [← es2_]
    refine wi_a1 hc rfl rfl ?_
    refine wi_ic hc rfl ?_
    refine wi_pf (kz := 7) rfl hc rfl rfl (by decide) (Nat.le_of_ble_eq_true rfl) rfl (Nat.le_of_ble_eq_true rfl) ⟨rfl, rfl⟩ rfl ?_
    obtain ⟨s3_, es3_⟩ : ∃ q, q = up s2_ 580 7 0 := ⟨_, rfl⟩
    rw [← es3_]
    refine wi_a1 hc rfl rfl ?_
    refine wi_gr (w := t) hc rfl rfl (by decide) (Nat.le_of_ble_eq_true rfl) rfl ?_
    refine wi_grs (w := t + 1) hkt.2.1 hc rfl (by have := hkt.1; omega) (by decide) rfl ?_
    refine wi_i1 hc rfl rfl ?_
    refine wi_a1 hc rfl rfl ?_
    refine wi_gfv (kz := 6) rfl hc rfl rfl (by decide) (Nat.le_of_ble_eq_true rfl) rfl (v := 20) (((congrFun (congrFun es3_ _) _).trans (up_k (by omega))).trans (((congrFun (congrFun es2_ _) _).trans (up_k (by omega))).trans ((congrFun (congrFun es1_ _) _).trans (up_e (by omega))))) ?_
    refine wi_ist (N := 24) hc rfl hkt.2.2.1 (by have := hkt.1; omega) (by decide) (by omega) (by omega) ?_
    obtain ⟨s4_, es4_⟩ : ∃ q, q = up s3_ (t + 1) i 20 := ⟨_, rfl⟩
    rw [← es4_]
    refine wi_a1 hc rfl rfl ?_
    refine wi_gr (w := t) hc rfl rfl (by decide) (Nat.le_of_ble_eq_true rfl) rfl ?_
    refine wi_i1 hc rfl rfl ?_
    refine wi_ic hc rfl ?_
    refine wi_add hc rfl ?_
    refine wi_pfs (kz := 5) rfl hkt.2.1 hc rfl (by have := hkt.1; omega) (by decide) rfl (Nat.le_of_ble_eq_true rfl) ⟨rfl, rfl⟩ rfl ?_
    obtain ⟨s5_, es5_⟩ : ∃ q, q = up s4_ t 5 (i + 1) := ⟨_, rfl⟩
    rw [← es5_]
    refine wi_a1 hc rfl rfl ?_
    refine wi_gr (w := t) hc rfl rfl (by decide) (Nat.le_of_ble_eq_true rfl) rfl ?_
    refine wi_gfs (kz := 6) rfl hkt.2.1 hc rfl (by have := hkt.1; omega) (by decide) rfl (v := z.2.2) (((congrFun (congrFun es5_ _) _).trans (up_k (by omega))).trans (((congrFun (congrFun es4_ _) _).trans (up_c (by omega))).trans (((congrFun (congrFun es3_ _) _).trans (up_c (by omega))).trans (((congrFun (congrFun es2_ _) _).trans (up_c (by omega))).trans (((congrFun (congrFun es1_ _) _).trans (up_c (by omega))).trans ((by have q := CSt.rc h; exact q : s t 6 = z.2.2))))))) ?_
    refine wi_is1 (L' := [some (.ref 580), some (.int (iI i)), some (.int (iI z.2.2)), none]) hc rfl (Nat.le_of_ble_eq_true rfl) rfl ?_
    refine wi_a1 hc rfl rfl ?_
    refine wi_i1 hc rfl rfl ?_
    obtain ⟨hMb, hAb, hTb, hB4, hB5⟩ := CSt.beg (c := z.2.2) h hkt es1_ es2_ es3_ es4_ es5_
    have hCH : CH t s5_ G := by
      have q := hG.ch hI
      unfold CH at q ⊢
      rw [hB4, hB5]
      exact q
    obtain ⟨f1, y1, hy1⟩ : ∃ f y, rcNum k nm G 5 (rpNx z) = (f, y) := ⟨_, _, rfl⟩
    obtain ⟨sn, hEn, ⟨hC1, hC2, hC3⟩, hN⟩ := nb_59_5 (d := 0) (L := L) (l := l) hkt hGC hMb ⟨by show 0 ≤ z.1 + 1; omega, by show z.1 + 1 + 1 ≤ tn; omega⟩ hCH (i := i) ⟨by omega, by omega⟩ hy1
    refine wp_cv (b := 580) (As := [.int (iI i)]) (r := []) hc rfl (by rw [cm_59]; rfl) rfl (Nat.le_of_ble_eq_true rfl) (show 580 < 621 by decide) (by rw [cm_59]; rfl) (ev_mono hEn (by omega)) ?_
    have hAn := hAb.cng hkt hC3
    have hDn : f1 = 0 → ND nm t i 5 (rpNx z) s sn := fun e0 => ⟨fun _ => (hN e0).1, fun _ => (hN e0).2.1, fun e => absurd e (by decide), (by rw [if_neg (by decide)]; exact (hN e0).2.2.trans (hTb 7 (by decide)))⟩
    show mm_wp _ _ (117, [some (.ref 580), some (.int (iI i)), some (.int (iI z.2.2)), none], [.int (iI (bI (f1 = 0)))], MX L t sn l) _
    refine wi_bne hc rfl (fun h6_ => ?_) (fun h6_ => ?_)
    · subst h6_
      have hMn : CSt kd pl nm tn t 20 sn y1 0 := hC1 rfl
      have hDn := hDn rfl
      obtain ⟨hK1, hK2, hK3, hK4⟩ := rcNum_K hk43 (by decide) (by show z.1 + 1 ≤ tn - 1; omega) hy1
      have hK1 : z.1 + 1 ≤ y1.1 := hK1
      have hK5 : y1.2.2 = z.2.2 := by rw [hK3]; rfl
      refine wi_a1 hc rfl rfl ?_
      refine wi_i1 hc rfl rfl ?_
      refine wp_cv (b := 580) (As := [.int (iI i)]) (r := []) hc rfl (by rw [cm_58]; rfl) rfl (Nat.le_of_ble_eq_true rfl) (show 580 < 621 by decide) (by rw [cm_58]; rfl) (ev_mono (sl_58_5 (d := 0) hkt (CSt.rw9 hMn) (i := i)) (by omega)) ?_
      show mm_wp _ _ (127, [some (.ref 580), some (.int (iI i)), some (.int (iI z.2.2)), none], [.int (iI (-1))], MX L t sn l) _
      refine wi_is1 (L' := [some (.ref 580), some (.int (iI i)), some (.int (iI z.2.2)), some (.int (iI (-1)))]) hc rfl (Nat.le_of_ble_eq_true rfl) rfl ?_
      refine wi_i1 hc rfl rfl ?_
      refine wi_ic hc rfl ?_
      refine wi_ceq hc rfl ⟨by decide, by decide⟩ ⟨by decide, by decide⟩ (fun _ => ?_) (fun q => absurd q (by decide))
      refine wi_a1 hc rfl rfl ?_
      refine wi_bi hc rfl rfl ?_
      obtain ⟨f4, y4, hy4⟩ : ∃ f y, rcWd k 39 y1 = (f, y) := ⟨_, _, rfl⟩
      obtain ⟨se, hEe, hCe⟩ := sk_55 (d := 0) (L := L) (l := l) hkt hGC hMn ⟨by omega, by omega⟩ (q := 39) ⟨by decide, by decide⟩ (3 * i + 3) hy4
      refine wp_cv (b := 580) (As := [.int (iI 39)]) (r := []) hc rfl (by rw [cm_55]; rfl) rfl (Nat.le_of_ble_eq_true rfl) (show 580 < 621 by decide) (by rw [cm_55]; rfl) (ev_mono hEe (by omega)) ?_
      have hAe := hAn.cnf hkt hCe.2.2 (by omega)
      have hDe := hDn.cnf hkt hCe.2.2
      show mm_wp _ _ (190, [some (.ref 580), some (.int (iI i)), some (.int (iI z.2.2)), some (.int (iI (-1)))], [.int (iI (bI (f4 = 0)))], MX L t se l) _
      refine wi_rb hc rfl (by rw [cm_56]; rfl) ?_
      have hR9 : rpB (rpB (rcNum k nm G 5 (rpNx z)) (rcMore k nm 5)) (rcWd k 39) = (f4, y4) := by
        rw [hy1, rpB_z, rcMore_n (by decide), rpB_z]
        exact hy4
      have hr9 := rcCl_go hs9 (by decide) (fun e => absurd e.1 (by decide)) (by omega) hR9
      rw [hr] at hr9
      subst hr9
      refine ⟨se, rfl, fun e => ?_, hCe.2.1, hAe.f⟩
      have e : f4 = 0 := e
      subst e
      obtain rfl : y4 = rpNx y1 := (rcWd_K hk43 (by decide) hy4).2
      subst hi
      refine ⟨⟨_, _, hCe.1 rfl⟩, ?_⟩
      refine CG.add hG (so := 5) (z := rpNx z) (y := rpNx y1) ⟨by decide, by decide⟩ (by omega) (fun e => absurd e (by decide)) ⟨fun e => absurd e (by decide), fun e => absurd e (by decide)⟩ hAe.2.2.1 (fun q q0 q1 => hAe.2.2.2.1 q q1) (hAe.2.2.2.2.1.trans (by decide : (20 : Int) = wdS 5)) hAe.2.2.2.2.2.1 hDe.1 hDe.2.1 hDe.2.2.1 ?_ hDe.2.2.2
      intro j j0 j1
      have q := hAe.fb (C := fun j => (5 : Int) ≤ 2 ∧ j = slt 5 (nm (rpNx z).1)) (fun j j0 => ⟨fun e => absurd e.1 (by decide), fun e => by omega⟩) j j0 j1
      rw [if_neg (fun e => absurd e.1 (by decide)), if_neg (fun e => absurd e.1 (by decide))] at q ⊢
      exact q
    · skip
      refine wi_ic hc rfl ?_
      refine wi_r0 hc rfl (by rw [cm_56]; rfl) ?_
      have hR9 : rpB (rpB (rcNum k nm G 5 (rpNx z)) (rcMore k nm 5)) (rcWd k 39) = (f1, y1) := by
        rw [hy1, rpB_n (r := (f1, y1)) h6_, rpB_n (r := (f1, y1)) h6_]
      have hr9 := rcCl_go hs9 (by decide) (fun e => absurd e.1 (by decide)) (by omega) hR9
      rw [hr] at hr9
      subst hr9
      exact ⟨sn, by have q := bI_f (p := f1 = 0) h6_; exact congrArg (fun v => (some (Value.int (iI v)), MX L t sn l)) q.symm, fun e => absurd e h6_, fun _ => hC2 h6_, hAn.f⟩
  · refine wi_a1 hc rfl rfl ?_
    refine wi_bi hc rfl rfl ?_
    have hM7_ := h.sw6 hkt es1_
    obtain ⟨s7_, hE7_, hX7_, hY7_⟩ := sp_54 (d := 0) (L := L) (t := t) (l := l) (CSt.rR hM7_) (CSt.ra hM7_) ⟨by omega, by omega⟩ (n := 6) ⟨by decide, by decide⟩
    refine wp_cv (b := 580) (As := [.int (iI 6)]) (r := []) hc rfl (by rw [cm_54]; rfl) rfl (Nat.le_of_ble_eq_true rfl) (show 580 < 621 by decide) (by rw [cm_54]; rfl) (ev_mono hE7_ (by omega)) ?_
    show mm_wp _ _ (65, [some (.ref 580), some (.int (iI i)), none, none], [.int (iI 0)], MX L t s7_ l) _
    refine wi_r0 hc rfl (by rw [cm_56]; rfl) ?_
    have hr9 : r = (6, z, G) := by rw [← hr, rcCl_6 hs9 (by decide) (fun e => absurd e.1 (by decide)) (by omega)]
    subst hr9
    exact ⟨s7_, by rw [bI_f (p := ((6, z, G) : rcR).1 = 0) (by show ¬ (6 : Int) = 0; decide)], fun e => absurd (show (6 : Int) = 0 from e) (by decide), fun _ => ⟨by rw [hY7_]; rfl, by rw [hY7_]; rfl⟩, fun q a1 a2 => by rw [hX7_ q a1, es1_, up_cc a1], fun j a1 a2 => by rw [hY7_, if_neg (by omega), if_neg (by omega), es1_, up_k (by omega)], fun j a => by rw [hX7_ (t + 3) (by omega), es1_, up_cc (by omega)]⟩
theorem cl_56_6 {D L t : Nat} {s l : Nat → Int → Int} (hD : 24 ≤ D) (hkt : KT L t t) {kd k pl nm : Int → Int} {tn W0 op0 : Int} (hGC : GTC kd k pl nm tn) {z : rpS} (h : CSt kd pl nm tn t W0 s z op0) (hg : rpG tn z) {G : Int → Int} (hG : CG t s G) (hI : GTb G z.2.2) {i : Int} (hi : i = G 0) (hk9 : k z.1 = 21) (hs9 : soO (k z.1) = 6) {r : rcR} (hr : rcCl k nm z G = r) : ∃ s1, mm_Ev mm_ct mm_CM (D + 1) 56 [.ref 580, .int (iI i)] (MX L t s l) (some (.int (iI (bI (r.1 = 0)))), MX L t s1 l) ∧ (r.1 = 0 → (∃ W1 op1, CSt kd pl nm tn t W1 s1 r.2.1 op1) ∧ CG t s1 r.2.2) ∧ (r.1 ≠ 0 → s1 580 8 = r.1 ∧ s1 580 9 = plA pl tn r.2.1.1) ∧ CCf t z.2.2 s s1 := by
  have hc : (mm_CM 56).2.2.2.2.2.2.2 = mm_cf cd_56 := by rw [cm_56]; rfl
  refine ev_xs ?_
  refine ev_to (mx := 4) (by rw [cm_56]; decide) (by rw [cm_56]; rfl) (by show 2 ≤ _; decide) ?_
  show mm_wp _ _ (0, [some (.ref 580), some (.int (iI i)), none, none], [], MX L t s l) (fun res => ∃ s1, res = (some (.int (iI (bI (r.1 = 0)))), MX L t s1 l) ∧ (r.1 = 0 → (∃ W1 op1, CSt kd pl nm tn t W1 s1 r.2.1 op1) ∧ CG t s1 r.2.2) ∧ (r.1 ≠ 0 → s1 580 8 = r.1 ∧ s1 580 9 = plA pl tn r.2.1.1) ∧ CCf t z.2.2 s s1)
  obtain ⟨hk, hk43, hkr, htn⟩ := id hGC
  obtain ⟨hg0, hg1, hg2, hg3⟩ := id hg
  have ht6 := hkt.1
  have hka := kt_all hkt
  have hkz := hkr z.1
  have hG0 := hG.2.1
  refine wi_a1 hc rfl rfl ?_
  refine wi_a1 hc rfl rfl ?_
  have hk1_ : mm_Ev mm_ct mm_CM (0 + 1) 53 [.ref 580] (MX L t s l) (some (.int (iI (k z.1))), MX L t s l) := by rw [hk]; exact sp_53 (d := 0) (CSt.rR h) (CSt.ra h) ⟨by omega, by omega⟩
  rw [hk9] at hk1_
  refine wp_cv (b := 580) (As := []) (r := [.ref 580]) hc rfl (by rw [cm_53]; rfl) rfl (Nat.le_of_ble_eq_true rfl) (show 580 < 621 by decide) (by rw [cm_53]; rfl) (ev_mono hk1_ (by omega)) ?_
  show mm_wp _ _ (5, [some (.ref 580), some (.int (iI i)), none, none], [.int (iI 21), .ref 580], MX L t s l) _
  refine wi_pf (kz := 6) rfl hc rfl rfl (by decide) (Nat.le_of_ble_eq_true rfl) rfl (Nat.le_of_ble_eq_true rfl) ⟨rfl, rfl⟩ rfl ?_
  obtain ⟨s1_, es1_⟩ : ∃ q, q = up s 580 6 21 := ⟨_, rfl⟩
  rw [← es1_]
  refine wi_a1 hc rfl rfl ?_
  refine wi_gfv (kz := 6) rfl hc rfl rfl (by decide) (Nat.le_of_ble_eq_true rfl) rfl (v := 21) ((congrFun (congrFun es1_ _) _).trans (up_e (by omega))) ?_
  refine wi_ic hc rfl ?_
  refine wi_ceq hc rfl ⟨by decide, by decide⟩ ⟨by decide, by decide⟩ (fun q => absurd q (by decide)) (fun _ => ?_)
  refine wi_a1 hc rfl rfl ?_
  refine wi_gfv (kz := 6) rfl hc rfl rfl (by decide) (Nat.le_of_ble_eq_true rfl) rfl (v := 21) ((congrFun (congrFun es1_ _) _).trans (up_e (by omega))) ?_
  refine wi_bi hc rfl rfl ?_
  refine wi_clt hc rfl ⟨by decide, by decide⟩ ⟨by decide, by decide⟩ (fun q => absurd q (by decide)) (fun _ => ?_)
  refine wi_a1 hc rfl rfl ?_
  refine wi_gfv (kz := 6) rfl hc rfl rfl (by decide) (Nat.le_of_ble_eq_true rfl) rfl (v := 21) ((congrFun (congrFun es1_ _) _).trans (up_e (by omega))) ?_
  refine wi_bi hc rfl rfl ?_
  refine wi_cle hc rfl ⟨by decide, by decide⟩ ⟨by decide, by decide⟩ (fun _ => ?_) (fun q => absurd q (by decide))
  refine wi_a1 hc rfl rfl ?_
  refine wp_cv (b := 580) (As := []) (r := []) hc rfl (by rw [cm_57]; rfl) rfl (Nat.le_of_ble_eq_true rfl) (show 580 < 621 by decide) (by rw [cm_57]; rfl) (ev_mono (tw_57_6 (d := 0) hkt (by rw [es1_, up_at])) (by omega)) ?_
  show mm_wp _ _ (44, [some (.ref 580), some (.int (iI i)), none, none], [.int (iI 0)], MX L t s1_ l) _
  refine wi_zeq hc rfl ⟨by decide, by decide⟩ (fun _ => ?_) (fun q => absurd q (by decide))
  refine wi_i1 hc rfl rfl ?_
  refine wi_bi hc rfl rfl ?_
  refine wi_clt hc rfl ⟨by omega, by omega⟩ ⟨by decide, by decide⟩ (fun h5_ => ?_) (fun h5_ => ?_)
  · have hnx9 : z.1 + 1 < tn := by
      rcases (by omega : z.1 + 1 < tn ∨ tn - 1 ≤ z.1) with g | g
      · exact g
      · exfalso; have := hk43 z.1 g; omega
    refine wi_a1 hc rfl rfl ?_
    refine wi_dupr hc rfl ?_
    refine wi_gfv (kz := 4) rfl hc rfl rfl (by decide) (Nat.le_of_ble_eq_true rfl) rfl (v := z.1) (((congrFun (congrFun es1_ _) _).trans (up_k (by omega))).trans ((by have q := CSt.ra h; exact q : s 580 4 = z.1))) ?_
    refine wi_ic hc rfl ?_
    refine wi_add hc rfl ?_
    refine wi_pf (kz := 4) rfl hc rfl rfl (by decide) (Nat.le_of_ble_eq_true rfl) rfl (Nat.le_of_ble_eq_true rfl) ⟨rfl, rfl⟩ rfl ?_
    obtain ⟨s2_, es2_⟩ : ∃ q, q = up s1_ 580 4 (z.1 + 1) := ⟨_, rfl⟩
    rw [← es2_]
    refine wi_a1 hc rfl rfl ?_
    refine wi_ic hc rfl ?_
    refine wi_pf (kz := 7) rfl hc rfl rfl (by decide) (Nat.le_of_ble_eq_true rfl) rfl (Nat.le_of_ble_eq_true rfl) ⟨rfl, rfl⟩ rfl ?_
    obtain ⟨s3_, es3_⟩ : ∃ q, q = up s2_ 580 7 0 := ⟨_, rfl⟩
    rw [← es3_]
    refine wi_a1 hc rfl rfl ?_
    refine wi_gr (w := t) hc rfl rfl (by decide) (Nat.le_of_ble_eq_true rfl) rfl ?_
    refine wi_grs (w := t + 1) hkt.2.1 hc rfl (by have := hkt.1; omega) (by decide) rfl ?_
    refine wi_i1 hc rfl rfl ?_
    refine wi_a1 hc rfl rfl ?_
    refine wi_gfv (kz := 6) rfl hc rfl rfl (by decide) (Nat.le_of_ble_eq_true rfl) rfl (v := 21) (((congrFun (congrFun es3_ _) _).trans (up_k (by omega))).trans (((congrFun (congrFun es2_ _) _).trans (up_k (by omega))).trans ((congrFun (congrFun es1_ _) _).trans (up_e (by omega))))) ?_
    refine wi_ist (N := 24) hc rfl hkt.2.2.1 (by have := hkt.1; omega) (by decide) (by omega) (by omega) ?_
    obtain ⟨s4_, es4_⟩ : ∃ q, q = up s3_ (t + 1) i 21 := ⟨_, rfl⟩
    rw [← es4_]
    refine wi_a1 hc rfl rfl ?_
    refine wi_gr (w := t) hc rfl rfl (by decide) (Nat.le_of_ble_eq_true rfl) rfl ?_
    refine wi_i1 hc rfl rfl ?_
    refine wi_ic hc rfl ?_
    refine wi_add hc rfl ?_
    refine wi_pfs (kz := 5) rfl hkt.2.1 hc rfl (by have := hkt.1; omega) (by decide) rfl (Nat.le_of_ble_eq_true rfl) ⟨rfl, rfl⟩ rfl ?_
    obtain ⟨s5_, es5_⟩ : ∃ q, q = up s4_ t 5 (i + 1) := ⟨_, rfl⟩
    rw [← es5_]
    refine wi_a1 hc rfl rfl ?_
    refine wi_gr (w := t) hc rfl rfl (by decide) (Nat.le_of_ble_eq_true rfl) rfl ?_
    refine wi_gfs (kz := 6) rfl hkt.2.1 hc rfl (by have := hkt.1; omega) (by decide) rfl (v := z.2.2) (((congrFun (congrFun es5_ _) _).trans (up_k (by omega))).trans (((congrFun (congrFun es4_ _) _).trans (up_c (by omega))).trans (((congrFun (congrFun es3_ _) _).trans (up_c (by omega))).trans (((congrFun (congrFun es2_ _) _).trans (up_c (by omega))).trans (((congrFun (congrFun es1_ _) _).trans (up_c (by omega))).trans ((by have q := CSt.rc h; exact q : s t 6 = z.2.2))))))) ?_
    refine wi_is1 (L' := [some (.ref 580), some (.int (iI i)), some (.int (iI z.2.2)), none]) hc rfl (Nat.le_of_ble_eq_true rfl) rfl ?_
    refine wi_a1 hc rfl rfl ?_
    refine wi_i1 hc rfl rfl ?_
    obtain ⟨hMb, hAb, hTb, hB4, hB5⟩ := CSt.beg (c := z.2.2) h hkt es1_ es2_ es3_ es4_ es5_
    have hCH : CH t s5_ G := by
      have q := hG.ch hI
      unfold CH at q ⊢
      rw [hB4, hB5]
      exact q
    obtain ⟨f1, y1, hy1⟩ : ∃ f y, rcNum k nm G 6 (rpNx z) = (f, y) := ⟨_, _, rfl⟩
    obtain ⟨sn, hEn, ⟨hC1, hC2, hC3⟩, hN⟩ := nb_59_6 (d := 0) (L := L) (l := l) hkt hGC hMb ⟨by show 0 ≤ z.1 + 1; omega, by show z.1 + 1 + 1 ≤ tn; omega⟩ hCH (i := i) ⟨by omega, by omega⟩ hy1
    refine wp_cv (b := 580) (As := [.int (iI i)]) (r := []) hc rfl (by rw [cm_59]; rfl) rfl (Nat.le_of_ble_eq_true rfl) (show 580 < 621 by decide) (by rw [cm_59]; rfl) (ev_mono hEn (by omega)) ?_
    have hAn := hAb.cng hkt hC3
    have hDn : f1 = 0 → ND nm t i 6 (rpNx z) s sn := fun e0 => ⟨fun _ => (hN e0).1, fun e => absurd e (by decide), fun e => absurd e (by decide), (by rw [if_neg (by decide)]; exact (hN e0).2.trans (hTb 7 (by decide)))⟩
    show mm_wp _ _ (117, [some (.ref 580), some (.int (iI i)), some (.int (iI z.2.2)), none], [.int (iI (bI (f1 = 0)))], MX L t sn l) _
    refine wi_bne hc rfl (fun h6_ => ?_) (fun h6_ => ?_)
    · subst h6_
      have hMn : CSt kd pl nm tn t 21 sn y1 0 := hC1 rfl
      have hDn := hDn rfl
      obtain ⟨hK1, hK2, hK3, hK4⟩ := rcNum_K hk43 (by decide) (by show z.1 + 1 ≤ tn - 1; omega) hy1
      have hK1 : z.1 + 1 ≤ y1.1 := hK1
      have hK5 : y1.2.2 = z.2.2 := by rw [hK3]; rfl
      refine wi_a1 hc rfl rfl ?_
      refine wi_i1 hc rfl rfl ?_
      refine wp_cv (b := 580) (As := [.int (iI i)]) (r := []) hc rfl (by rw [cm_58]; rfl) rfl (Nat.le_of_ble_eq_true rfl) (show 580 < 621 by decide) (by rw [cm_58]; rfl) (ev_mono (sl_58_6 (d := 0) hkt (CSt.rw9 hMn) (i := i)) (by omega)) ?_
      show mm_wp _ _ (127, [some (.ref 580), some (.int (iI i)), some (.int (iI z.2.2)), none], [.int (iI (-1))], MX L t sn l) _
      refine wi_is1 (L' := [some (.ref 580), some (.int (iI i)), some (.int (iI z.2.2)), some (.int (iI (-1)))]) hc rfl (Nat.le_of_ble_eq_true rfl) rfl ?_
      refine wi_i1 hc rfl rfl ?_
      refine wi_ic hc rfl ?_
      refine wi_ceq hc rfl ⟨by decide, by decide⟩ ⟨by decide, by decide⟩ (fun _ => ?_) (fun q => absurd q (by decide))
      refine wi_a1 hc rfl rfl ?_
      refine wi_bi hc rfl rfl ?_
      obtain ⟨f4, y4, hy4⟩ : ∃ f y, rcWd k 39 y1 = (f, y) := ⟨_, _, rfl⟩
      obtain ⟨se, hEe, hCe⟩ := sk_55 (d := 0) (L := L) (l := l) hkt hGC hMn ⟨by omega, by omega⟩ (q := 39) ⟨by decide, by decide⟩ (3 * i + 3) hy4
      refine wp_cv (b := 580) (As := [.int (iI 39)]) (r := []) hc rfl (by rw [cm_55]; rfl) rfl (Nat.le_of_ble_eq_true rfl) (show 580 < 621 by decide) (by rw [cm_55]; rfl) (ev_mono hEe (by omega)) ?_
      have hAe := hAn.cnf hkt hCe.2.2 (by omega)
      have hDe := hDn.cnf hkt hCe.2.2
      show mm_wp _ _ (190, [some (.ref 580), some (.int (iI i)), some (.int (iI z.2.2)), some (.int (iI (-1)))], [.int (iI (bI (f4 = 0)))], MX L t se l) _
      refine wi_rb hc rfl (by rw [cm_56]; rfl) ?_
      have hR9 : rpB (rpB (rcNum k nm G 6 (rpNx z)) (rcMore k nm 6)) (rcWd k 39) = (f4, y4) := by
        rw [hy1, rpB_z, rcMore_n (by decide), rpB_z]
        exact hy4
      have hr9 := rcCl_go hs9 (by decide) (fun e => absurd e.1 (by decide)) (by omega) hR9
      rw [hr] at hr9
      subst hr9
      refine ⟨se, rfl, fun e => ?_, hCe.2.1, hAe.f⟩
      have e : f4 = 0 := e
      subst e
      obtain rfl : y4 = rpNx y1 := (rcWd_K hk43 (by decide) hy4).2
      subst hi
      refine ⟨⟨_, _, hCe.1 rfl⟩, ?_⟩
      refine CG.add hG (so := 6) (z := rpNx z) (y := rpNx y1) ⟨by decide, by decide⟩ (by omega) (fun e => absurd e (by decide)) ⟨fun e => absurd e (by decide), fun e => absurd e (by decide)⟩ hAe.2.2.1 (fun q q0 q1 => hAe.2.2.2.1 q q1) (hAe.2.2.2.2.1.trans (by decide : (21 : Int) = wdS 6)) hAe.2.2.2.2.2.1 hDe.1 hDe.2.1 hDe.2.2.1 ?_ hDe.2.2.2
      intro j j0 j1
      have q := hAe.fb (C := fun j => (6 : Int) ≤ 2 ∧ j = slt 6 (nm (rpNx z).1)) (fun j j0 => ⟨fun e => absurd e.1 (by decide), fun e => by omega⟩) j j0 j1
      rw [if_neg (fun e => absurd e.1 (by decide)), if_neg (fun e => absurd e.1 (by decide))] at q ⊢
      exact q
    · skip
      refine wi_ic hc rfl ?_
      refine wi_r0 hc rfl (by rw [cm_56]; rfl) ?_
      have hR9 : rpB (rpB (rcNum k nm G 6 (rpNx z)) (rcMore k nm 6)) (rcWd k 39) = (f1, y1) := by
        rw [hy1, rpB_n (r := (f1, y1)) h6_, rpB_n (r := (f1, y1)) h6_]
      have hr9 := rcCl_go hs9 (by decide) (fun e => absurd e.1 (by decide)) (by omega) hR9
      rw [hr] at hr9
      subst hr9
      exact ⟨sn, by have q := bI_f (p := f1 = 0) h6_; exact congrArg (fun v => (some (Value.int (iI v)), MX L t sn l)) q.symm, fun e => absurd e h6_, fun _ => hC2 h6_, hAn.f⟩
  · refine wi_a1 hc rfl rfl ?_
    refine wi_bi hc rfl rfl ?_
    have hM7_ := h.sw6 hkt es1_
    obtain ⟨s7_, hE7_, hX7_, hY7_⟩ := sp_54 (d := 0) (L := L) (t := t) (l := l) (CSt.rR hM7_) (CSt.ra hM7_) ⟨by omega, by omega⟩ (n := 6) ⟨by decide, by decide⟩
    refine wp_cv (b := 580) (As := [.int (iI 6)]) (r := []) hc rfl (by rw [cm_54]; rfl) rfl (Nat.le_of_ble_eq_true rfl) (show 580 < 621 by decide) (by rw [cm_54]; rfl) (ev_mono hE7_ (by omega)) ?_
    show mm_wp _ _ (65, [some (.ref 580), some (.int (iI i)), none, none], [.int (iI 0)], MX L t s7_ l) _
    refine wi_r0 hc rfl (by rw [cm_56]; rfl) ?_
    have hr9 : r = (6, z, G) := by rw [← hr, rcCl_6 hs9 (by decide) (fun e => absurd e.1 (by decide)) (by omega)]
    subst hr9
    exact ⟨s7_, by rw [bI_f (p := ((6, z, G) : rcR).1 = 0) (by show ¬ (6 : Int) = 0; decide)], fun e => absurd (show (6 : Int) = 0 from e) (by decide), fun _ => ⟨by rw [hY7_]; rfl, by rw [hY7_]; rfl⟩, fun q a1 a2 => by rw [hX7_ q a1, es1_, up_cc a1], fun j a1 a2 => by rw [hY7_, if_neg (by omega), if_neg (by omega), es1_, up_k (by omega)], fun j a => by rw [hX7_ (t + 3) (by omega), es1_, up_cc (by omega)]⟩
theorem cl_56_7 {D L t : Nat} {s l : Nat → Int → Int} (hD : 24 ≤ D) (hkt : KT L t t) {kd k pl nm : Int → Int} {tn W0 op0 : Int} (hGC : GTC kd k pl nm tn) {z : rpS} (h : CSt kd pl nm tn t W0 s z op0) (hg : rpG tn z) {G : Int → Int} (hG : CG t s G) (hI : GTb G z.2.2) {i : Int} (hi : i = G 0) (hk9 : k z.1 = 22) (hs9 : soO (k z.1) = 7) {r : rcR} (hr : rcCl k nm z G = r) : ∃ s1, mm_Ev mm_ct mm_CM (D + 1) 56 [.ref 580, .int (iI i)] (MX L t s l) (some (.int (iI (bI (r.1 = 0)))), MX L t s1 l) ∧ (r.1 = 0 → (∃ W1 op1, CSt kd pl nm tn t W1 s1 r.2.1 op1) ∧ CG t s1 r.2.2) ∧ (r.1 ≠ 0 → s1 580 8 = r.1 ∧ s1 580 9 = plA pl tn r.2.1.1) ∧ CCf t z.2.2 s s1 := by
  have hc : (mm_CM 56).2.2.2.2.2.2.2 = mm_cf cd_56 := by rw [cm_56]; rfl
  refine ev_xs ?_
  refine ev_to (mx := 4) (by rw [cm_56]; decide) (by rw [cm_56]; rfl) (by show 2 ≤ _; decide) ?_
  show mm_wp _ _ (0, [some (.ref 580), some (.int (iI i)), none, none], [], MX L t s l) (fun res => ∃ s1, res = (some (.int (iI (bI (r.1 = 0)))), MX L t s1 l) ∧ (r.1 = 0 → (∃ W1 op1, CSt kd pl nm tn t W1 s1 r.2.1 op1) ∧ CG t s1 r.2.2) ∧ (r.1 ≠ 0 → s1 580 8 = r.1 ∧ s1 580 9 = plA pl tn r.2.1.1) ∧ CCf t z.2.2 s s1)
  obtain ⟨hk, hk43, hkr, htn⟩ := id hGC
  obtain ⟨hg0, hg1, hg2, hg3⟩ := id hg
  have ht6 := hkt.1
  have hka := kt_all hkt
  have hkz := hkr z.1
  have hG0 := hG.2.1
  refine wi_a1 hc rfl rfl ?_
  refine wi_a1 hc rfl rfl ?_
  have hk1_ : mm_Ev mm_ct mm_CM (0 + 1) 53 [.ref 580] (MX L t s l) (some (.int (iI (k z.1))), MX L t s l) := by rw [hk]; exact sp_53 (d := 0) (CSt.rR h) (CSt.ra h) ⟨by omega, by omega⟩
  rw [hk9] at hk1_
  refine wp_cv (b := 580) (As := []) (r := [.ref 580]) hc rfl (by rw [cm_53]; rfl) rfl (Nat.le_of_ble_eq_true rfl) (show 580 < 621 by decide) (by rw [cm_53]; rfl) (ev_mono hk1_ (by omega)) ?_
  show mm_wp _ _ (5, [some (.ref 580), some (.int (iI i)), none, none], [.int (iI 22), .ref 580], MX L t s l) _
  refine wi_pf (kz := 6) rfl hc rfl rfl (by decide) (Nat.le_of_ble_eq_true rfl) rfl (Nat.le_of_ble_eq_true rfl) ⟨rfl, rfl⟩ rfl ?_
  obtain ⟨s1_, es1_⟩ : ∃ q, q = up s 580 6 22 := ⟨_, rfl⟩
  rw [← es1_]
  refine wi_a1 hc rfl rfl ?_
  refine wi_gfv (kz := 6) rfl hc rfl rfl (by decide) (Nat.le_of_ble_eq_true rfl) rfl (v := 22) ((congrFun (congrFun es1_ _) _).trans (up_e (by omega))) ?_
  refine wi_ic hc rfl ?_
  refine wi_ceq hc rfl ⟨by decide, by decide⟩ ⟨by decide, by decide⟩ (fun q => absurd q (by decide)) (fun _ => ?_)
  refine wi_a1 hc rfl rfl ?_
  refine wi_gfv (kz := 6) rfl hc rfl rfl (by decide) (Nat.le_of_ble_eq_true rfl) rfl (v := 22) ((congrFun (congrFun es1_ _) _).trans (up_e (by omega))) ?_
  refine wi_bi hc rfl rfl ?_
  refine wi_clt hc rfl ⟨by decide, by decide⟩ ⟨by decide, by decide⟩ (fun q => absurd q (by decide)) (fun _ => ?_)
  refine wi_a1 hc rfl rfl ?_
  refine wi_gfv (kz := 6) rfl hc rfl rfl (by decide) (Nat.le_of_ble_eq_true rfl) rfl (v := 22) ((congrFun (congrFun es1_ _) _).trans (up_e (by omega))) ?_
  refine wi_bi hc rfl rfl ?_
  refine wi_cle hc rfl ⟨by decide, by decide⟩ ⟨by decide, by decide⟩ (fun _ => ?_) (fun q => absurd q (by decide))
  refine wi_a1 hc rfl rfl ?_
  refine wp_cv (b := 580) (As := []) (r := []) hc rfl (by rw [cm_57]; rfl) rfl (Nat.le_of_ble_eq_true rfl) (show 580 < 621 by decide) (by rw [cm_57]; rfl) (ev_mono (tw_57_7 (d := 0) hkt (by rw [es1_, up_at])) (by omega)) ?_
  show mm_wp _ _ (44, [some (.ref 580), some (.int (iI i)), none, none], [.int (iI 0)], MX L t s1_ l) _
  refine wi_zeq hc rfl ⟨by decide, by decide⟩ (fun _ => ?_) (fun q => absurd q (by decide))
  refine wi_i1 hc rfl rfl ?_
  refine wi_bi hc rfl rfl ?_
  refine wi_clt hc rfl ⟨by omega, by omega⟩ ⟨by decide, by decide⟩ (fun h5_ => ?_) (fun h5_ => ?_)
  · have hnx9 : z.1 + 1 < tn := by
      rcases (by omega : z.1 + 1 < tn ∨ tn - 1 ≤ z.1) with g | g
      · exact g
      · exfalso; have := hk43 z.1 g; omega
    refine wi_a1 hc rfl rfl ?_
    refine wi_dupr hc rfl ?_
    refine wi_gfv (kz := 4) rfl hc rfl rfl (by decide) (Nat.le_of_ble_eq_true rfl) rfl (v := z.1) (((congrFun (congrFun es1_ _) _).trans (up_k (by omega))).trans ((by have q := CSt.ra h; exact q : s 580 4 = z.1))) ?_
    refine wi_ic hc rfl ?_
    refine wi_add hc rfl ?_
    refine wi_pf (kz := 4) rfl hc rfl rfl (by decide) (Nat.le_of_ble_eq_true rfl) rfl (Nat.le_of_ble_eq_true rfl) ⟨rfl, rfl⟩ rfl ?_
    obtain ⟨s2_, es2_⟩ : ∃ q, q = up s1_ 580 4 (z.1 + 1) := ⟨_, rfl⟩
    rw [← es2_]
    refine wi_a1 hc rfl rfl ?_
    refine wi_ic hc rfl ?_
    refine wi_pf (kz := 7) rfl hc rfl rfl (by decide) (Nat.le_of_ble_eq_true rfl) rfl (Nat.le_of_ble_eq_true rfl) ⟨rfl, rfl⟩ rfl ?_
    obtain ⟨s3_, es3_⟩ : ∃ q, q = up s2_ 580 7 0 := ⟨_, rfl⟩
    rw [← es3_]
    refine wi_a1 hc rfl rfl ?_
    refine wi_gr (w := t) hc rfl rfl (by decide) (Nat.le_of_ble_eq_true rfl) rfl ?_
    refine wi_grs (w := t + 1) hkt.2.1 hc rfl (by have := hkt.1; omega) (by decide) rfl ?_
    refine wi_i1 hc rfl rfl ?_
    refine wi_a1 hc rfl rfl ?_
    refine wi_gfv (kz := 6) rfl hc rfl rfl (by decide) (Nat.le_of_ble_eq_true rfl) rfl (v := 22) (((congrFun (congrFun es3_ _) _).trans (up_k (by omega))).trans (((congrFun (congrFun es2_ _) _).trans (up_k (by omega))).trans ((congrFun (congrFun es1_ _) _).trans (up_e (by omega))))) ?_
    refine wi_ist (N := 24) hc rfl hkt.2.2.1 (by have := hkt.1; omega) (by decide) (by omega) (by omega) ?_
    obtain ⟨s4_, es4_⟩ : ∃ q, q = up s3_ (t + 1) i 22 := ⟨_, rfl⟩
    rw [← es4_]
    refine wi_a1 hc rfl rfl ?_
    refine wi_gr (w := t) hc rfl rfl (by decide) (Nat.le_of_ble_eq_true rfl) rfl ?_
    refine wi_i1 hc rfl rfl ?_
    refine wi_ic hc rfl ?_
    refine wi_add hc rfl ?_
    refine wi_pfs (kz := 5) rfl hkt.2.1 hc rfl (by have := hkt.1; omega) (by decide) rfl (Nat.le_of_ble_eq_true rfl) ⟨rfl, rfl⟩ rfl ?_
    obtain ⟨s5_, es5_⟩ : ∃ q, q = up s4_ t 5 (i + 1) := ⟨_, rfl⟩
    rw [← es5_]
    refine wi_a1 hc rfl rfl ?_
    refine wi_gr (w := t) hc rfl rfl (by decide) (Nat.le_of_ble_eq_true rfl) rfl ?_
    refine wi_gfs (kz := 6) rfl hkt.2.1 hc rfl (by have := hkt.1; omega) (by decide) rfl (v := z.2.2) (((congrFun (congrFun es5_ _) _).trans (up_k (by omega))).trans (((congrFun (congrFun es4_ _) _).trans (up_c (by omega))).trans (((congrFun (congrFun es3_ _) _).trans (up_c (by omega))).trans (((congrFun (congrFun es2_ _) _).trans (up_c (by omega))).trans (((congrFun (congrFun es1_ _) _).trans (up_c (by omega))).trans ((by have q := CSt.rc h; exact q : s t 6 = z.2.2))))))) ?_
    refine wi_is1 (L' := [some (.ref 580), some (.int (iI i)), some (.int (iI z.2.2)), none]) hc rfl (Nat.le_of_ble_eq_true rfl) rfl ?_
    refine wi_a1 hc rfl rfl ?_
    refine wi_i1 hc rfl rfl ?_
    obtain ⟨hMb, hAb, hTb, hB4, hB5⟩ := CSt.beg (c := z.2.2) h hkt es1_ es2_ es3_ es4_ es5_
    have hCH : CH t s5_ G := by
      have q := hG.ch hI
      unfold CH at q ⊢
      rw [hB4, hB5]
      exact q
    obtain ⟨f1, y1, hy1⟩ : ∃ f y, rcNum k nm G 7 (rpNx z) = (f, y) := ⟨_, _, rfl⟩
    obtain ⟨sn, hEn, ⟨hC1, hC2, hC3⟩, hN⟩ := nb_59_7 (d := 0) (L := L) (l := l) hkt hGC hMb ⟨by show 0 ≤ z.1 + 1; omega, by show z.1 + 1 + 1 ≤ tn; omega⟩ hCH (i := i) ⟨by omega, by omega⟩ hy1
    refine wp_cv (b := 580) (As := [.int (iI i)]) (r := []) hc rfl (by rw [cm_59]; rfl) rfl (Nat.le_of_ble_eq_true rfl) (show 580 < 621 by decide) (by rw [cm_59]; rfl) (ev_mono hEn (by omega)) ?_
    have hAn := hAb.cng hkt hC3
    have hDn : f1 = 0 → ND nm t i 7 (rpNx z) s sn := fun e0 => ⟨fun _ => (hN e0).1, fun _ => (hN e0).2.1, fun _ => (hN e0).2.2.1, (by rw [if_neg (by decide)]; exact (hN e0).2.2.2.trans (hTb 7 (by decide)))⟩
    show mm_wp _ _ (117, [some (.ref 580), some (.int (iI i)), some (.int (iI z.2.2)), none], [.int (iI (bI (f1 = 0)))], MX L t sn l) _
    refine wi_bne hc rfl (fun h6_ => ?_) (fun h6_ => ?_)
    · subst h6_
      have hMn : CSt kd pl nm tn t 22 sn y1 0 := hC1 rfl
      have hDn := hDn rfl
      obtain ⟨hK1, hK2, hK3, hK4⟩ := rcNum_K hk43 (by decide) (by show z.1 + 1 ≤ tn - 1; omega) hy1
      have hK1 : z.1 + 1 ≤ y1.1 := hK1
      have hK5 : y1.2.2 = z.2.2 := by rw [hK3]; rfl
      refine wi_a1 hc rfl rfl ?_
      refine wi_i1 hc rfl rfl ?_
      refine wp_cv (b := 580) (As := [.int (iI i)]) (r := []) hc rfl (by rw [cm_58]; rfl) rfl (Nat.le_of_ble_eq_true rfl) (show 580 < 621 by decide) (by rw [cm_58]; rfl) (ev_mono (sl_58_7 (d := 0) hkt (CSt.rw9 hMn) (i := i)) (by omega)) ?_
      show mm_wp _ _ (127, [some (.ref 580), some (.int (iI i)), some (.int (iI z.2.2)), none], [.int (iI (-1))], MX L t sn l) _
      refine wi_is1 (L' := [some (.ref 580), some (.int (iI i)), some (.int (iI z.2.2)), some (.int (iI (-1)))]) hc rfl (Nat.le_of_ble_eq_true rfl) rfl ?_
      refine wi_i1 hc rfl rfl ?_
      refine wi_ic hc rfl ?_
      refine wi_ceq hc rfl ⟨by decide, by decide⟩ ⟨by decide, by decide⟩ (fun _ => ?_) (fun q => absurd q (by decide))
      refine wi_a1 hc rfl rfl ?_
      refine wi_bi hc rfl rfl ?_
      obtain ⟨f4, y4, hy4⟩ : ∃ f y, rcWd k 39 y1 = (f, y) := ⟨_, _, rfl⟩
      obtain ⟨se, hEe, hCe⟩ := sk_55 (d := 0) (L := L) (l := l) hkt hGC hMn ⟨by omega, by omega⟩ (q := 39) ⟨by decide, by decide⟩ (3 * i + 3) hy4
      refine wp_cv (b := 580) (As := [.int (iI 39)]) (r := []) hc rfl (by rw [cm_55]; rfl) rfl (Nat.le_of_ble_eq_true rfl) (show 580 < 621 by decide) (by rw [cm_55]; rfl) (ev_mono hEe (by omega)) ?_
      have hAe := hAn.cnf hkt hCe.2.2 (by omega)
      have hDe := hDn.cnf hkt hCe.2.2
      show mm_wp _ _ (190, [some (.ref 580), some (.int (iI i)), some (.int (iI z.2.2)), some (.int (iI (-1)))], [.int (iI (bI (f4 = 0)))], MX L t se l) _
      refine wi_rb hc rfl (by rw [cm_56]; rfl) ?_
      have hR9 : rpB (rpB (rcNum k nm G 7 (rpNx z)) (rcMore k nm 7)) (rcWd k 39) = (f4, y4) := by
        rw [hy1, rpB_z, rcMore_n (by decide), rpB_z]
        exact hy4
      have hr9 := rcCl_go hs9 (by decide) (fun e => absurd e.1 (by decide)) (by omega) hR9
      rw [hr] at hr9
      subst hr9
      refine ⟨se, rfl, fun e => ?_, hCe.2.1, hAe.f⟩
      have e : f4 = 0 := e
      subst e
      obtain rfl : y4 = rpNx y1 := (rcWd_K hk43 (by decide) hy4).2
      subst hi
      refine ⟨⟨_, _, hCe.1 rfl⟩, ?_⟩
      refine CG.add hG (so := 7) (z := rpNx z) (y := rpNx y1) ⟨by decide, by decide⟩ (by omega) (fun e => absurd e (by decide)) ⟨fun e => absurd e (by decide), fun e => absurd e (by decide)⟩ hAe.2.2.1 (fun q q0 q1 => hAe.2.2.2.1 q q1) (hAe.2.2.2.2.1.trans (by decide : (22 : Int) = wdS 7)) hAe.2.2.2.2.2.1 hDe.1 hDe.2.1 hDe.2.2.1 ?_ hDe.2.2.2
      intro j j0 j1
      have q := hAe.fb (C := fun j => (7 : Int) ≤ 2 ∧ j = slt 7 (nm (rpNx z).1)) (fun j j0 => ⟨fun e => absurd e.1 (by decide), fun e => by omega⟩) j j0 j1
      rw [if_neg (fun e => absurd e.1 (by decide)), if_neg (fun e => absurd e.1 (by decide))] at q ⊢
      exact q
    · skip
      refine wi_ic hc rfl ?_
      refine wi_r0 hc rfl (by rw [cm_56]; rfl) ?_
      have hR9 : rpB (rpB (rcNum k nm G 7 (rpNx z)) (rcMore k nm 7)) (rcWd k 39) = (f1, y1) := by
        rw [hy1, rpB_n (r := (f1, y1)) h6_, rpB_n (r := (f1, y1)) h6_]
      have hr9 := rcCl_go hs9 (by decide) (fun e => absurd e.1 (by decide)) (by omega) hR9
      rw [hr] at hr9
      subst hr9
      exact ⟨sn, by have q := bI_f (p := f1 = 0) h6_; exact congrArg (fun v => (some (Value.int (iI v)), MX L t sn l)) q.symm, fun e => absurd e h6_, fun _ => hC2 h6_, hAn.f⟩
  · refine wi_a1 hc rfl rfl ?_
    refine wi_bi hc rfl rfl ?_
    have hM7_ := h.sw6 hkt es1_
    obtain ⟨s7_, hE7_, hX7_, hY7_⟩ := sp_54 (d := 0) (L := L) (t := t) (l := l) (CSt.rR hM7_) (CSt.ra hM7_) ⟨by omega, by omega⟩ (n := 6) ⟨by decide, by decide⟩
    refine wp_cv (b := 580) (As := [.int (iI 6)]) (r := []) hc rfl (by rw [cm_54]; rfl) rfl (Nat.le_of_ble_eq_true rfl) (show 580 < 621 by decide) (by rw [cm_54]; rfl) (ev_mono hE7_ (by omega)) ?_
    show mm_wp _ _ (65, [some (.ref 580), some (.int (iI i)), none, none], [.int (iI 0)], MX L t s7_ l) _
    refine wi_r0 hc rfl (by rw [cm_56]; rfl) ?_
    have hr9 : r = (6, z, G) := by rw [← hr, rcCl_6 hs9 (by decide) (fun e => absurd e.1 (by decide)) (by omega)]
    subst hr9
    exact ⟨s7_, by rw [bI_f (p := ((6, z, G) : rcR).1 = 0) (by show ¬ (6 : Int) = 0; decide)], fun e => absurd (show (6 : Int) = 0 from e) (by decide), fun _ => ⟨by rw [hY7_]; rfl, by rw [hY7_]; rfl⟩, fun q a1 a2 => by rw [hX7_ q a1, es1_, up_cc a1], fun j a1 a2 => by rw [hY7_, if_neg (by omega), if_neg (by omega), es1_, up_k (by omega)], fun j a => by rw [hX7_ (t + 3) (by omega), es1_, up_cc (by omega)]⟩
theorem cl_56_8 {D L t : Nat} {s l : Nat → Int → Int} (hD : 24 ≤ D) (hkt : KT L t t) {kd k pl nm : Int → Int} {tn W0 op0 : Int} (hGC : GTC kd k pl nm tn) {z : rpS} (h : CSt kd pl nm tn t W0 s z op0) (hg : rpG tn z) {G : Int → Int} (hG : CG t s G) (hI : GTb G z.2.2) {i : Int} (hi : i = G 0) (hk9 : k z.1 = 5) (hs9 : soO (k z.1) = 8) {r : rcR} (hr : rcCl k nm z G = r) : ∃ s1, mm_Ev mm_ct mm_CM (D + 1) 56 [.ref 580, .int (iI i)] (MX L t s l) (some (.int (iI (bI (r.1 = 0)))), MX L t s1 l) ∧ (r.1 = 0 → (∃ W1 op1, CSt kd pl nm tn t W1 s1 r.2.1 op1) ∧ CG t s1 r.2.2) ∧ (r.1 ≠ 0 → s1 580 8 = r.1 ∧ s1 580 9 = plA pl tn r.2.1.1) ∧ CCf t z.2.2 s s1 := by
  have hc : (mm_CM 56).2.2.2.2.2.2.2 = mm_cf cd_56 := by rw [cm_56]; rfl
  refine ev_xs ?_
  refine ev_to (mx := 4) (by rw [cm_56]; decide) (by rw [cm_56]; rfl) (by show 2 ≤ _; decide) ?_
  show mm_wp _ _ (0, [some (.ref 580), some (.int (iI i)), none, none], [], MX L t s l) (fun res => ∃ s1, res = (some (.int (iI (bI (r.1 = 0)))), MX L t s1 l) ∧ (r.1 = 0 → (∃ W1 op1, CSt kd pl nm tn t W1 s1 r.2.1 op1) ∧ CG t s1 r.2.2) ∧ (r.1 ≠ 0 → s1 580 8 = r.1 ∧ s1 580 9 = plA pl tn r.2.1.1) ∧ CCf t z.2.2 s s1)
  obtain ⟨hk, hk43, hkr, htn⟩ := id hGC
  obtain ⟨hg0, hg1, hg2, hg3⟩ := id hg
  have ht6 := hkt.1
  have hka := kt_all hkt
  have hkz := hkr z.1
  have hG0 := hG.2.1
  refine wi_a1 hc rfl rfl ?_
  refine wi_a1 hc rfl rfl ?_
  have hk1_ : mm_Ev mm_ct mm_CM (0 + 1) 53 [.ref 580] (MX L t s l) (some (.int (iI (k z.1))), MX L t s l) := by rw [hk]; exact sp_53 (d := 0) (CSt.rR h) (CSt.ra h) ⟨by omega, by omega⟩
  rw [hk9] at hk1_
  refine wp_cv (b := 580) (As := []) (r := [.ref 580]) hc rfl (by rw [cm_53]; rfl) rfl (Nat.le_of_ble_eq_true rfl) (show 580 < 621 by decide) (by rw [cm_53]; rfl) (ev_mono hk1_ (by omega)) ?_
  show mm_wp _ _ (5, [some (.ref 580), some (.int (iI i)), none, none], [.int (iI 5), .ref 580], MX L t s l) _
  refine wi_pf (kz := 6) rfl hc rfl rfl (by decide) (Nat.le_of_ble_eq_true rfl) rfl (Nat.le_of_ble_eq_true rfl) ⟨rfl, rfl⟩ rfl ?_
  obtain ⟨s1_, es1_⟩ : ∃ q, q = up s 580 6 5 := ⟨_, rfl⟩
  rw [← es1_]
  refine wi_a1 hc rfl rfl ?_
  refine wi_gfv (kz := 6) rfl hc rfl rfl (by decide) (Nat.le_of_ble_eq_true rfl) rfl (v := 5) ((congrFun (congrFun es1_ _) _).trans (up_e (by omega))) ?_
  refine wi_ic hc rfl ?_
  refine wi_ceq hc rfl ⟨by decide, by decide⟩ ⟨by decide, by decide⟩ (fun _ => ?_) (fun q => absurd q (by decide))
  refine wi_a1 hc rfl rfl ?_
  refine wp_cv (b := 580) (As := []) (r := []) hc rfl (by rw [cm_57]; rfl) rfl (Nat.le_of_ble_eq_true rfl) (show 580 < 621 by decide) (by rw [cm_57]; rfl) (ev_mono (tw_57_8 (d := 0) hkt (by rw [es1_, up_at])) (by omega)) ?_
  show mm_wp _ _ (44, [some (.ref 580), some (.int (iI i)), none, none], [.int (iI 0)], MX L t s1_ l) _
  refine wi_zeq hc rfl ⟨by decide, by decide⟩ (fun _ => ?_) (fun q => absurd q (by decide))
  refine wi_i1 hc rfl rfl ?_
  refine wi_bi hc rfl rfl ?_
  refine wi_clt hc rfl ⟨by omega, by omega⟩ ⟨by decide, by decide⟩ (fun h3_ => ?_) (fun h3_ => ?_)
  · have hnx9 : z.1 + 1 < tn := by
      rcases (by omega : z.1 + 1 < tn ∨ tn - 1 ≤ z.1) with g | g
      · exact g
      · exfalso; have := hk43 z.1 g; omega
    refine wi_a1 hc rfl rfl ?_
    refine wi_dupr hc rfl ?_
    refine wi_gfv (kz := 4) rfl hc rfl rfl (by decide) (Nat.le_of_ble_eq_true rfl) rfl (v := z.1) (((congrFun (congrFun es1_ _) _).trans (up_k (by omega))).trans ((by have q := CSt.ra h; exact q : s 580 4 = z.1))) ?_
    refine wi_ic hc rfl ?_
    refine wi_add hc rfl ?_
    refine wi_pf (kz := 4) rfl hc rfl rfl (by decide) (Nat.le_of_ble_eq_true rfl) rfl (Nat.le_of_ble_eq_true rfl) ⟨rfl, rfl⟩ rfl ?_
    obtain ⟨s2_, es2_⟩ : ∃ q, q = up s1_ 580 4 (z.1 + 1) := ⟨_, rfl⟩
    rw [← es2_]
    refine wi_a1 hc rfl rfl ?_
    refine wi_ic hc rfl ?_
    refine wi_pf (kz := 7) rfl hc rfl rfl (by decide) (Nat.le_of_ble_eq_true rfl) rfl (Nat.le_of_ble_eq_true rfl) ⟨rfl, rfl⟩ rfl ?_
    obtain ⟨s3_, es3_⟩ : ∃ q, q = up s2_ 580 7 0 := ⟨_, rfl⟩
    rw [← es3_]
    refine wi_a1 hc rfl rfl ?_
    refine wi_gr (w := t) hc rfl rfl (by decide) (Nat.le_of_ble_eq_true rfl) rfl ?_
    refine wi_grs (w := t + 1) hkt.2.1 hc rfl (by have := hkt.1; omega) (by decide) rfl ?_
    refine wi_i1 hc rfl rfl ?_
    refine wi_a1 hc rfl rfl ?_
    refine wi_gfv (kz := 6) rfl hc rfl rfl (by decide) (Nat.le_of_ble_eq_true rfl) rfl (v := 5) (((congrFun (congrFun es3_ _) _).trans (up_k (by omega))).trans (((congrFun (congrFun es2_ _) _).trans (up_k (by omega))).trans ((congrFun (congrFun es1_ _) _).trans (up_e (by omega))))) ?_
    refine wi_ist (N := 24) hc rfl hkt.2.2.1 (by have := hkt.1; omega) (by decide) (by omega) (by omega) ?_
    obtain ⟨s4_, es4_⟩ : ∃ q, q = up s3_ (t + 1) i 5 := ⟨_, rfl⟩
    rw [← es4_]
    refine wi_a1 hc rfl rfl ?_
    refine wi_gr (w := t) hc rfl rfl (by decide) (Nat.le_of_ble_eq_true rfl) rfl ?_
    refine wi_i1 hc rfl rfl ?_
    refine wi_ic hc rfl ?_
    refine wi_add hc rfl ?_
    refine wi_pfs (kz := 5) rfl hkt.2.1 hc rfl (by have := hkt.1; omega) (by decide) rfl (Nat.le_of_ble_eq_true rfl) ⟨rfl, rfl⟩ rfl ?_
    obtain ⟨s5_, es5_⟩ : ∃ q, q = up s4_ t 5 (i + 1) := ⟨_, rfl⟩
    rw [← es5_]
    refine wi_a1 hc rfl rfl ?_
    refine wi_gr (w := t) hc rfl rfl (by decide) (Nat.le_of_ble_eq_true rfl) rfl ?_
    refine wi_gfs (kz := 6) rfl hkt.2.1 hc rfl (by have := hkt.1; omega) (by decide) rfl (v := z.2.2) (((congrFun (congrFun es5_ _) _).trans (up_k (by omega))).trans (((congrFun (congrFun es4_ _) _).trans (up_c (by omega))).trans (((congrFun (congrFun es3_ _) _).trans (up_c (by omega))).trans (((congrFun (congrFun es2_ _) _).trans (up_c (by omega))).trans (((congrFun (congrFun es1_ _) _).trans (up_c (by omega))).trans ((by have q := CSt.rc h; exact q : s t 6 = z.2.2))))))) ?_
    refine wi_is1 (L' := [some (.ref 580), some (.int (iI i)), some (.int (iI z.2.2)), none]) hc rfl (Nat.le_of_ble_eq_true rfl) rfl ?_
    refine wi_a1 hc rfl rfl ?_
    refine wi_i1 hc rfl rfl ?_
    obtain ⟨hMb, hAb, hTb, hB4, hB5⟩ := CSt.beg (c := z.2.2) h hkt es1_ es2_ es3_ es4_ es5_
    have hCH : CH t s5_ G := by
      have q := hG.ch hI
      unfold CH at q ⊢
      rw [hB4, hB5]
      exact q
    obtain ⟨f1, y1, hy1⟩ : ∃ f y, rcNum k nm G 8 (rpNx z) = (f, y) := ⟨_, _, rfl⟩
    obtain ⟨sn, hEn, ⟨hC1, hC2, hC3⟩, hN⟩ := nb_59_8 (d := 0) (L := L) (l := l) hkt hGC hMb ⟨by show 0 ≤ z.1 + 1; omega, by show z.1 + 1 + 1 ≤ tn; omega⟩ hCH (i := i) ⟨by omega, by omega⟩ hy1
    refine wp_cv (b := 580) (As := [.int (iI i)]) (r := []) hc rfl (by rw [cm_59]; rfl) rfl (Nat.le_of_ble_eq_true rfl) (show 580 < 621 by decide) (by rw [cm_59]; rfl) (ev_mono hEn (by omega)) ?_
    have hAn := hAb.cng hkt hC3
    have hDn : f1 = 0 → ND nm t i 8 (rpNx z) s sn := fun e0 => ⟨fun e => absurd e (by decide), fun e => absurd e (by decide), fun e => absurd e (by decide), (by rw [if_neg (by decide)]; exact (hN e0).trans (hTb 7 (by decide)))⟩
    show mm_wp _ _ (117, [some (.ref 580), some (.int (iI i)), some (.int (iI z.2.2)), none], [.int (iI (bI (f1 = 0)))], MX L t sn l) _
    refine wi_bne hc rfl (fun h4_ => ?_) (fun h4_ => ?_)
    · subst h4_
      have hMn : CSt kd pl nm tn t 5 sn y1 0 := hC1 rfl
      have hDn := hDn rfl
      obtain ⟨hK1, hK2, hK3, hK4⟩ := rcNum_K hk43 (by decide) (by show z.1 + 1 ≤ tn - 1; omega) hy1
      have hK1 : z.1 + 1 ≤ y1.1 := hK1
      have hK5 : y1.2.2 = z.2.2 := by rw [hK3]; rfl
      refine wi_a1 hc rfl rfl ?_
      refine wi_i1 hc rfl rfl ?_
      refine wp_cv (b := 580) (As := [.int (iI i)]) (r := []) hc rfl (by rw [cm_58]; rfl) rfl (Nat.le_of_ble_eq_true rfl) (show 580 < 621 by decide) (by rw [cm_58]; rfl) (ev_mono (sl_58_8 (d := 0) hkt (CSt.rw9 hMn) (i := i)) (by omega)) ?_
      show mm_wp _ _ (127, [some (.ref 580), some (.int (iI i)), some (.int (iI z.2.2)), none], [.int (iI (-1))], MX L t sn l) _
      refine wi_is1 (L' := [some (.ref 580), some (.int (iI i)), some (.int (iI z.2.2)), some (.int (iI (-1)))]) hc rfl (Nat.le_of_ble_eq_true rfl) rfl ?_
      refine wi_i1 hc rfl rfl ?_
      refine wi_ic hc rfl ?_
      refine wi_ceq hc rfl ⟨by decide, by decide⟩ ⟨by decide, by decide⟩ (fun _ => ?_) (fun q => absurd q (by decide))
      refine wi_a1 hc rfl rfl ?_
      refine wi_bi hc rfl rfl ?_
      obtain ⟨f4, y4, hy4⟩ : ∃ f y, rcWd k 39 y1 = (f, y) := ⟨_, _, rfl⟩
      obtain ⟨se, hEe, hCe⟩ := sk_55 (d := 0) (L := L) (l := l) hkt hGC hMn ⟨by omega, by omega⟩ (q := 39) ⟨by decide, by decide⟩ (3 * i + 3) hy4
      refine wp_cv (b := 580) (As := [.int (iI 39)]) (r := []) hc rfl (by rw [cm_55]; rfl) rfl (Nat.le_of_ble_eq_true rfl) (show 580 < 621 by decide) (by rw [cm_55]; rfl) (ev_mono hEe (by omega)) ?_
      have hAe := hAn.cnf hkt hCe.2.2 (by omega)
      have hDe := hDn.cnf hkt hCe.2.2
      show mm_wp _ _ (190, [some (.ref 580), some (.int (iI i)), some (.int (iI z.2.2)), some (.int (iI (-1)))], [.int (iI (bI (f4 = 0)))], MX L t se l) _
      refine wi_rb hc rfl (by rw [cm_56]; rfl) ?_
      have hR9 : rpB (rpB (rcNum k nm G 8 (rpNx z)) (rcMore k nm 8)) (rcWd k 39) = (f4, y4) := by
        rw [hy1, rpB_z, rcMore_n (by decide), rpB_z]
        exact hy4
      have hr9 := rcCl_go hs9 (by decide) (fun e => absurd e.1 (by decide)) (by omega) hR9
      rw [hr] at hr9
      subst hr9
      refine ⟨se, rfl, fun e => ?_, hCe.2.1, hAe.f⟩
      have e : f4 = 0 := e
      subst e
      obtain rfl : y4 = rpNx y1 := (rcWd_K hk43 (by decide) hy4).2
      subst hi
      refine ⟨⟨_, _, hCe.1 rfl⟩, ?_⟩
      refine CG.add hG (so := 8) (z := rpNx z) (y := rpNx y1) ⟨by decide, by decide⟩ (by omega) (fun e => absurd e (by decide)) ⟨fun e => absurd e (by decide), fun e => absurd e (by decide)⟩ hAe.2.2.1 (fun q q0 q1 => hAe.2.2.2.1 q q1) (hAe.2.2.2.2.1.trans (by decide : (5 : Int) = wdS 8)) hAe.2.2.2.2.2.1 hDe.1 hDe.2.1 hDe.2.2.1 ?_ hDe.2.2.2
      intro j j0 j1
      have q := hAe.fb (C := fun j => (8 : Int) ≤ 2 ∧ j = slt 8 (nm (rpNx z).1)) (fun j j0 => ⟨fun e => absurd e.1 (by decide), fun e => by omega⟩) j j0 j1
      rw [if_neg (fun e => absurd e.1 (by decide)), if_neg (fun e => absurd e.1 (by decide))] at q ⊢
      exact q
    · skip
      refine wi_ic hc rfl ?_
      refine wi_r0 hc rfl (by rw [cm_56]; rfl) ?_
      have hR9 : rpB (rpB (rcNum k nm G 8 (rpNx z)) (rcMore k nm 8)) (rcWd k 39) = (f1, y1) := by
        rw [hy1, rpB_n (r := (f1, y1)) h4_, rpB_n (r := (f1, y1)) h4_]
      have hr9 := rcCl_go hs9 (by decide) (fun e => absurd e.1 (by decide)) (by omega) hR9
      rw [hr] at hr9
      subst hr9
      exact ⟨sn, by have q := bI_f (p := f1 = 0) h4_; exact congrArg (fun v => (some (Value.int (iI v)), MX L t sn l)) q.symm, fun e => absurd e h4_, fun _ => hC2 h4_, hAn.f⟩
  · refine wi_a1 hc rfl rfl ?_
    refine wi_bi hc rfl rfl ?_
    have hM7_ := h.sw6 hkt es1_
    obtain ⟨s7_, hE7_, hX7_, hY7_⟩ := sp_54 (d := 0) (L := L) (t := t) (l := l) (CSt.rR hM7_) (CSt.ra hM7_) ⟨by omega, by omega⟩ (n := 6) ⟨by decide, by decide⟩
    refine wp_cv (b := 580) (As := [.int (iI 6)]) (r := []) hc rfl (by rw [cm_54]; rfl) rfl (Nat.le_of_ble_eq_true rfl) (show 580 < 621 by decide) (by rw [cm_54]; rfl) (ev_mono hE7_ (by omega)) ?_
    show mm_wp _ _ (65, [some (.ref 580), some (.int (iI i)), none, none], [.int (iI 0)], MX L t s7_ l) _
    refine wi_r0 hc rfl (by rw [cm_56]; rfl) ?_
    have hr9 : r = (6, z, G) := by rw [← hr, rcCl_6 hs9 (by decide) (fun e => absurd e.1 (by decide)) (by omega)]
    subst hr9
    exact ⟨s7_, by rw [bI_f (p := ((6, z, G) : rcR).1 = 0) (by show ¬ (6 : Int) = 0; decide)], fun e => absurd (show (6 : Int) = 0 from e) (by decide), fun _ => ⟨by rw [hY7_]; rfl, by rw [hY7_]; rfl⟩, fun q a1 a2 => by rw [hX7_ q a1, es1_, up_cc a1], fun j a1 a2 => by rw [hY7_, if_neg (by omega), if_neg (by omega), es1_, up_k (by omega)], fun j a => by rw [hX7_ (t + 3) (by omega), es1_, up_cc (by omega)]⟩
theorem cl_56_9 {D L t : Nat} {s l : Nat → Int → Int} (hD : 24 ≤ D) (hkt : KT L t t) {kd k pl nm : Int → Int} {tn W0 op0 : Int} (hGC : GTC kd k pl nm tn) {z : rpS} (h : CSt kd pl nm tn t W0 s z op0) (hg : rpG tn z) {G : Int → Int} (hG : CG t s G) (hI : GTb G z.2.2) {i : Int} (hi : i = G 0) (hk9 : k z.1 = 23) (hs9 : soO (k z.1) = 9) {r : rcR} (hr : rcCl k nm z G = r) : ∃ s1, mm_Ev mm_ct mm_CM (D + 1) 56 [.ref 580, .int (iI i)] (MX L t s l) (some (.int (iI (bI (r.1 = 0)))), MX L t s1 l) ∧ (r.1 = 0 → (∃ W1 op1, CSt kd pl nm tn t W1 s1 r.2.1 op1) ∧ CG t s1 r.2.2) ∧ (r.1 ≠ 0 → s1 580 8 = r.1 ∧ s1 580 9 = plA pl tn r.2.1.1) ∧ CCf t z.2.2 s s1 := by
  have hc : (mm_CM 56).2.2.2.2.2.2.2 = mm_cf cd_56 := by rw [cm_56]; rfl
  refine ev_xs ?_
  refine ev_to (mx := 4) (by rw [cm_56]; decide) (by rw [cm_56]; rfl) (by show 2 ≤ _; decide) ?_
  show mm_wp _ _ (0, [some (.ref 580), some (.int (iI i)), none, none], [], MX L t s l) (fun res => ∃ s1, res = (some (.int (iI (bI (r.1 = 0)))), MX L t s1 l) ∧ (r.1 = 0 → (∃ W1 op1, CSt kd pl nm tn t W1 s1 r.2.1 op1) ∧ CG t s1 r.2.2) ∧ (r.1 ≠ 0 → s1 580 8 = r.1 ∧ s1 580 9 = plA pl tn r.2.1.1) ∧ CCf t z.2.2 s s1)
  obtain ⟨hk, hk43, hkr, htn⟩ := id hGC
  obtain ⟨hg0, hg1, hg2, hg3⟩ := id hg
  have ht6 := hkt.1
  have hka := kt_all hkt
  have hkz := hkr z.1
  have hG0 := hG.2.1
  refine wi_a1 hc rfl rfl ?_
  refine wi_a1 hc rfl rfl ?_
  have hk1_ : mm_Ev mm_ct mm_CM (0 + 1) 53 [.ref 580] (MX L t s l) (some (.int (iI (k z.1))), MX L t s l) := by rw [hk]; exact sp_53 (d := 0) (CSt.rR h) (CSt.ra h) ⟨by omega, by omega⟩
  rw [hk9] at hk1_
  refine wp_cv (b := 580) (As := []) (r := [.ref 580]) hc rfl (by rw [cm_53]; rfl) rfl (Nat.le_of_ble_eq_true rfl) (show 580 < 621 by decide) (by rw [cm_53]; rfl) (ev_mono hk1_ (by omega)) ?_
  show mm_wp _ _ (5, [some (.ref 580), some (.int (iI i)), none, none], [.int (iI 23), .ref 580], MX L t s l) _
  refine wi_pf (kz := 6) rfl hc rfl rfl (by decide) (Nat.le_of_ble_eq_true rfl) rfl (Nat.le_of_ble_eq_true rfl) ⟨rfl, rfl⟩ rfl ?_
  obtain ⟨s1_, es1_⟩ : ∃ q, q = up s 580 6 23 := ⟨_, rfl⟩
  rw [← es1_]
  refine wi_a1 hc rfl rfl ?_
  refine wi_gfv (kz := 6) rfl hc rfl rfl (by decide) (Nat.le_of_ble_eq_true rfl) rfl (v := 23) ((congrFun (congrFun es1_ _) _).trans (up_e (by omega))) ?_
  refine wi_ic hc rfl ?_
  refine wi_ceq hc rfl ⟨by decide, by decide⟩ ⟨by decide, by decide⟩ (fun q => absurd q (by decide)) (fun _ => ?_)
  refine wi_a1 hc rfl rfl ?_
  refine wi_gfv (kz := 6) rfl hc rfl rfl (by decide) (Nat.le_of_ble_eq_true rfl) rfl (v := 23) ((congrFun (congrFun es1_ _) _).trans (up_e (by omega))) ?_
  refine wi_bi hc rfl rfl ?_
  refine wi_clt hc rfl ⟨by decide, by decide⟩ ⟨by decide, by decide⟩ (fun q => absurd q (by decide)) (fun _ => ?_)
  refine wi_a1 hc rfl rfl ?_
  refine wi_gfv (kz := 6) rfl hc rfl rfl (by decide) (Nat.le_of_ble_eq_true rfl) rfl (v := 23) ((congrFun (congrFun es1_ _) _).trans (up_e (by omega))) ?_
  refine wi_bi hc rfl rfl ?_
  refine wi_cle hc rfl ⟨by decide, by decide⟩ ⟨by decide, by decide⟩ (fun _ => ?_) (fun q => absurd q (by decide))
  refine wi_a1 hc rfl rfl ?_
  refine wp_cv (b := 580) (As := []) (r := []) hc rfl (by rw [cm_57]; rfl) rfl (Nat.le_of_ble_eq_true rfl) (show 580 < 621 by decide) (by rw [cm_57]; rfl) (ev_mono (tw_57_9 (d := 0) hkt (by rw [es1_, up_at])) (by omega)) ?_
  show mm_wp _ _ (44, [some (.ref 580), some (.int (iI i)), none, none], [.int (iI 0)], MX L t s1_ l) _
  refine wi_zeq hc rfl ⟨by decide, by decide⟩ (fun _ => ?_) (fun q => absurd q (by decide))
  refine wi_i1 hc rfl rfl ?_
  refine wi_bi hc rfl rfl ?_
  refine wi_clt hc rfl ⟨by omega, by omega⟩ ⟨by decide, by decide⟩ (fun h5_ => ?_) (fun h5_ => ?_)
  · have hnx9 : z.1 + 1 < tn := by
      rcases (by omega : z.1 + 1 < tn ∨ tn - 1 ≤ z.1) with g | g
      · exact g
      · exfalso; have := hk43 z.1 g; omega
    refine wi_a1 hc rfl rfl ?_
    refine wi_dupr hc rfl ?_
    refine wi_gfv (kz := 4) rfl hc rfl rfl (by decide) (Nat.le_of_ble_eq_true rfl) rfl (v := z.1) (((congrFun (congrFun es1_ _) _).trans (up_k (by omega))).trans ((by have q := CSt.ra h; exact q : s 580 4 = z.1))) ?_
    refine wi_ic hc rfl ?_
    refine wi_add hc rfl ?_
    refine wi_pf (kz := 4) rfl hc rfl rfl (by decide) (Nat.le_of_ble_eq_true rfl) rfl (Nat.le_of_ble_eq_true rfl) ⟨rfl, rfl⟩ rfl ?_
    obtain ⟨s2_, es2_⟩ : ∃ q, q = up s1_ 580 4 (z.1 + 1) := ⟨_, rfl⟩
    rw [← es2_]
    refine wi_a1 hc rfl rfl ?_
    refine wi_ic hc rfl ?_
    refine wi_pf (kz := 7) rfl hc rfl rfl (by decide) (Nat.le_of_ble_eq_true rfl) rfl (Nat.le_of_ble_eq_true rfl) ⟨rfl, rfl⟩ rfl ?_
    obtain ⟨s3_, es3_⟩ : ∃ q, q = up s2_ 580 7 0 := ⟨_, rfl⟩
    rw [← es3_]
    refine wi_a1 hc rfl rfl ?_
    refine wi_gr (w := t) hc rfl rfl (by decide) (Nat.le_of_ble_eq_true rfl) rfl ?_
    refine wi_grs (w := t + 1) hkt.2.1 hc rfl (by have := hkt.1; omega) (by decide) rfl ?_
    refine wi_i1 hc rfl rfl ?_
    refine wi_a1 hc rfl rfl ?_
    refine wi_gfv (kz := 6) rfl hc rfl rfl (by decide) (Nat.le_of_ble_eq_true rfl) rfl (v := 23) (((congrFun (congrFun es3_ _) _).trans (up_k (by omega))).trans (((congrFun (congrFun es2_ _) _).trans (up_k (by omega))).trans ((congrFun (congrFun es1_ _) _).trans (up_e (by omega))))) ?_
    refine wi_ist (N := 24) hc rfl hkt.2.2.1 (by have := hkt.1; omega) (by decide) (by omega) (by omega) ?_
    obtain ⟨s4_, es4_⟩ : ∃ q, q = up s3_ (t + 1) i 23 := ⟨_, rfl⟩
    rw [← es4_]
    refine wi_a1 hc rfl rfl ?_
    refine wi_gr (w := t) hc rfl rfl (by decide) (Nat.le_of_ble_eq_true rfl) rfl ?_
    refine wi_i1 hc rfl rfl ?_
    refine wi_ic hc rfl ?_
    refine wi_add hc rfl ?_
    refine wi_pfs (kz := 5) rfl hkt.2.1 hc rfl (by have := hkt.1; omega) (by decide) rfl (Nat.le_of_ble_eq_true rfl) ⟨rfl, rfl⟩ rfl ?_
    obtain ⟨s5_, es5_⟩ : ∃ q, q = up s4_ t 5 (i + 1) := ⟨_, rfl⟩
    rw [← es5_]
    refine wi_a1 hc rfl rfl ?_
    refine wi_gr (w := t) hc rfl rfl (by decide) (Nat.le_of_ble_eq_true rfl) rfl ?_
    refine wi_gfs (kz := 6) rfl hkt.2.1 hc rfl (by have := hkt.1; omega) (by decide) rfl (v := z.2.2) (((congrFun (congrFun es5_ _) _).trans (up_k (by omega))).trans (((congrFun (congrFun es4_ _) _).trans (up_c (by omega))).trans (((congrFun (congrFun es3_ _) _).trans (up_c (by omega))).trans (((congrFun (congrFun es2_ _) _).trans (up_c (by omega))).trans (((congrFun (congrFun es1_ _) _).trans (up_c (by omega))).trans ((by have q := CSt.rc h; exact q : s t 6 = z.2.2))))))) ?_
    refine wi_is1 (L' := [some (.ref 580), some (.int (iI i)), some (.int (iI z.2.2)), none]) hc rfl (Nat.le_of_ble_eq_true rfl) rfl ?_
    refine wi_a1 hc rfl rfl ?_
    refine wi_i1 hc rfl rfl ?_
    obtain ⟨hMb, hAb, hTb, hB4, hB5⟩ := CSt.beg (c := z.2.2) h hkt es1_ es2_ es3_ es4_ es5_
    have hCH : CH t s5_ G := by
      have q := hG.ch hI
      unfold CH at q ⊢
      rw [hB4, hB5]
      exact q
    obtain ⟨f1, y1, hy1⟩ : ∃ f y, rcNum k nm G 9 (rpNx z) = (f, y) := ⟨_, _, rfl⟩
    obtain ⟨sn, hEn, ⟨hC1, hC2, hC3⟩, hN⟩ := nb_59_9 (d := 0) (L := L) (l := l) hkt hGC hMb ⟨by show 0 ≤ z.1 + 1; omega, by show z.1 + 1 + 1 ≤ tn; omega⟩ hCH (i := i) ⟨by omega, by omega⟩ hy1
    refine wp_cv (b := 580) (As := [.int (iI i)]) (r := []) hc rfl (by rw [cm_59]; rfl) rfl (Nat.le_of_ble_eq_true rfl) (show 580 < 621 by decide) (by rw [cm_59]; rfl) (ev_mono hEn (by omega)) ?_
    have hAn := hAb.cng hkt hC3
    have hDn : f1 = 0 → ND nm t i 9 (rpNx z) s sn := fun e0 => ⟨fun e => absurd e (by decide), fun e => absurd e (by decide), fun e => absurd e (by decide), (by rw [if_neg (by decide)]; exact (hN e0).trans (hTb 7 (by decide)))⟩
    show mm_wp _ _ (117, [some (.ref 580), some (.int (iI i)), some (.int (iI z.2.2)), none], [.int (iI (bI (f1 = 0)))], MX L t sn l) _
    refine wi_bne hc rfl (fun h6_ => ?_) (fun h6_ => ?_)
    · subst h6_
      have hMn : CSt kd pl nm tn t 23 sn y1 0 := hC1 rfl
      have hDn := hDn rfl
      obtain ⟨hK1, hK2, hK3, hK4⟩ := rcNum_K hk43 (by decide) (by show z.1 + 1 ≤ tn - 1; omega) hy1
      have hK1 : z.1 + 1 ≤ y1.1 := hK1
      have hK5 : y1.2.2 = z.2.2 := by rw [hK3]; rfl
      refine wi_a1 hc rfl rfl ?_
      refine wi_i1 hc rfl rfl ?_
      refine wp_cv (b := 580) (As := [.int (iI i)]) (r := []) hc rfl (by rw [cm_58]; rfl) rfl (Nat.le_of_ble_eq_true rfl) (show 580 < 621 by decide) (by rw [cm_58]; rfl) (ev_mono (sl_58_9 (d := 0) hkt (CSt.rw9 hMn) (i := i)) (by omega)) ?_
      show mm_wp _ _ (127, [some (.ref 580), some (.int (iI i)), some (.int (iI z.2.2)), none], [.int (iI (-1))], MX L t sn l) _
      refine wi_is1 (L' := [some (.ref 580), some (.int (iI i)), some (.int (iI z.2.2)), some (.int (iI (-1)))]) hc rfl (Nat.le_of_ble_eq_true rfl) rfl ?_
      refine wi_i1 hc rfl rfl ?_
      refine wi_ic hc rfl ?_
      refine wi_ceq hc rfl ⟨by decide, by decide⟩ ⟨by decide, by decide⟩ (fun _ => ?_) (fun q => absurd q (by decide))
      refine wi_a1 hc rfl rfl ?_
      refine wi_bi hc rfl rfl ?_
      obtain ⟨f4, y4, hy4⟩ : ∃ f y, rcWd k 39 y1 = (f, y) := ⟨_, _, rfl⟩
      obtain ⟨se, hEe, hCe⟩ := sk_55 (d := 0) (L := L) (l := l) hkt hGC hMn ⟨by omega, by omega⟩ (q := 39) ⟨by decide, by decide⟩ (3 * i + 3) hy4
      refine wp_cv (b := 580) (As := [.int (iI 39)]) (r := []) hc rfl (by rw [cm_55]; rfl) rfl (Nat.le_of_ble_eq_true rfl) (show 580 < 621 by decide) (by rw [cm_55]; rfl) (ev_mono hEe (by omega)) ?_
      have hAe := hAn.cnf hkt hCe.2.2 (by omega)
      have hDe := hDn.cnf hkt hCe.2.2
      show mm_wp _ _ (190, [some (.ref 580), some (.int (iI i)), some (.int (iI z.2.2)), some (.int (iI (-1)))], [.int (iI (bI (f4 = 0)))], MX L t se l) _
      refine wi_rb hc rfl (by rw [cm_56]; rfl) ?_
      have hR9 : rpB (rpB (rcNum k nm G 9 (rpNx z)) (rcMore k nm 9)) (rcWd k 39) = (f4, y4) := by
        rw [hy1, rpB_z, rcMore_n (by decide), rpB_z]
        exact hy4
      have hr9 := rcCl_go hs9 (by decide) (fun e => absurd e.1 (by decide)) (by omega) hR9
      rw [hr] at hr9
      subst hr9
      refine ⟨se, rfl, fun e => ?_, hCe.2.1, hAe.f⟩
      have e : f4 = 0 := e
      subst e
      obtain rfl : y4 = rpNx y1 := (rcWd_K hk43 (by decide) hy4).2
      subst hi
      refine ⟨⟨_, _, hCe.1 rfl⟩, ?_⟩
      refine CG.add hG (so := 9) (z := rpNx z) (y := rpNx y1) ⟨by decide, by decide⟩ (by omega) (fun e => absurd e (by decide)) ⟨fun e => absurd e (by decide), fun e => absurd e (by decide)⟩ hAe.2.2.1 (fun q q0 q1 => hAe.2.2.2.1 q q1) (hAe.2.2.2.2.1.trans (by decide : (23 : Int) = wdS 9)) hAe.2.2.2.2.2.1 hDe.1 hDe.2.1 hDe.2.2.1 ?_ hDe.2.2.2
      intro j j0 j1
      have q := hAe.fb (C := fun j => (9 : Int) ≤ 2 ∧ j = slt 9 (nm (rpNx z).1)) (fun j j0 => ⟨fun e => absurd e.1 (by decide), fun e => by omega⟩) j j0 j1
      rw [if_neg (fun e => absurd e.1 (by decide)), if_neg (fun e => absurd e.1 (by decide))] at q ⊢
      exact q
    · skip
      refine wi_ic hc rfl ?_
      refine wi_r0 hc rfl (by rw [cm_56]; rfl) ?_
      have hR9 : rpB (rpB (rcNum k nm G 9 (rpNx z)) (rcMore k nm 9)) (rcWd k 39) = (f1, y1) := by
        rw [hy1, rpB_n (r := (f1, y1)) h6_, rpB_n (r := (f1, y1)) h6_]
      have hr9 := rcCl_go hs9 (by decide) (fun e => absurd e.1 (by decide)) (by omega) hR9
      rw [hr] at hr9
      subst hr9
      exact ⟨sn, by have q := bI_f (p := f1 = 0) h6_; exact congrArg (fun v => (some (Value.int (iI v)), MX L t sn l)) q.symm, fun e => absurd e h6_, fun _ => hC2 h6_, hAn.f⟩
  · refine wi_a1 hc rfl rfl ?_
    refine wi_bi hc rfl rfl ?_
    have hM7_ := h.sw6 hkt es1_
    obtain ⟨s7_, hE7_, hX7_, hY7_⟩ := sp_54 (d := 0) (L := L) (t := t) (l := l) (CSt.rR hM7_) (CSt.ra hM7_) ⟨by omega, by omega⟩ (n := 6) ⟨by decide, by decide⟩
    refine wp_cv (b := 580) (As := [.int (iI 6)]) (r := []) hc rfl (by rw [cm_54]; rfl) rfl (Nat.le_of_ble_eq_true rfl) (show 580 < 621 by decide) (by rw [cm_54]; rfl) (ev_mono hE7_ (by omega)) ?_
    show mm_wp _ _ (65, [some (.ref 580), some (.int (iI i)), none, none], [.int (iI 0)], MX L t s7_ l) _
    refine wi_r0 hc rfl (by rw [cm_56]; rfl) ?_
    have hr9 : r = (6, z, G) := by rw [← hr, rcCl_6 hs9 (by decide) (fun e => absurd e.1 (by decide)) (by omega)]
    subst hr9
    exact ⟨s7_, by rw [bI_f (p := ((6, z, G) : rcR).1 = 0) (by show ¬ (6 : Int) = 0; decide)], fun e => absurd (show (6 : Int) = 0 from e) (by decide), fun _ => ⟨by rw [hY7_]; rfl, by rw [hY7_]; rfl⟩, fun q a1 a2 => by rw [hX7_ q a1, es1_, up_cc a1], fun j a1 a2 => by rw [hY7_, if_neg (by omega), if_neg (by omega), es1_, up_k (by omega)], fun j a => by rw [hX7_ (t + 3) (by omega), es1_, up_cc (by omega)]⟩
