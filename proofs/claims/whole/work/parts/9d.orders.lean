/-! Orders by numbers: on whole numbers. -/
/-- the e-th book of a set -/
def elF (S : Int) : Int → Int := fun e => (((blN S.toNat 10).getD e.toNat 0 : Nat) : Int)
def dgI (m : Nat) (n : Int) : Int → Int := fun p => ((dgE m n.toNat p.toNat : Nat) : Int)
def lsF (m : Nat) (f : Int → Int) : List Nat := (List.range m).map (fun p : Nat => (f (p : Int)).toNat)
def rkI (m : Nat) (f : Int → Int) : Int := ((rkH 0 (lsF m f) : Nat) : Int)
theorem lsF_len (m : Nat) (f : Int → Int) : (lsF m f).length = m := by
  unfold lsF
  rw [List.length_map, List.length_range]
theorem lsF_nodup {m : Nat} {f : Int → Int} (hr : ∀ p, 0 ≤ p → p < (m : Int) → 0 ≤ f p) (hi : injF f m) : (lsF m f).Nodup := by
  unfold lsF List.Nodup
  rw [List.pairwise_map]
  refine List.Pairwise.imp_of_mem ?_ List.pairwise_lt_range
  intro a b ha hb hab e
  have h1 := List.mem_range.mp ha
  have h2 := List.mem_range.mp hb
  have g1 := hr a (by omega) (by omega)
  have g2 := hr b (by omega) (by omega)
  exact hi a b (by omega) (by omega) (by omega) (by omega)
theorem lsF_get {m p : Nat} {f : Int → Int} (h : p < m) : (lsF m f).getD p 0 = (f p).toNat := by
  rw [List.getD_eq_getElem?_getD]
  unfold lsF
  rw [List.getElem?_map, List.getElem?_range h]
  rfl
theorem rk_ok {m : Nat} (hm : m < 7) {f : Int → Int} (hr : ∀ p, 0 ≤ p → p < (m : Int) → 0 ≤ f p ∧ f p < m) (hi : injF f m) : (0 ≤ rkI m f ∧ rkI m f < fct m) ∧ (∀ p, 0 ≤ p → p < (m : Int) → dgI m (rkI m f) p = f p) ∧ rkC m 0 (lsF m f) = rkH 0 (lsF m f) := by
  have h := enA_ok (P := chkP m) (m := m) (lsF m f) [] (by rw [lsF_len]; exact chk_all m hm) (fun e he => by
    unfold lsF at he
    obtain ⟨p, hp, rfl⟩ := List.mem_map.mp he
    have h1 := List.mem_range.mp hp
    have := hr p (by omega) (by omega)
    omega) (by rw [List.nil_append]; exact lsF_nodup (fun p a b => (hr p a b).1) hi)
  rw [List.nil_append] at h
  unfold chkP at h
  rw [Bool.and_eq_true, Bool.and_eq_true, beq_iff_eq, beq_iff_eq, decide_eq_true_eq] at h
  obtain ⟨⟨h1, h2⟩, h3⟩ := h
  refine ⟨⟨Int.natCast_nonneg _, by unfold rkI; omega⟩, fun p p0 p1 => ?_, h1⟩
  have g := hr p p0 p1
  unfold dgI rkI
  rw [Int.toNat_natCast, ← dgL_get (by omega), h3, lsF_get (by omega), show ((p.toNat : Nat) : Int) = p by omega]
  omega
theorem dgL_len (m u n : Nat) : ∀ k : Nat, (dgL m u n k).length = k
  | 0 => rfl
  | k + 1 => by rw [dgL, List.length_cons, dgL_len m _ _ k]
theorem lsF_dg {m : Nat} {n : Int} : lsF m (dgI m n) = dgL m 0 n.toNat m := by
  apply List.ext_getElem
  · rw [lsF_len, dgL_len]
  · intro p h1 h2
    rw [lsF_len] at h1
    have a := lsF_get (m := m) (p := p) (f := dgI m n) h1
    have b := dgL_get (m := m) (n := n.toNat) (p := p) h1
    rw [List.getD_eq_getElem?_getD, List.getElem?_eq_getElem (by rw [lsF_len]; exact h1)] at a
    rw [List.getD_eq_getElem?_getD, List.getElem?_eq_getElem h2] at b
    show _ = _
    have e1 : (lsF m (dgI m n))[p] = (dgI m n (p : Int)).toNat := a
    have e2 : (dgL m 0 n.toNat m)[p] = dgE m n.toNat p := b
    rw [e1, e2]
    unfold dgI
    rw [Int.toNat_natCast, Int.toNat_natCast]
theorem dg_ok {m : Nat} (hm : m < 7) {n : Int} (n0 : 0 ≤ n) (n1 : n < fct m) : (∀ p, 0 ≤ p → p < (m : Int) → 0 ≤ dgI m n p ∧ dgI m n p < m) ∧ injF (dgI m n) m ∧ rkI m (dgI m n) = n := by
  have h := List.all_eq_true.mp (chq_all m hm) n.toNat (List.mem_range.mpr (by omega))
  unfold chkQ at h
  rw [Bool.and_eq_true, Bool.and_eq_true, beq_iff_eq, decide_eq_true_eq, List.all_eq_true, ← lsF_dg] at h
  obtain ⟨⟨h1, h2⟩, h3⟩ := h
  refine ⟨fun p p0 p1 => ⟨Int.natCast_nonneg _, ?_⟩, fun p q p0 pq q1 e => ?_, by unfold rkI; omega⟩
  · have := of_decide_eq_true (h1 ((dgI m n p).toNat) (by
      unfold lsF
      exact List.mem_map.mpr ⟨p.toNat, List.mem_range.mpr (by omega), by rw [show ((p.toNat : Nat) : Int) = p by omega]⟩))
    have g : 0 ≤ dgI m n p := Int.natCast_nonneg _
    omega
  · unfold lsF List.Nodup at h2
    rw [List.pairwise_map] at h2
    have h4 := List.pairwise_iff_getElem.mp h2 p.toNat q.toNat (by rw [List.length_range]; omega) (by rw [List.length_range]; omega) (by omega)
    rw [List.getElem_range, List.getElem_range, show ((p.toNat : Nat) : Int) = p by omega, show ((q.toNat : Nat) : Int) = q by omega, e] at h4
    exact h4 rfl
theorem rkI_congr {m : Nat} {f g : Int → Int} (h : ∀ p, 0 ≤ p → p < (m : Int) → f p = g p) : rkI m f = rkI m g := by
  have : lsF m f = lsF m g := by
    unfold lsF
    apply List.map_congr_left
    intro p hp
    have := List.mem_range.mp hp
    rw [h p (by omega) (by omega)]
  unfold rkI
  rw [this]
/-- the model's way to the number -/
def rkV (m : Nat) (f : Int → Int) : Nat → Nat
  | 0 => 0
  | p + 1 => rkV m f p * (m - p) + (((lsF m f).drop (p + 1)).filter (fun y => decide (y < (f p).toNat))).length
theorem lsF_drop {m p : Nat} {f : Int → Int} (h : p < m) : (lsF m f).drop p = (f p).toNat :: (lsF m f).drop (p + 1) := by
  have hl : p < (lsF m f).length := by rw [lsF_len]; exact h
  rw [List.drop_eq_getElem_cons hl]
  have a := lsF_get (m := m) (p := p) (f := f) h
  rw [List.getD_eq_getElem?_getD, List.getElem?_eq_getElem hl] at a
  have e1 : (lsF m f)[p] = (f p).toNat := a
  rw [e1]
theorem rkV_all {m : Nat} {f : Int → Int} : ∀ p : Nat, p ≤ m → rkH (rkV m f p) ((lsF m f).drop p) = rkH 0 (lsF m f)
  | 0, _ => by rw [List.drop_zero]; rfl
  | p + 1, h => by
    have ih := rkV_all (m := m) (f := f) p (by omega)
    rw [lsF_drop (by omega), rkH, List.length_drop, lsF_len, show m - (p + 1) + 1 = m - p by omega] at ih
    rw [← ih, rkV]
theorem rkV_end {m : Nat} {f : Int → Int} : ((rkV m f m : Nat) : Int) = rkI m f := by
  have := rkV_all (m := m) (f := f) m (Nat.le_refl m)
  rw [List.drop_eq_nil_of_le (by rw [lsF_len]; exact Nat.le_refl m), rkH] at this
  unfold rkI
  rw [this]
/-- how many of the k behind p are lower -/
def loN (f : Int → Int) (p : Int) : Nat → Int
  | 0 => 0
  | k + 1 => loN f p k + (if f (p + 1 + k) < f p then 1 else 0)
theorem loN_r (f : Int → Int) (p : Int) : ∀ k : Nat, 0 ≤ loN f p k ∧ loN f p k ≤ k
  | 0 => ⟨Int.le_refl 0, Int.le_refl 0⟩
  | k + 1 => by
    have := loN_r f p k
    unfold loN
    split <;> omega
theorem lsF_drop_map {m p : Nat} {f : Int → Int} : (lsF m f).drop (p + 1) = (List.range (m - (p + 1))).map (fun k : Nat => (f ((p : Int) + 1 + k)).toNat) := by
  apply List.ext_getElem
  · rw [List.length_drop, lsF_len, List.length_map, List.length_range]
  · intro i h1 h2
    rw [List.getElem_drop, List.getElem_map, List.getElem_range]
    unfold lsF
    rw [List.getElem_map, List.getElem_range]
    congr 2
theorem loN_len {f : Int → Int} {p : Int} (h0 : 0 ≤ f p) : ∀ k : Nat, (∀ j : Nat, j < k → 0 ≤ f (p + 1 + j)) → (((((List.range k).map (fun j : Nat => (f (p + 1 + j)).toNat)).filter (fun y => decide (y < (f p).toNat))).length : Nat) : Int) = loN f p k
  | 0, _ => rfl
  | k + 1, h => by
    have ih := loN_len h0 k (fun j hj => h j (by omega))
    have g := h k (by omega)
    rw [List.range_succ, List.map_append, List.filter_append, List.length_append, loN, ← ih]
    have e : ((List.filter (fun y => decide (y < (f p).toNat)) (List.map (fun j : Nat => (f (p + 1 + j)).toNat) [k])).length : Nat) = if f (p + 1 + k) < f p then 1 else 0 := by
      show (List.filter _ [(f (p + 1 + k)).toNat]).length = _
      by_cases c : f (p + 1 + k) < f p
      · rw [if_pos c, List.filter_cons_of_pos (by simp only [decide_eq_true_eq]; omega)]
        rfl
      · rw [if_neg c, List.filter_cons_of_neg (by simp only [decide_eq_true_eq]; omega)]
        rfl
    rw [e]
    split <;> omega
theorem rkV_s {m : Nat} {f : Int → Int} (hr : ∀ p, 0 ≤ p → p < (m : Int) → 0 ≤ f p) {p : Int} (p0 : 0 ≤ p) (p1 : p < m) : ((rkV m f (p + 1).toNat : Nat) : Int) = ((rkV m f p.toNat : Nat) : Int) * (m - p) + loN f p (m - 1 - p).toNat := by
  have e : ((p.toNat : Nat) : Int) = p := by omega
  rw [show (p + 1).toNat = p.toNat + 1 by omega, rkV, lsF_drop_map, e]
  rw [← loN_len (hr p p0 p1) (m - 1 - p).toNat (fun j hj => hr _ (by omega) (by omega)), show m - (p.toNat + 1) = ((m : Int) - 1 - p).toNat by omega]
  rw [Int.natCast_add, Int.natCast_mul, show (((m - p.toNat : Nat)) : Int) = m - p by omega]
/-- bits counted -/
theorem cnN_I (x : Nat) : ∀ n : Nat, cntb (x : Int) n = ((cnN x n : Nat) : Int)
  | 0 => rfl
  | n + 1 => by
    rw [cntb, cnN, cnN_I x n, p2c, dvc]
    norm_cast
theorem popI_N {x : Int} (h : 0 ≤ x) : popI x = ((cnN x.toNat 10 : Nat) : Int) := by
  obtain ⟨n, rfl⟩ := Int.eq_ofNat_of_zero_le h
  exact cnN_I n 10
theorem popI_len {S : Int} (h0 : 0 ≤ S) (h1 : S < 1024) : popI S = (((blN S.toNat 10).length : Nat) : Int) := by
  rw [popI_N h0, bl_cnt S.toNat (by omega)]
theorem bl_mono {S : Nat} {n p q : Nat} (hpq : p < q) (hq : q < (blN S n).length) : (blN S n).getD p 0 < (blN S n).getD q 0 := by
  have h : (blN S n).Pairwise (· < ·) := List.Pairwise.filter _ List.pairwise_lt_range
  have := List.pairwise_iff_getElem.mp h p q (by omega) hq hpq
  rw [List.getD_eq_getElem?_getD, List.getD_eq_getElem?_getD, List.getElem?_eq_getElem (by omega), List.getElem?_eq_getElem hq]
  exact this
theorem bl_mem {S : Nat} {n p : Nat} (hp : p < (blN S n).length) : (blN S n).getD p 0 < n ∧ S / 2 ^ (blN S n).getD p 0 % 2 = 1 := by
  have e : (blN S n).getD p 0 = (blN S n)[p] := by
    rw [List.getD_eq_getElem?_getD, List.getElem?_eq_getElem hp]
    rfl
  have hm : (blN S n)[p] ∈ blN S n := List.getElem_mem hp
  rw [e]
  unfold blN at hm ⊢
  have := List.mem_filter.mp hm
  exact ⟨List.mem_range.mp this.1, by simpa using this.2⟩
