/-! The library's constructor. -/
def lb_S (L v : Nat) : Prop := mm_SH L 584 v = (5, 8, [v + 4, v + 8, v + 9, v + 10, 0, 0, 0, 0]) ∧ mm_SH L 584 (v + 1) = (103, 3, [v + 5, v + 6, v + 7]) ∧ (∀ j, j < 3 → mm_SH L 584 (v + 2 + j) = (100, 10, [])) ∧ mm_SH L 584 (v + 5) = (100, 3, []) ∧ mm_SH L 584 (v + 6) = (100, 10, []) ∧ mm_SH L 584 (v + 7) = (100, 60, []) ∧ (mm_G0 v = fun k => if k = 7 then 31 else 0) ∧ (∀ j, j < 4 → mm_G0 (v + 1 + j) = fun _ => 0) ∧ (mm_G0 (v + 5) = fun _ => 0) ∧ (mm_G0 (v + 6) = fun k => if k < 10 then 3 else 0) ∧ (mm_G0 (v + 7) = fun _ => 0)
def lb_T (L v : Nat) : Prop := mm_SH L 584 v = (6, 8, [v + 4, v + 5, v + 6, v + 7, v + 8, 0, 0, 0]) ∧ mm_SH L 584 (v + 1) = (100, 24, []) ∧ mm_SH L 584 (v + 2) = (100, 72, []) ∧ mm_SH L 584 (v + 3) = (100, 300, []) ∧ mm_SH L 584 (v + 4) = (100, 8, []) ∧ mm_SH L 584 (v + 5) = (100, 8, []) ∧ (mm_G0 v = fun _ => 0) ∧ (mm_G0 (v + 1) = fun _ => 0) ∧ (mm_G0 (v + 2) = fun _ => 0) ∧ (mm_G0 (v + 3) = fun _ => 0) ∧ (mm_G0 (v + 4) = fun _ => 0) ∧ (mm_G0 (v + 5) = fun _ => 0)
def lb_F (L b : Nat) : Prop := (lb_S L (b + 1)) ∧ (∀ i, i < 30 → lb_S L (b + 24 + 8 * i)) ∧ (∀ i, i < 4 → lb_T L (b + 264 + 6 * i)) ∧ (mm_SH L 584 b = (1, 13, [b + 4, b + 12, b + 13, b + 14, b + 25, b + 26, 0, 0, 0, 0, 0, 0, 0])) ∧ (mm_SH L 584 (b + 9) = (104, 30, (List.range 30).map (fun j => b + 24 + 8 * j + 3))) ∧ (mm_SH L 584 (b + 10) = (100, 3, [])) ∧ (mm_SH L 584 (b + 11) = (103, 10, (List.range 10).map (fun j => b + 11 + 1 + j + 3))) ∧ (∀ j, j < 10 → mm_SH L 584 (b + 11 + 1 + j) = (100, 5, [])) ∧ (mm_SH L 584 (b + 22) = (105, 4, (List.range 4).map (fun j => b + 264 + 6 * j + 3))) ∧ (mm_SH L 584 (b + 23) = (100, 12, [])) ∧ (mm_G0 b = fun k => if k = 9 then 1 else if k = 11 then (-1) else 0) ∧ (mm_G0 (b + 9) = fun _ => 0) ∧ (mm_G0 (b + 10) = fun k => if k < 3 then 30 else 0) ∧ (∀ j, j < 11 → mm_G0 (b + 11 + j) = fun _ => 0) ∧ (mm_G0 (b + 22) = fun _ => 0) ∧ (mm_G0 (b + 23) = fun _ => 0)
theorem lb_f1 {L : Nat} : lb_F L 1 := by
  have hscs : ∀ i, i < 30 → lb_S L (1 + 24 + 8 * i) := fun i hi => match i, hi with
    | 0, _ => ⟨rfl, rfl, fun j hj => (match j, hj with | 0, _ => rfl | 1, _ => rfl | 2, _ => rfl), rfl, rfl, rfl, rfl, fun j hj => (match j, hj with | 0, _ => rfl | 1, _ => rfl | 2, _ => rfl | 3, _ => rfl), rfl, rfl, rfl⟩
    | 1, _ => ⟨rfl, rfl, fun j hj => (match j, hj with | 0, _ => rfl | 1, _ => rfl | 2, _ => rfl), rfl, rfl, rfl, rfl, fun j hj => (match j, hj with | 0, _ => rfl | 1, _ => rfl | 2, _ => rfl | 3, _ => rfl), rfl, rfl, rfl⟩
    | 2, _ => ⟨rfl, rfl, fun j hj => (match j, hj with | 0, _ => rfl | 1, _ => rfl | 2, _ => rfl), rfl, rfl, rfl, rfl, fun j hj => (match j, hj with | 0, _ => rfl | 1, _ => rfl | 2, _ => rfl | 3, _ => rfl), rfl, rfl, rfl⟩
    | 3, _ => ⟨rfl, rfl, fun j hj => (match j, hj with | 0, _ => rfl | 1, _ => rfl | 2, _ => rfl), rfl, rfl, rfl, rfl, fun j hj => (match j, hj with | 0, _ => rfl | 1, _ => rfl | 2, _ => rfl | 3, _ => rfl), rfl, rfl, rfl⟩
    | 4, _ => ⟨rfl, rfl, fun j hj => (match j, hj with | 0, _ => rfl | 1, _ => rfl | 2, _ => rfl), rfl, rfl, rfl, rfl, fun j hj => (match j, hj with | 0, _ => rfl | 1, _ => rfl | 2, _ => rfl | 3, _ => rfl), rfl, rfl, rfl⟩
    | 5, _ => ⟨rfl, rfl, fun j hj => (match j, hj with | 0, _ => rfl | 1, _ => rfl | 2, _ => rfl), rfl, rfl, rfl, rfl, fun j hj => (match j, hj with | 0, _ => rfl | 1, _ => rfl | 2, _ => rfl | 3, _ => rfl), rfl, rfl, rfl⟩
    | 6, _ => ⟨rfl, rfl, fun j hj => (match j, hj with | 0, _ => rfl | 1, _ => rfl | 2, _ => rfl), rfl, rfl, rfl, rfl, fun j hj => (match j, hj with | 0, _ => rfl | 1, _ => rfl | 2, _ => rfl | 3, _ => rfl), rfl, rfl, rfl⟩
    | 7, _ => ⟨rfl, rfl, fun j hj => (match j, hj with | 0, _ => rfl | 1, _ => rfl | 2, _ => rfl), rfl, rfl, rfl, rfl, fun j hj => (match j, hj with | 0, _ => rfl | 1, _ => rfl | 2, _ => rfl | 3, _ => rfl), rfl, rfl, rfl⟩
    | 8, _ => ⟨rfl, rfl, fun j hj => (match j, hj with | 0, _ => rfl | 1, _ => rfl | 2, _ => rfl), rfl, rfl, rfl, rfl, fun j hj => (match j, hj with | 0, _ => rfl | 1, _ => rfl | 2, _ => rfl | 3, _ => rfl), rfl, rfl, rfl⟩
    | 9, _ => ⟨rfl, rfl, fun j hj => (match j, hj with | 0, _ => rfl | 1, _ => rfl | 2, _ => rfl), rfl, rfl, rfl, rfl, fun j hj => (match j, hj with | 0, _ => rfl | 1, _ => rfl | 2, _ => rfl | 3, _ => rfl), rfl, rfl, rfl⟩
    | 10, _ => ⟨rfl, rfl, fun j hj => (match j, hj with | 0, _ => rfl | 1, _ => rfl | 2, _ => rfl), rfl, rfl, rfl, rfl, fun j hj => (match j, hj with | 0, _ => rfl | 1, _ => rfl | 2, _ => rfl | 3, _ => rfl), rfl, rfl, rfl⟩
    | 11, _ => ⟨rfl, rfl, fun j hj => (match j, hj with | 0, _ => rfl | 1, _ => rfl | 2, _ => rfl), rfl, rfl, rfl, rfl, fun j hj => (match j, hj with | 0, _ => rfl | 1, _ => rfl | 2, _ => rfl | 3, _ => rfl), rfl, rfl, rfl⟩
    | 12, _ => ⟨rfl, rfl, fun j hj => (match j, hj with | 0, _ => rfl | 1, _ => rfl | 2, _ => rfl), rfl, rfl, rfl, rfl, fun j hj => (match j, hj with | 0, _ => rfl | 1, _ => rfl | 2, _ => rfl | 3, _ => rfl), rfl, rfl, rfl⟩
    | 13, _ => ⟨rfl, rfl, fun j hj => (match j, hj with | 0, _ => rfl | 1, _ => rfl | 2, _ => rfl), rfl, rfl, rfl, rfl, fun j hj => (match j, hj with | 0, _ => rfl | 1, _ => rfl | 2, _ => rfl | 3, _ => rfl), rfl, rfl, rfl⟩
    | 14, _ => ⟨rfl, rfl, fun j hj => (match j, hj with | 0, _ => rfl | 1, _ => rfl | 2, _ => rfl), rfl, rfl, rfl, rfl, fun j hj => (match j, hj with | 0, _ => rfl | 1, _ => rfl | 2, _ => rfl | 3, _ => rfl), rfl, rfl, rfl⟩
    | 15, _ => ⟨rfl, rfl, fun j hj => (match j, hj with | 0, _ => rfl | 1, _ => rfl | 2, _ => rfl), rfl, rfl, rfl, rfl, fun j hj => (match j, hj with | 0, _ => rfl | 1, _ => rfl | 2, _ => rfl | 3, _ => rfl), rfl, rfl, rfl⟩
    | 16, _ => ⟨rfl, rfl, fun j hj => (match j, hj with | 0, _ => rfl | 1, _ => rfl | 2, _ => rfl), rfl, rfl, rfl, rfl, fun j hj => (match j, hj with | 0, _ => rfl | 1, _ => rfl | 2, _ => rfl | 3, _ => rfl), rfl, rfl, rfl⟩
    | 17, _ => ⟨rfl, rfl, fun j hj => (match j, hj with | 0, _ => rfl | 1, _ => rfl | 2, _ => rfl), rfl, rfl, rfl, rfl, fun j hj => (match j, hj with | 0, _ => rfl | 1, _ => rfl | 2, _ => rfl | 3, _ => rfl), rfl, rfl, rfl⟩
    | 18, _ => ⟨rfl, rfl, fun j hj => (match j, hj with | 0, _ => rfl | 1, _ => rfl | 2, _ => rfl), rfl, rfl, rfl, rfl, fun j hj => (match j, hj with | 0, _ => rfl | 1, _ => rfl | 2, _ => rfl | 3, _ => rfl), rfl, rfl, rfl⟩
    | 19, _ => ⟨rfl, rfl, fun j hj => (match j, hj with | 0, _ => rfl | 1, _ => rfl | 2, _ => rfl), rfl, rfl, rfl, rfl, fun j hj => (match j, hj with | 0, _ => rfl | 1, _ => rfl | 2, _ => rfl | 3, _ => rfl), rfl, rfl, rfl⟩
    | 20, _ => ⟨rfl, rfl, fun j hj => (match j, hj with | 0, _ => rfl | 1, _ => rfl | 2, _ => rfl), rfl, rfl, rfl, rfl, fun j hj => (match j, hj with | 0, _ => rfl | 1, _ => rfl | 2, _ => rfl | 3, _ => rfl), rfl, rfl, rfl⟩
    | 21, _ => ⟨rfl, rfl, fun j hj => (match j, hj with | 0, _ => rfl | 1, _ => rfl | 2, _ => rfl), rfl, rfl, rfl, rfl, fun j hj => (match j, hj with | 0, _ => rfl | 1, _ => rfl | 2, _ => rfl | 3, _ => rfl), rfl, rfl, rfl⟩
    | 22, _ => ⟨rfl, rfl, fun j hj => (match j, hj with | 0, _ => rfl | 1, _ => rfl | 2, _ => rfl), rfl, rfl, rfl, rfl, fun j hj => (match j, hj with | 0, _ => rfl | 1, _ => rfl | 2, _ => rfl | 3, _ => rfl), rfl, rfl, rfl⟩
    | 23, _ => ⟨rfl, rfl, fun j hj => (match j, hj with | 0, _ => rfl | 1, _ => rfl | 2, _ => rfl), rfl, rfl, rfl, rfl, fun j hj => (match j, hj with | 0, _ => rfl | 1, _ => rfl | 2, _ => rfl | 3, _ => rfl), rfl, rfl, rfl⟩
    | 24, _ => ⟨rfl, rfl, fun j hj => (match j, hj with | 0, _ => rfl | 1, _ => rfl | 2, _ => rfl), rfl, rfl, rfl, rfl, fun j hj => (match j, hj with | 0, _ => rfl | 1, _ => rfl | 2, _ => rfl | 3, _ => rfl), rfl, rfl, rfl⟩
    | 25, _ => ⟨rfl, rfl, fun j hj => (match j, hj with | 0, _ => rfl | 1, _ => rfl | 2, _ => rfl), rfl, rfl, rfl, rfl, fun j hj => (match j, hj with | 0, _ => rfl | 1, _ => rfl | 2, _ => rfl | 3, _ => rfl), rfl, rfl, rfl⟩
    | 26, _ => ⟨rfl, rfl, fun j hj => (match j, hj with | 0, _ => rfl | 1, _ => rfl | 2, _ => rfl), rfl, rfl, rfl, rfl, fun j hj => (match j, hj with | 0, _ => rfl | 1, _ => rfl | 2, _ => rfl | 3, _ => rfl), rfl, rfl, rfl⟩
    | 27, _ => ⟨rfl, rfl, fun j hj => (match j, hj with | 0, _ => rfl | 1, _ => rfl | 2, _ => rfl), rfl, rfl, rfl, rfl, fun j hj => (match j, hj with | 0, _ => rfl | 1, _ => rfl | 2, _ => rfl | 3, _ => rfl), rfl, rfl, rfl⟩
    | 28, _ => ⟨rfl, rfl, fun j hj => (match j, hj with | 0, _ => rfl | 1, _ => rfl | 2, _ => rfl), rfl, rfl, rfl, rfl, fun j hj => (match j, hj with | 0, _ => rfl | 1, _ => rfl | 2, _ => rfl | 3, _ => rfl), rfl, rfl, rfl⟩
    | 29, _ => ⟨rfl, rfl, fun j hj => (match j, hj with | 0, _ => rfl | 1, _ => rfl | 2, _ => rfl), rfl, rfl, rfl, rfl, fun j hj => (match j, hj with | 0, _ => rfl | 1, _ => rfl | 2, _ => rfl | 3, _ => rfl), rfl, rfl, rfl⟩
    | n + 30, h => absurd h (by omega)
  have htxs : ∀ i, i < 4 → lb_T L (1 + 264 + 6 * i) := fun i hi => match i, hi with
    | 0, _ => ⟨rfl, rfl, rfl, rfl, rfl, rfl, rfl, rfl, rfl, rfl, rfl, rfl⟩
    | 1, _ => ⟨rfl, rfl, rfl, rfl, rfl, rfl, rfl, rfl, rfl, rfl, rfl, rfl⟩
    | 2, _ => ⟨rfl, rfl, rfl, rfl, rfl, rfl, rfl, rfl, rfl, rfl, rfl, rfl⟩
    | 3, _ => ⟨rfl, rfl, rfl, rfl, rfl, rfl, rfl, rfl, rfl, rfl, rfl, rfl⟩
  have hk12 : ∀ j, j < 10 → mm_SH L 584 (1 + 11 + 1 + j) = (100, 5, []) := fun i hi => match i, hi with
    | 0, _ => rfl
    | 1, _ => rfl
    | 2, _ => rfl
    | 3, _ => rfl
    | 4, _ => rfl
    | 5, _ => rfl
    | 6, _ => rfl
    | 7, _ => rfl
    | 8, _ => rfl
    | 9, _ => rfl
  have hg11 : ∀ j, j < 11 → mm_G0 (1 + 11 + j) = fun _ => 0 := fun i hi => match i, hi with
    | 0, _ => rfl
    | 1, _ => rfl
    | 2, _ => rfl
    | 3, _ => rfl
    | 4, _ => rfl
    | 5, _ => rfl
    | 6, _ => rfl
    | 7, _ => rfl
    | 8, _ => rfl
    | 9, _ => rfl
    | 10, _ => rfl
  exact ⟨⟨rfl, rfl, fun j hj => (match j, hj with | 0, _ => rfl | 1, _ => rfl | 2, _ => rfl), rfl, rfl, rfl, rfl, fun j hj => (match j, hj with | 0, _ => rfl | 1, _ => rfl | 2, _ => rfl | 3, _ => rfl), rfl, rfl, rfl⟩, hscs, htxs, rfl, rfl, rfl, rfl, hk12, rfl, rfl, rfl, rfl, rfl, hg11, rfl, rfl⟩
theorem lb_f289 {L : Nat} : lb_F L 289 := by
  have hscs : ∀ i, i < 30 → lb_S L (289 + 24 + 8 * i) := fun i hi => match i, hi with
    | 0, _ => ⟨rfl, rfl, fun j hj => (match j, hj with | 0, _ => rfl | 1, _ => rfl | 2, _ => rfl), rfl, rfl, rfl, rfl, fun j hj => (match j, hj with | 0, _ => rfl | 1, _ => rfl | 2, _ => rfl | 3, _ => rfl), rfl, rfl, rfl⟩
    | 1, _ => ⟨rfl, rfl, fun j hj => (match j, hj with | 0, _ => rfl | 1, _ => rfl | 2, _ => rfl), rfl, rfl, rfl, rfl, fun j hj => (match j, hj with | 0, _ => rfl | 1, _ => rfl | 2, _ => rfl | 3, _ => rfl), rfl, rfl, rfl⟩
    | 2, _ => ⟨rfl, rfl, fun j hj => (match j, hj with | 0, _ => rfl | 1, _ => rfl | 2, _ => rfl), rfl, rfl, rfl, rfl, fun j hj => (match j, hj with | 0, _ => rfl | 1, _ => rfl | 2, _ => rfl | 3, _ => rfl), rfl, rfl, rfl⟩
    | 3, _ => ⟨rfl, rfl, fun j hj => (match j, hj with | 0, _ => rfl | 1, _ => rfl | 2, _ => rfl), rfl, rfl, rfl, rfl, fun j hj => (match j, hj with | 0, _ => rfl | 1, _ => rfl | 2, _ => rfl | 3, _ => rfl), rfl, rfl, rfl⟩
    | 4, _ => ⟨rfl, rfl, fun j hj => (match j, hj with | 0, _ => rfl | 1, _ => rfl | 2, _ => rfl), rfl, rfl, rfl, rfl, fun j hj => (match j, hj with | 0, _ => rfl | 1, _ => rfl | 2, _ => rfl | 3, _ => rfl), rfl, rfl, rfl⟩
    | 5, _ => ⟨rfl, rfl, fun j hj => (match j, hj with | 0, _ => rfl | 1, _ => rfl | 2, _ => rfl), rfl, rfl, rfl, rfl, fun j hj => (match j, hj with | 0, _ => rfl | 1, _ => rfl | 2, _ => rfl | 3, _ => rfl), rfl, rfl, rfl⟩
    | 6, _ => ⟨rfl, rfl, fun j hj => (match j, hj with | 0, _ => rfl | 1, _ => rfl | 2, _ => rfl), rfl, rfl, rfl, rfl, fun j hj => (match j, hj with | 0, _ => rfl | 1, _ => rfl | 2, _ => rfl | 3, _ => rfl), rfl, rfl, rfl⟩
    | 7, _ => ⟨rfl, rfl, fun j hj => (match j, hj with | 0, _ => rfl | 1, _ => rfl | 2, _ => rfl), rfl, rfl, rfl, rfl, fun j hj => (match j, hj with | 0, _ => rfl | 1, _ => rfl | 2, _ => rfl | 3, _ => rfl), rfl, rfl, rfl⟩
    | 8, _ => ⟨rfl, rfl, fun j hj => (match j, hj with | 0, _ => rfl | 1, _ => rfl | 2, _ => rfl), rfl, rfl, rfl, rfl, fun j hj => (match j, hj with | 0, _ => rfl | 1, _ => rfl | 2, _ => rfl | 3, _ => rfl), rfl, rfl, rfl⟩
    | 9, _ => ⟨rfl, rfl, fun j hj => (match j, hj with | 0, _ => rfl | 1, _ => rfl | 2, _ => rfl), rfl, rfl, rfl, rfl, fun j hj => (match j, hj with | 0, _ => rfl | 1, _ => rfl | 2, _ => rfl | 3, _ => rfl), rfl, rfl, rfl⟩
    | 10, _ => ⟨rfl, rfl, fun j hj => (match j, hj with | 0, _ => rfl | 1, _ => rfl | 2, _ => rfl), rfl, rfl, rfl, rfl, fun j hj => (match j, hj with | 0, _ => rfl | 1, _ => rfl | 2, _ => rfl | 3, _ => rfl), rfl, rfl, rfl⟩
    | 11, _ => ⟨rfl, rfl, fun j hj => (match j, hj with | 0, _ => rfl | 1, _ => rfl | 2, _ => rfl), rfl, rfl, rfl, rfl, fun j hj => (match j, hj with | 0, _ => rfl | 1, _ => rfl | 2, _ => rfl | 3, _ => rfl), rfl, rfl, rfl⟩
    | 12, _ => ⟨rfl, rfl, fun j hj => (match j, hj with | 0, _ => rfl | 1, _ => rfl | 2, _ => rfl), rfl, rfl, rfl, rfl, fun j hj => (match j, hj with | 0, _ => rfl | 1, _ => rfl | 2, _ => rfl | 3, _ => rfl), rfl, rfl, rfl⟩
    | 13, _ => ⟨rfl, rfl, fun j hj => (match j, hj with | 0, _ => rfl | 1, _ => rfl | 2, _ => rfl), rfl, rfl, rfl, rfl, fun j hj => (match j, hj with | 0, _ => rfl | 1, _ => rfl | 2, _ => rfl | 3, _ => rfl), rfl, rfl, rfl⟩
    | 14, _ => ⟨rfl, rfl, fun j hj => (match j, hj with | 0, _ => rfl | 1, _ => rfl | 2, _ => rfl), rfl, rfl, rfl, rfl, fun j hj => (match j, hj with | 0, _ => rfl | 1, _ => rfl | 2, _ => rfl | 3, _ => rfl), rfl, rfl, rfl⟩
    | 15, _ => ⟨rfl, rfl, fun j hj => (match j, hj with | 0, _ => rfl | 1, _ => rfl | 2, _ => rfl), rfl, rfl, rfl, rfl, fun j hj => (match j, hj with | 0, _ => rfl | 1, _ => rfl | 2, _ => rfl | 3, _ => rfl), rfl, rfl, rfl⟩
    | 16, _ => ⟨rfl, rfl, fun j hj => (match j, hj with | 0, _ => rfl | 1, _ => rfl | 2, _ => rfl), rfl, rfl, rfl, rfl, fun j hj => (match j, hj with | 0, _ => rfl | 1, _ => rfl | 2, _ => rfl | 3, _ => rfl), rfl, rfl, rfl⟩
    | 17, _ => ⟨rfl, rfl, fun j hj => (match j, hj with | 0, _ => rfl | 1, _ => rfl | 2, _ => rfl), rfl, rfl, rfl, rfl, fun j hj => (match j, hj with | 0, _ => rfl | 1, _ => rfl | 2, _ => rfl | 3, _ => rfl), rfl, rfl, rfl⟩
    | 18, _ => ⟨rfl, rfl, fun j hj => (match j, hj with | 0, _ => rfl | 1, _ => rfl | 2, _ => rfl), rfl, rfl, rfl, rfl, fun j hj => (match j, hj with | 0, _ => rfl | 1, _ => rfl | 2, _ => rfl | 3, _ => rfl), rfl, rfl, rfl⟩
    | 19, _ => ⟨rfl, rfl, fun j hj => (match j, hj with | 0, _ => rfl | 1, _ => rfl | 2, _ => rfl), rfl, rfl, rfl, rfl, fun j hj => (match j, hj with | 0, _ => rfl | 1, _ => rfl | 2, _ => rfl | 3, _ => rfl), rfl, rfl, rfl⟩
    | 20, _ => ⟨rfl, rfl, fun j hj => (match j, hj with | 0, _ => rfl | 1, _ => rfl | 2, _ => rfl), rfl, rfl, rfl, rfl, fun j hj => (match j, hj with | 0, _ => rfl | 1, _ => rfl | 2, _ => rfl | 3, _ => rfl), rfl, rfl, rfl⟩
    | 21, _ => ⟨rfl, rfl, fun j hj => (match j, hj with | 0, _ => rfl | 1, _ => rfl | 2, _ => rfl), rfl, rfl, rfl, rfl, fun j hj => (match j, hj with | 0, _ => rfl | 1, _ => rfl | 2, _ => rfl | 3, _ => rfl), rfl, rfl, rfl⟩
    | 22, _ => ⟨rfl, rfl, fun j hj => (match j, hj with | 0, _ => rfl | 1, _ => rfl | 2, _ => rfl), rfl, rfl, rfl, rfl, fun j hj => (match j, hj with | 0, _ => rfl | 1, _ => rfl | 2, _ => rfl | 3, _ => rfl), rfl, rfl, rfl⟩
    | 23, _ => ⟨rfl, rfl, fun j hj => (match j, hj with | 0, _ => rfl | 1, _ => rfl | 2, _ => rfl), rfl, rfl, rfl, rfl, fun j hj => (match j, hj with | 0, _ => rfl | 1, _ => rfl | 2, _ => rfl | 3, _ => rfl), rfl, rfl, rfl⟩
    | 24, _ => ⟨rfl, rfl, fun j hj => (match j, hj with | 0, _ => rfl | 1, _ => rfl | 2, _ => rfl), rfl, rfl, rfl, rfl, fun j hj => (match j, hj with | 0, _ => rfl | 1, _ => rfl | 2, _ => rfl | 3, _ => rfl), rfl, rfl, rfl⟩
    | 25, _ => ⟨rfl, rfl, fun j hj => (match j, hj with | 0, _ => rfl | 1, _ => rfl | 2, _ => rfl), rfl, rfl, rfl, rfl, fun j hj => (match j, hj with | 0, _ => rfl | 1, _ => rfl | 2, _ => rfl | 3, _ => rfl), rfl, rfl, rfl⟩
    | 26, _ => ⟨rfl, rfl, fun j hj => (match j, hj with | 0, _ => rfl | 1, _ => rfl | 2, _ => rfl), rfl, rfl, rfl, rfl, fun j hj => (match j, hj with | 0, _ => rfl | 1, _ => rfl | 2, _ => rfl | 3, _ => rfl), rfl, rfl, rfl⟩
    | 27, _ => ⟨rfl, rfl, fun j hj => (match j, hj with | 0, _ => rfl | 1, _ => rfl | 2, _ => rfl), rfl, rfl, rfl, rfl, fun j hj => (match j, hj with | 0, _ => rfl | 1, _ => rfl | 2, _ => rfl | 3, _ => rfl), rfl, rfl, rfl⟩
    | 28, _ => ⟨rfl, rfl, fun j hj => (match j, hj with | 0, _ => rfl | 1, _ => rfl | 2, _ => rfl), rfl, rfl, rfl, rfl, fun j hj => (match j, hj with | 0, _ => rfl | 1, _ => rfl | 2, _ => rfl | 3, _ => rfl), rfl, rfl, rfl⟩
    | 29, _ => ⟨rfl, rfl, fun j hj => (match j, hj with | 0, _ => rfl | 1, _ => rfl | 2, _ => rfl), rfl, rfl, rfl, rfl, fun j hj => (match j, hj with | 0, _ => rfl | 1, _ => rfl | 2, _ => rfl | 3, _ => rfl), rfl, rfl, rfl⟩
    | n + 30, h => absurd h (by omega)
  have htxs : ∀ i, i < 4 → lb_T L (289 + 264 + 6 * i) := fun i hi => match i, hi with
    | 0, _ => ⟨rfl, rfl, rfl, rfl, rfl, rfl, rfl, rfl, rfl, rfl, rfl, rfl⟩
    | 1, _ => ⟨rfl, rfl, rfl, rfl, rfl, rfl, rfl, rfl, rfl, rfl, rfl, rfl⟩
    | 2, _ => ⟨rfl, rfl, rfl, rfl, rfl, rfl, rfl, rfl, rfl, rfl, rfl, rfl⟩
    | 3, _ => ⟨rfl, rfl, rfl, rfl, rfl, rfl, rfl, rfl, rfl, rfl, rfl, rfl⟩
  have hk12 : ∀ j, j < 10 → mm_SH L 584 (289 + 11 + 1 + j) = (100, 5, []) := fun i hi => match i, hi with
    | 0, _ => rfl
    | 1, _ => rfl
    | 2, _ => rfl
    | 3, _ => rfl
    | 4, _ => rfl
    | 5, _ => rfl
    | 6, _ => rfl
    | 7, _ => rfl
    | 8, _ => rfl
    | 9, _ => rfl
  have hg11 : ∀ j, j < 11 → mm_G0 (289 + 11 + j) = fun _ => 0 := fun i hi => match i, hi with
    | 0, _ => rfl
    | 1, _ => rfl
    | 2, _ => rfl
    | 3, _ => rfl
    | 4, _ => rfl
    | 5, _ => rfl
    | 6, _ => rfl
    | 7, _ => rfl
    | 8, _ => rfl
    | 9, _ => rfl
    | 10, _ => rfl
  exact ⟨⟨rfl, rfl, fun j hj => (match j, hj with | 0, _ => rfl | 1, _ => rfl | 2, _ => rfl), rfl, rfl, rfl, rfl, fun j hj => (match j, hj with | 0, _ => rfl | 1, _ => rfl | 2, _ => rfl | 3, _ => rfl), rfl, rfl, rfl⟩, hscs, htxs, rfl, rfl, rfl, rfl, hk12, rfl, rfl, rfl, rfl, rfl, hg11, rfl, rfl⟩
theorem rg_set (f : Nat → Nat) (x i m : Nat) : ((List.range i).map f ++ List.replicate (m + 1) x).set i (f i) = (List.range (i + 1)).map f ++ List.replicate m x := by
  rw [List.set_append_right _ _ (by simp)]
  simp [List.range_succ, List.replicate_succ]
theorem sp_66S {d L : Nat} {xs : Nat → Int32} {o : List (Nat × mm_Kd)} {og : List (Nat × (Nat → Int32))} {b sl : Nat} (hb : b + 20 < 1000000) (h : lb_S L b) (ho : ∀ q ∈ o, q.1 < b) (hog : ∀ q ∈ og, q.1 < b) :
    mm_Ev mm_ct mm_CM (d + 1) 66 [.ref b] (zz L xs ((b, (5, 8, [2, 2, 2, 2, 0, 0, 0, 0])) :: o) ((b, fun _ => 0) :: og) (b + 1) sl) (none, zz L xs o og (b + 8) (sl + 106)) := by
  obtain ⟨h1, h2, h3, h4, h5, h6, h7, h8, h9, h10, h11⟩ := h
  exact sp_66 hb h1 h2 h3 h4 h5 h6 h7 h8 h9 h10 h11 ho hog
theorem sp_77T {d L : Nat} {xs : Nat → Int32} {o : List (Nat × mm_Kd)} {og : List (Nat × (Nat → Int32))} {b sl : Nat} (hb : b + 11 < 1000000) (h : lb_T L b) (ho : ∀ q ∈ o, q.1 < b) (hog : ∀ q ∈ og, q.1 < b) :
    mm_Ev mm_ct mm_CM (d + 1) 77 [.ref b] (zz L xs ((b, (6, 8, [2, 2, 2, 2, 2, 0, 0, 0])) :: o) ((b, fun _ => 0) :: og) (b + 1) sl) (none, zz L xs o og (b + 6) (sl + 412)) := by
  obtain ⟨h1, h2, h3, h4, h5, h6, h7, h8, h9, h10, h11, h12⟩ := h
  exact sp_77 hb h1 h2 h3 h4 h5 h6 h7 h8 h9 h10 h11 h12 ho hog
set_option maxHeartbeats 4000000 in
theorem sp_9 {d L : Nat} {xs : Nat → Int32} {o : List (Nat × mm_Kd)} {og : List (Nat × (Nat → Int32))} {b sl : Nat} (hb : b + 300 < 1000000) (F : lb_F L b) (ho : ∀ q ∈ o, q.1 < b) (hog : ∀ q ∈ og, q.1 < b) :
    mm_Ev mm_ct mm_CM (d + 2) 9 [.ref b] (zz L xs ((b, (1, 13, [2, 2, 2, 2, 2, 2, 0, 0, 0, 0, 0, 0, 0])) :: o) ((b, fun _ => 0) :: og) (b + 1) sl) (none, zz L xs o og (b + 288) (sl + 5323)) := by
  have hc : (mm_CM 9).2.2.2.2.2.2.2 = mm_cf cd_9 := by rw [cm_9]; rfl
  obtain ⟨Fsc, Fscs, Ftxs, Fk0, Fk9, Fk10, Fk11, Fk12, Fk22, Fk23, Fg0, Fg9, Fg10, Fg11, Fg22, Fg23⟩ := F
  refine ev_of (mx := 2) (by rw [cm_9]; decide) (by rw [cm_9]; rfl) (by show 1 ≤ _; decide) ?_
  show mm_wp _ _ (0, [some (.ref b), none], [], zz L xs ((b, (1, 13, [2, 2, 2, 2, 2, 2, 0, 0, 0, 0, 0, 0, 0])) :: o) ((b, fun _ => 0) :: og) (b + 1) sl) _
  refine wp_go hc 1 (z' := (1, [some (.ref b), none], [.ref b], zz L xs ((b, (1, 13, [2, 2, 2, 2, 2, 2, 0, 0, 0, 0, 0, 0, 0])) :: o) ((b, fun _ => 0) :: og) (b + 1) (sl))) rfl ?_
  refine wp_oi hc rfl (Nat.le_of_ble_eq_true rfl) ?_
  refine wp_go hc 1 (z' := (5, [some (.ref b), none], [.ref b], zz L xs ((b, (1, 13, [2, 2, 2, 2, 2, 2, 0, 0, 0, 0, 0, 0, 0])) :: o) ((b, fun _ => 0) :: og) (b + 1) (sl))) rfl ?_
  refine wp_new hc rfl (by show b + 1 < 1000000; omega) ?_
  rw [zz_al]
  show mm_wp _ _ (8, [some (.ref b), none], [.ref (b + 1), .ref b], zz L xs ((b + 1, (5, 8, [2, 2, 2, 2, 0, 0, 0, 0])) :: (b, (1, 13, [2, 2, 2, 2, 2, 2, 0, 0, 0, 0, 0, 0, 0])) :: o) ((b + 1, fun _ => 0) :: (b, fun _ => 0) :: og) (b + 2) (sl + 8)) _
  refine wp_go hc 1 (z' := (9, [some (.ref b), none], [.ref (b + 1), .ref (b + 1), .ref b], zz L xs ((b + 1, (5, 8, [2, 2, 2, 2, 0, 0, 0, 0])) :: (b, (1, 13, [2, 2, 2, 2, 2, 2, 0, 0, 0, 0, 0, 0, 0])) :: o) ((b + 1, fun _ => 0) :: (b, fun _ => 0) :: og) (b + 2) (sl + 8))) rfl ?_
  refine wp_ci (As := []) (b := b + 1) (r := [.ref (b + 1), .ref b]) hc rfl (by rw [cm_66]; rfl) rfl (Nat.le_of_ble_eq_true rfl) (ev_mono (sp_66S (d := 0) (b := b + 1) (by omega) Fsc (lt_c (by omega) (lt_m (by omega) ho)) (lt_c (by omega) (lt_m (by omega) hog))) (by omega)) ?_
  show mm_wp _ _ (12, [some (.ref b), none], [.ref (b + 1), .ref b], zz L xs ((b, (1, 13, [2, 2, 2, 2, 2, 2, 0, 0, 0, 0, 0, 0, 0])) :: o) ((b, fun _ => 0) :: og) (b + 9) (sl + 114)) _
  refine wq_pr [] hc rfl rfl (by omega) (by decide) (Nat.le_of_ble_eq_true rfl) (Nat.le_of_ble_eq_true rfl) ⟨rfl, rfl⟩ (fun _ => decide_eq_true (by rw [cm_9]; rfl)) ?_
  show mm_wp _ _ (15, [some (.ref b), none], [], zz L xs ((b, (1, 13, [b + 4, 2, 2, 2, 2, 2, 0, 0, 0, 0, 0, 0, 0])) :: o) ((b, fun _ => 0) :: og) (b + 9) (sl + 114)) _
  refine wp_go hc 2 (z' := (18, [some (.ref b), none], [.int 30, .ref b], zz L xs ((b, (1, 13, [b + 4, 2, 2, 2, 2, 2, 0, 0, 0, 0, 0, 0, 0])) :: o) ((b, fun _ => 0) :: og) (b + 9) (sl + 114))) rfl ?_
  refine wq_anw (N := 30) hc rfl rfl (by decide) (by omega) Fg9 (lk_c (by omega) (lk_none hog (by omega))) ?_
  show mm_wp _ _ (21, [some (.ref b), none], [.ref (b + 9), .ref b], zz L xs ((b + 9, (104, 30, List.replicate 30 2)) :: (b, (1, 13, [b + 4, 2, 2, 2, 2, 2, 0, 0, 0, 0, 0, 0, 0])) :: o) ((b, fun _ => 0) :: og) (b + 10) (sl + 144)) _
  refine wq_pr [(b + 9, (104, 30, List.replicate 30 2))] hc rfl (lk_c (by omega) rfl) (by omega) (by decide) (Nat.le_of_ble_eq_true rfl) (Nat.le_of_ble_eq_true rfl) ⟨rfl, rfl⟩ (fun _ => decide_eq_true (by rw [cm_9]; rfl)) ?_
  show mm_wp _ _ (24, [some (.ref b), none], [], zz L xs ((b + 9, (104, 30, List.replicate 30 2)) :: (b, (1, 13, [b + 4, b + 12, 2, 2, 2, 2, 0, 0, 0, 0, 0, 0, 0])) :: o) ((b, fun _ => 0) :: og) (b + 10) (sl + 144)) _
  refine wp_go hc 2 (z' := (26, [some (.ref b), none], [.int 3, .ref b], zz L xs ((b + 9, (104, 30, List.replicate 30 2)) :: (b, (1, 13, [b + 4, b + 12, 2, 2, 2, 2, 0, 0, 0, 0, 0, 0, 0])) :: o) ((b, fun _ => 0) :: og) (b + 10) (sl + 144))) rfl ?_
  refine wz_nwb (len := 3) hc rfl rfl (by decide) (by omega) (by decide) Fk10 (lk_c (by omega) (lk_c (by omega) (lk_none ho (by omega)))) ?_
  show mm_wp _ _ (28, [some (.ref b), none], [.ref (b + 10), .ref b], zz L xs ((b + 9, (104, 30, List.replicate 30 2)) :: (b, (1, 13, [b + 4, b + 12, 2, 2, 2, 2, 0, 0, 0, 0, 0, 0, 0])) :: o) ((b + 10, fun _ => 0) :: (b, fun _ => 0) :: og) (b + 11) (sl + 147)) _
  refine wq_pr [(b + 9, (104, 30, List.replicate 30 2))] hc rfl (lk_c (by omega) rfl) (by omega) (by decide) (Nat.le_of_ble_eq_true rfl) (Nat.le_of_ble_eq_true rfl) ⟨rfl, rfl⟩ (fun _ => decide_eq_true (by rw [cm_9]; rfl)) ?_
  show mm_wp _ _ (31, [some (.ref b), none], [], zz L xs ((b + 9, (104, 30, List.replicate 30 2)) :: (b, (1, 13, [b + 4, b + 12, b + 13, 2, 2, 2, 0, 0, 0, 0, 0, 0, 0])) :: o) ((b + 10, fun _ => 0) :: (b, fun _ => 0) :: og) (b + 11) (sl + 147)) _
  refine wp_go hc 3 (z' := (35, [some (.ref b), none], [.int 5, .int 10, .ref b], zz L xs ((b + 9, (104, 30, List.replicate 30 2)) :: (b, (1, 13, [b + 4, b + 12, b + 13, 2, 2, 2, 0, 0, 0, 0, 0, 0, 0])) :: o) ((b + 10, fun _ => 0) :: (b, fun _ => 0) :: og) (b + 11) (sl + 147))) rfl ?_
  refine wq_mn (N := 10) (K := 5) hc rfl rfl rfl (by decide) (by omega) Fk11 (fun j hj => Fk12 j hj) (fun j hj => Fg11 j hj) (fun j hj => lk_c (by omega) (lk_c (by omega) (lk_none ho (by omega)))) (fun j hj => lk_c (by omega) (lk_c (by omega) (lk_none hog (by omega)))) ?_
  show mm_wp _ _ (39, [some (.ref b), none], [.ref (b + 11), .ref b], zz L xs ((b + 9, (104, 30, List.replicate 30 2)) :: (b, (1, 13, [b + 4, b + 12, b + 13, 2, 2, 2, 0, 0, 0, 0, 0, 0, 0])) :: o) ((b + 10, fun _ => 0) :: (b, fun _ => 0) :: og) (b + 22) (sl + 207)) _
  refine wq_pr [(b + 9, (104, 30, List.replicate 30 2))] hc rfl (lk_c (by omega) rfl) (by omega) (by decide) (Nat.le_of_ble_eq_true rfl) (Nat.le_of_ble_eq_true rfl) ⟨rfl, rfl⟩ (fun _ => decide_eq_true (by rw [cm_9]; rfl)) ?_
  show mm_wp _ _ (42, [some (.ref b), none], [], zz L xs ((b + 9, (104, 30, List.replicate 30 2)) :: (b, (1, 13, [b + 4, b + 12, b + 13, b + 14, 2, 2, 0, 0, 0, 0, 0, 0, 0])) :: o) ((b + 10, fun _ => 0) :: (b, fun _ => 0) :: og) (b + 22) (sl + 207)) _
  refine wp_go hc 2 (z' := (44, [some (.ref b), none], [.int 4, .ref b], zz L xs ((b + 9, (104, 30, List.replicate 30 2)) :: (b, (1, 13, [b + 4, b + 12, b + 13, b + 14, 2, 2, 0, 0, 0, 0, 0, 0, 0])) :: o) ((b + 10, fun _ => 0) :: (b, fun _ => 0) :: og) (b + 22) (sl + 207))) rfl ?_
  refine wq_anw (N := 4) hc rfl rfl (by decide) (by omega) Fg22 (lk_c (by omega) (lk_c (by omega) (lk_none hog (by omega)))) ?_
  show mm_wp _ _ (47, [some (.ref b), none], [.ref (b + 22), .ref b], zz L xs ((b + 22, (105, 4, List.replicate 4 2)) :: (b + 9, (104, 30, List.replicate 30 2)) :: (b, (1, 13, [b + 4, b + 12, b + 13, b + 14, 2, 2, 0, 0, 0, 0, 0, 0, 0])) :: o) ((b + 10, fun _ => 0) :: (b, fun _ => 0) :: og) (b + 23) (sl + 211)) _
  refine wq_pr [(b + 22, (105, 4, List.replicate 4 2)), (b + 9, (104, 30, List.replicate 30 2))] hc rfl (lk_c (by omega) (lk_c (by omega) rfl)) (by omega) (by decide) (Nat.le_of_ble_eq_true rfl) (Nat.le_of_ble_eq_true rfl) ⟨rfl, rfl⟩ (fun _ => decide_eq_true (by rw [cm_9]; rfl)) ?_
  show mm_wp _ _ (50, [some (.ref b), none], [], zz L xs ((b + 22, (105, 4, List.replicate 4 2)) :: (b + 9, (104, 30, List.replicate 30 2)) :: (b, (1, 13, [b + 4, b + 12, b + 13, b + 14, b + 25, 2, 0, 0, 0, 0, 0, 0, 0])) :: o) ((b + 10, fun _ => 0) :: (b, fun _ => 0) :: og) (b + 23) (sl + 211)) _
  refine wp_go hc 2 (z' := (53, [some (.ref b), none], [.int 12, .ref b], zz L xs ((b + 22, (105, 4, List.replicate 4 2)) :: (b + 9, (104, 30, List.replicate 30 2)) :: (b, (1, 13, [b + 4, b + 12, b + 13, b + 14, b + 25, 2, 0, 0, 0, 0, 0, 0, 0])) :: o) ((b + 10, fun _ => 0) :: (b, fun _ => 0) :: og) (b + 23) (sl + 211))) rfl ?_
  refine wz_nwa (len := 12) hc rfl rfl (by decide) (by omega) (by decide) Fk23 Fg23 (lk_c (by omega) (lk_c (by omega) (lk_c (by omega) (lk_none ho (by omega))))) (lk_c (by omega) (lk_c (by omega) (lk_none hog (by omega)))) ?_
  show mm_wp _ _ (55, [some (.ref b), none], [.ref (b + 23), .ref b], zz L xs ((b + 22, (105, 4, List.replicate 4 2)) :: (b + 9, (104, 30, List.replicate 30 2)) :: (b, (1, 13, [b + 4, b + 12, b + 13, b + 14, b + 25, 2, 0, 0, 0, 0, 0, 0, 0])) :: o) ((b + 10, fun _ => 0) :: (b, fun _ => 0) :: og) (b + 24) (sl + 223)) _
  refine wq_pr [(b + 22, (105, 4, List.replicate 4 2)), (b + 9, (104, 30, List.replicate 30 2))] hc rfl (lk_c (by omega) (lk_c (by omega) rfl)) (by omega) (by decide) (Nat.le_of_ble_eq_true rfl) (Nat.le_of_ble_eq_true rfl) ⟨rfl, rfl⟩ (fun _ => decide_eq_true (by rw [cm_9]; rfl)) ?_
  show mm_wp _ _ (58, [some (.ref b), none], [], zz L xs ((b + 22, (105, 4, List.replicate 4 2)) :: (b + 9, (104, 30, List.replicate 30 2)) :: (b, (1, 13, [b + 4, b + 12, b + 13, b + 14, b + 25, b + 26, 0, 0, 0, 0, 0, 0, 0])) :: o) ((b + 10, fun _ => 0) :: (b, fun _ => 0) :: og) (b + 24) (sl + 223)) _
  refine wp_go hc 2 (z' := (60, [some (.ref b), none], [.int 1, .ref b], zz L xs ((b + 22, (105, 4, List.replicate 4 2)) :: (b + 9, (104, 30, List.replicate 30 2)) :: (b, (1, 13, [b + 4, b + 12, b + 13, b + 14, b + 25, b + 26, 0, 0, 0, 0, 0, 0, 0])) :: o) ((b + 10, fun _ => 0) :: (b, fun _ => 0) :: og) (b + 24) (sl + 223))) rfl ?_
  refine wq_pi [(b + 22, (105, 4, List.replicate 4 2)), (b + 9, (104, 30, List.replicate 30 2))] [(b + 10, fun _ => 0)] hc rfl (lk_c (by omega) (lk_c (by omega) rfl)) (lk_c (by omega) rfl) (by omega) (by decide) (Nat.le_of_ble_eq_true rfl) rfl ⟨rfl, rfl⟩ (fun _ => decide_eq_true (by rw [cm_9]; rfl)) ?_
  show mm_wp _ _ (63, [some (.ref b), none], [], zz L xs ((b + 22, (105, 4, List.replicate 4 2)) :: (b + 9, (104, 30, List.replicate 30 2)) :: (b, (1, 13, [b + 4, b + 12, b + 13, b + 14, b + 25, b + 26, 0, 0, 0, 0, 0, 0, 0])) :: o) ((b + 10, fun _ => 0) :: (b, fun j => if j = 9 then 1 else 0) :: og) (b + 24) (sl + 223)) _
  refine wp_go hc 2 (z' := (65, [some (.ref b), none], [.int (-1), .ref b], zz L xs ((b + 22, (105, 4, List.replicate 4 2)) :: (b + 9, (104, 30, List.replicate 30 2)) :: (b, (1, 13, [b + 4, b + 12, b + 13, b + 14, b + 25, b + 26, 0, 0, 0, 0, 0, 0, 0])) :: o) ((b + 10, fun _ => 0) :: (b, fun j => if j = 9 then 1 else 0) :: og) (b + 24) (sl + 223))) rfl ?_
  refine wq_pi [(b + 22, (105, 4, List.replicate 4 2)), (b + 9, (104, 30, List.replicate 30 2))] [(b + 10, fun _ => 0)] hc rfl (lk_c (by omega) (lk_c (by omega) rfl)) (lk_c (by omega) rfl) (by omega) (by decide) (Nat.le_of_ble_eq_true rfl) rfl ⟨rfl, rfl⟩ (fun _ => decide_eq_true (by rw [cm_9]; rfl)) ?_
  show mm_wp _ _ (68, [some (.ref b), none], [], zz L xs ((b + 22, (105, 4, List.replicate 4 2)) :: (b + 9, (104, 30, List.replicate 30 2)) :: (b, (1, 13, [b + 4, b + 12, b + 13, b + 14, b + 25, b + 26, 0, 0, 0, 0, 0, 0, 0])) :: o) ((b + 10, fun _ => 0) :: (b, fun j => if j = 11 then (-1) else if j = 9 then 1 else 0) :: og) (b + 24) (sl + 223)) _
  have eg0 : mm_G0 b = (fun j => if j = 11 then (-1 : Int32) else if j = 9 then 1 else 0) := by
    rw [Fg0]
    funext k
    by_cases h1 : k = 11
    · subst h1; rfl
    · by_cases h2 : k = 9
      · subst h2; rfl
      · simp [h1, h2]
  have loop3 : ∀ (m i : Nat), i + m = 4 → mm_wp (mm_Ev mm_ct mm_CM (d + 1)) 9 (118, [some (.ref b), some (.int (nI i))], [], zz L xs ((b + 22, (105, 4, (List.range i).map (fun j => b + 264 + 6 * j + 3) ++ List.replicate m 2)) :: (b, (1, 13, [b + 4, b + 12, b + 13, b + 14, b + 25, b + 26, 0, 0, 0, 0, 0, 0, 0])) :: o) ((b, fun j => if j = 11 then (-1) else if j = 9 then 1 else 0) :: og) (b + 264 + 6 * i) (sl + 3643 + 420 * i)) (fun r => r = (none, zz L xs o og (b + 288) (sl + 5323))) := by
    intro m
    induction m with
    | zero =>
      intro i hi
      have hi : i = 4 := by omega
      subst hi
      refine wp_go hc 3 (z' := if (4 : Int32) ≤ nI 4 then (142, [some (.ref b), some (.int (nI 4))], [], zz L xs ((b + 22, (105, 4, (List.range 4).map (fun j => b + 264 + 6 * j + 3) ++ List.replicate 0 2)) :: (b, (1, 13, [b + 4, b + 12, b + 13, b + 14, b + 25, b + 26, 0, 0, 0, 0, 0, 0, 0])) :: o) ((b, fun j => if j = 11 then (-1) else if j = 9 then 1 else 0) :: og) (b + 264 + 6 * 4) (sl + 3643 + 420 * 4)) else (123, [some (.ref b), some (.int (nI 4))], [], zz L xs ((b + 22, (105, 4, (List.range 4).map (fun j => b + 264 + 6 * j + 3) ++ List.replicate 0 2)) :: (b, (1, 13, [b + 4, b + 12, b + 13, b + 14, b + 25, b + 26, 0, 0, 0, 0, 0, 0, 0])) :: o) ((b, fun j => if j = 11 then (-1) else if j = 9 then 1 else 0) :: og) (b + 264 + 6 * 4) (sl + 3643 + 420 * 4))) rfl ?_
      rw [if_pos (by decide)]
      refine wp_rt (res := (none, zz L xs ((b + 22, (105, 4, (List.range 4).map (fun j => b + 264 + 6 * j + 3) ++ List.replicate 0 2)) :: (b, (1, 13, [b + 4, b + 12, b + 13, b + 14, b + 25, b + 26, 0, 0, 0, 0, 0, 0, 0])) :: o) ((b, fun j => if j = 11 then (-1) else if j = 9 then 1 else 0) :: og) (b + 264 + 6 * 4) (sl + 3643 + 420 * 4))) ⟨.return_, 1, 0, 0, by rw [hc]; rfl, rfl, rfl, rfl, by rw [cm_9]; rfl⟩ ?_
      have e22 : mm_SH L 584 (b + 22) = (105, 4, (List.range 4).map (fun j => b + 264 + 6 * j + 3) ++ List.replicate 0 2) := by rw [Fk22]; simp
      rw [zz, zz_s_dn e22 (by omega) (lk_c (by omega) (lk_none ho (by omega))), zz_s_dn Fk0 (by omega) (lk_none ho (by omega)), zz_g_dn eg0 (by omega) (lk_none hog (by omega))]
    | succ m ih =>
      intro i hi
      refine wp_go hc 3 (z' := if (4 : Int32) ≤ nI i then (142, [some (.ref b), some (.int (nI i))], [], zz L xs ((b + 22, (105, 4, (List.range i).map (fun j => b + 264 + 6 * j + 3) ++ List.replicate (m + 1) 2)) :: (b, (1, 13, [b + 4, b + 12, b + 13, b + 14, b + 25, b + 26, 0, 0, 0, 0, 0, 0, 0])) :: o) ((b, fun j => if j = 11 then (-1) else if j = 9 then 1 else 0) :: og) (b + 264 + 6 * i) (sl + 3643 + 420 * i)) else (123, [some (.ref b), some (.int (nI i))], [], zz L xs ((b + 22, (105, 4, (List.range i).map (fun j => b + 264 + 6 * j + 3) ++ List.replicate (m + 1) 2)) :: (b, (1, 13, [b + 4, b + 12, b + 13, b + 14, b + 25, b + 26, 0, 0, 0, 0, 0, 0, 0])) :: o) ((b, fun j => if j = 11 then (-1) else if j = 9 then 1 else 0) :: og) (b + 264 + 6 * i) (sl + 3643 + 420 * i))) rfl ?_
      have h10 : ¬ (4 : Int32) ≤ nI i := nI_ge (a := i) (b := 4) (by omega) (by decide)
      rw [if_neg h10]
      refine wp_go hc 1 (z' := (124, [some (.ref b), some (.int (nI i))], [.ref b], zz L xs ((b + 22, (105, 4, (List.range i).map (fun j => b + 264 + 6 * j + 3) ++ List.replicate (m + 1) 2)) :: (b, (1, 13, [b + 4, b + 12, b + 13, b + 14, b + 25, b + 26, 0, 0, 0, 0, 0, 0, 0])) :: o) ((b, fun j => if j = 11 then (-1) else if j = 9 then 1 else 0) :: og) (b + 264 + 6 * i) (sl + 3643 + 420 * i))) rfl ?_
      refine wp_gf hc rfl (zq_s_at (p := [(b + 22, (105, 4, (List.range i).map (fun j => b + 264 + 6 * j + 3) ++ List.replicate (m + 1) 2))]) (lk_c (by omega) rfl)) (by show b < b + 264 + 6 * i; omega) (by decide) (v := .ref (b + 22)) rfl ?_
      refine wp_go hc 1 (z' := (128, [some (.ref b), some (.int (nI i))], [.int (nI i), .ref (b + 22)], zz L xs ((b + 22, (105, 4, (List.range i).map (fun j => b + 264 + 6 * j + 3) ++ List.replicate (m + 1) 2)) :: (b, (1, 13, [b + 4, b + 12, b + 13, b + 14, b + 25, b + 26, 0, 0, 0, 0, 0, 0, 0])) :: o) ((b, fun j => if j = 11 then (-1) else if j = 9 then 1 else 0) :: og) (b + 264 + 6 * i) (sl + 3643 + 420 * i))) rfl ?_
      refine wp_new hc rfl (by show b + 264 + 6 * i < 1000000; omega) ?_
      rw [zz_al]
      show mm_wp _ _ (131, [some (.ref b), some (.int (nI i))], [.ref (b + 264 + 6 * i), .int (nI i), .ref (b + 22)], zz L xs ((b + 264 + 6 * i, (6, 8, [2, 2, 2, 2, 2, 0, 0, 0])) :: (b + 22, (105, 4, (List.range i).map (fun j => b + 264 + 6 * j + 3) ++ List.replicate (m + 1) 2)) :: (b, (1, 13, [b + 4, b + 12, b + 13, b + 14, b + 25, b + 26, 0, 0, 0, 0, 0, 0, 0])) :: o) ((b + 264 + 6 * i, fun _ => 0) :: (b, fun j => if j = 11 then (-1) else if j = 9 then 1 else 0) :: og) (b + 264 + 6 * i + 1) (sl + 3643 + 420 * i + 8)) _
      refine wp_go hc 1 (z' := (132, [some (.ref b), some (.int (nI i))], [.ref (b + 264 + 6 * i), .ref (b + 264 + 6 * i), .int (nI i), .ref (b + 22)], zz L xs ((b + 264 + 6 * i, (6, 8, [2, 2, 2, 2, 2, 0, 0, 0])) :: (b + 22, (105, 4, (List.range i).map (fun j => b + 264 + 6 * j + 3) ++ List.replicate (m + 1) 2)) :: (b, (1, 13, [b + 4, b + 12, b + 13, b + 14, b + 25, b + 26, 0, 0, 0, 0, 0, 0, 0])) :: o) ((b + 264 + 6 * i, fun _ => 0) :: (b, fun j => if j = 11 then (-1) else if j = 9 then 1 else 0) :: og) (b + 264 + 6 * i + 1) (sl + 3643 + 420 * i + 8))) rfl ?_
      refine wp_ci (As := []) (b := b + 264 + 6 * i) (r := [.ref (b + 264 + 6 * i), .int (nI i), .ref (b + 22)]) hc rfl (by rw [cm_77]; rfl) rfl (Nat.le_of_ble_eq_true rfl) (ev_mono (sp_77T (d := 0) (b := b + 264 + 6 * i) (by omega) (Ftxs i (by omega)) (lt_c (by omega) (lt_c (by omega) (lt_m (by omega) ho))) (lt_c (by omega) (lt_m (by omega) hog))) (by omega)) ?_
      show mm_wp _ _ (135, [some (.ref b), some (.int (nI i))], [.ref (b + 264 + 6 * i), .int (nI i), .ref (b + 22)], zz L xs ((b + 22, (105, 4, (List.range i).map (fun j => b + 264 + 6 * j + 3) ++ List.replicate (m + 1) 2)) :: (b, (1, 13, [b + 4, b + 12, b + 13, b + 14, b + 25, b + 26, 0, 0, 0, 0, 0, 0, 0])) :: o) ((b, fun j => if j = 11 then (-1) else if j = 9 then 1 else 0) :: og) (b + 264 + 6 * i + 6) (sl + 3643 + 420 * i + 8 + 412)) _
      refine wq_as (i := i) (N := 4) [] hc rfl rfl (by decide) (by decide) (by omega) rfl (by omega) (by decide) (by simp) (by omega) (by show (zz_s L (_ :: _ :: _) _ _).1 = _; rw [zz_s_tl (by omega), zz_s_tl (by omega), zz_s_lt (lk_none ho (by omega)) (by omega), (Ftxs i (by omega)).1]) ?_
      rw [rg_set (fun j => b + 264 + 6 * j + 3)]
      refine wp_go hc 2 (z' := (118, [some (.ref b), some (.int (nI i + 1))], [], zz L xs ((b + 22, (105, 4, (List.range (i + 1)).map (fun j => b + 264 + 6 * j + 3) ++ List.replicate m 2)) :: (b, (1, 13, [b + 4, b + 12, b + 13, b + 14, b + 25, b + 26, 0, 0, 0, 0, 0, 0, 0])) :: o) ((b, fun j => if j = 11 then (-1) else if j = 9 then 1 else 0) :: og) (b + 264 + 6 * i + 6) (sl + 3643 + 420 * i + 8 + 412))) rfl ?_
      rw [← nI_succ, show b + 264 + 6 * i + 6 = b + 264 + 6 * (i + 1) by omega, show sl + 3643 + 420 * i + 8 + 412 = sl + 3643 + 420 * (i + 1) by omega]
      exact ih (i + 1) (by omega)
  have loop2 : ∀ (m i : Nat), i + m = 3 → mm_wp (mm_Ev mm_ct mm_CM (d + 1)) 9 (97, [some (.ref b), some (.int (nI i))], [], zz L xs ((b + 22, (105, 4, List.replicate 4 2)) :: (b, (1, 13, [b + 4, b + 12, b + 13, b + 14, b + 25, b + 26, 0, 0, 0, 0, 0, 0, 0])) :: o) ((b + 10, fun j => if j < i then 30 else 0) :: (b, fun j => if j = 11 then (-1) else if j = 9 then 1 else 0) :: og) (b + 264) (sl + 3643)) (fun r => r = (none, zz L xs o og (b + 288) (sl + 5323))) := by
    intro m
    induction m with
    | zero =>
      intro i hi
      have hi : i = 3 := by omega
      subst hi
      refine wp_go hc 3 (z' := if (3 : Int32) ≤ nI 3 then (116, [some (.ref b), some (.int (nI 3))], [], zz L xs ((b + 22, (105, 4, List.replicate 4 2)) :: (b, (1, 13, [b + 4, b + 12, b + 13, b + 14, b + 25, b + 26, 0, 0, 0, 0, 0, 0, 0])) :: o) ((b + 10, fun j => if j < 3 then 30 else 0) :: (b, fun j => if j = 11 then (-1) else if j = 9 then 1 else 0) :: og) (b + 264) (sl + 3643)) else (102, [some (.ref b), some (.int (nI 3))], [], zz L xs ((b + 22, (105, 4, List.replicate 4 2)) :: (b, (1, 13, [b + 4, b + 12, b + 13, b + 14, b + 25, b + 26, 0, 0, 0, 0, 0, 0, 0])) :: o) ((b + 10, fun j => if j < 3 then 30 else 0) :: (b, fun j => if j = 11 then (-1) else if j = 9 then 1 else 0) :: og) (b + 264) (sl + 3643))) rfl ?_
      rw [if_pos (by decide)]
      rw [zz, zz_g_dn Fg10 (by omega) (lk_c (by omega) (lk_none hog (by omega)))]
      refine wp_go hc 2 (z' := (118, [some (.ref b), some (.int (nI 0))], [], zz L xs ((b + 22, (105, 4, List.replicate 4 2)) :: (b, (1, 13, [b + 4, b + 12, b + 13, b + 14, b + 25, b + 26, 0, 0, 0, 0, 0, 0, 0])) :: o) ((b, fun j => if j = 11 then (-1) else if j = 9 then 1 else 0) :: og) (b + 264) (sl + 3643))) rfl ?_
      exact loop3 4 0 rfl
    | succ m ih =>
      intro i hi
      refine wp_go hc 3 (z' := if (3 : Int32) ≤ nI i then (116, [some (.ref b), some (.int (nI i))], [], zz L xs ((b + 22, (105, 4, List.replicate 4 2)) :: (b, (1, 13, [b + 4, b + 12, b + 13, b + 14, b + 25, b + 26, 0, 0, 0, 0, 0, 0, 0])) :: o) ((b + 10, fun j => if j < i then 30 else 0) :: (b, fun j => if j = 11 then (-1) else if j = 9 then 1 else 0) :: og) (b + 264) (sl + 3643)) else (102, [some (.ref b), some (.int (nI i))], [], zz L xs ((b + 22, (105, 4, List.replicate 4 2)) :: (b, (1, 13, [b + 4, b + 12, b + 13, b + 14, b + 25, b + 26, 0, 0, 0, 0, 0, 0, 0])) :: o) ((b + 10, fun j => if j < i then 30 else 0) :: (b, fun j => if j = 11 then (-1) else if j = 9 then 1 else 0) :: og) (b + 264) (sl + 3643))) rfl ?_
      have h10 : ¬ (3 : Int32) ≤ nI i := nI_ge (a := i) (b := 3) (by omega) (by decide)
      rw [if_neg h10]
      refine wp_go hc 1 (z' := (103, [some (.ref b), some (.int (nI i))], [.ref b], zz L xs ((b + 22, (105, 4, List.replicate 4 2)) :: (b, (1, 13, [b + 4, b + 12, b + 13, b + 14, b + 25, b + 26, 0, 0, 0, 0, 0, 0, 0])) :: o) ((b + 10, fun j => if j < i then 30 else 0) :: (b, fun j => if j = 11 then (-1) else if j = 9 then 1 else 0) :: og) (b + 264) (sl + 3643))) rfl ?_
      refine wp_gf hc rfl (zq_s_at (p := [(b + 22, (105, 4, List.replicate 4 2))]) (lk_c (by omega) rfl)) (by show b < b + 264; omega) (by decide) (v := .ref (b + 10)) rfl ?_
      refine wp_go hc 2 (z' := (109, [some (.ref b), some (.int (nI i))], [.int 30, .int (nI i), .ref (b + 10)], zz L xs ((b + 22, (105, 4, List.replicate 4 2)) :: (b, (1, 13, [b + 4, b + 12, b + 13, b + 14, b + 25, b + 26, 0, 0, 0, 0, 0, 0, 0])) :: o) ((b + 10, fun j => if j < i then 30 else 0) :: (b, fun j => if j = 11 then (-1) else if j = 9 then 1 else 0) :: og) (b + 264) (sl + 3643))) rfl ?_
      refine wq_is (i := i) (len := 3) [] hc rfl rfl (by omega) (by rw [zz_s_tl (by omega), zz_s_tl (by omega), zz_s_lt (lk_none ho (by omega)) (by omega), Fk10]) rfl (by omega) (by decide) ?_
      refine wp_go hc 2 (z' := (97, [some (.ref b), some (.int (nI i + 1))], [], zz L xs ((b + 22, (105, 4, List.replicate 4 2)) :: (b, (1, 13, [b + 4, b + 12, b + 13, b + 14, b + 25, b + 26, 0, 0, 0, 0, 0, 0, 0])) :: o) ((b + 10, fun j => if j = i then 30 else (fun j => if j < i then 30 else 0) j) :: (b, fun j => if j = 11 then (-1) else if j = 9 then 1 else 0) :: og) (b + 264) (sl + 3643))) rfl ?_
      have e : (fun j => if j = i then (30 : Int32) else (fun j => if j < i then 30 else 0) j) = fun j => if j < i + 1 then 30 else 0 := by
        funext j
        by_cases h1 : j = i
        · subst h1; simp
        · have h2 : j < i + 1 ↔ j < i := by omega
          simp [h1, h2]
      rw [e, ← nI_succ]
      exact ih (i + 1) (by omega)
  have loop1 : ∀ (m i : Nat), i + m = 30 → mm_wp (mm_Ev mm_ct mm_CM (d + 1)) 9 (70, [some (.ref b), some (.int (nI i))], [], zz L xs ((b + 22, (105, 4, List.replicate 4 2)) :: (b + 9, (104, 30, (List.range i).map (fun j => b + 24 + 8 * j + 3) ++ List.replicate m 2)) :: (b, (1, 13, [b + 4, b + 12, b + 13, b + 14, b + 25, b + 26, 0, 0, 0, 0, 0, 0, 0])) :: o) ((b + 10, fun j => if j < 0 then 30 else 0) :: (b, fun j => if j = 11 then (-1) else if j = 9 then 1 else 0) :: og) (b + 24 + 8 * i) (sl + 223 + 114 * i)) (fun r => r = (none, zz L xs o og (b + 288) (sl + 5323))) := by
    intro m
    induction m with
    | zero =>
      intro i hi
      have hi : i = 30 := by omega
      subst hi
      refine wp_go hc 3 (z' := if (30 : Int32) ≤ nI 30 then (95, [some (.ref b), some (.int (nI 30))], [], zz L xs ((b + 22, (105, 4, List.replicate 4 2)) :: (b + 9, (104, 30, (List.range 30).map (fun j => b + 24 + 8 * j + 3) ++ List.replicate 0 2)) :: (b, (1, 13, [b + 4, b + 12, b + 13, b + 14, b + 25, b + 26, 0, 0, 0, 0, 0, 0, 0])) :: o) ((b + 10, fun j => if j < 0 then 30 else 0) :: (b, fun j => if j = 11 then (-1) else if j = 9 then 1 else 0) :: og) (b + 24 + 8 * 30) (sl + 223 + 114 * 30)) else (76, [some (.ref b), some (.int (nI 30))], [], zz L xs ((b + 22, (105, 4, List.replicate 4 2)) :: (b + 9, (104, 30, (List.range 30).map (fun j => b + 24 + 8 * j + 3) ++ List.replicate 0 2)) :: (b, (1, 13, [b + 4, b + 12, b + 13, b + 14, b + 25, b + 26, 0, 0, 0, 0, 0, 0, 0])) :: o) ((b + 10, fun j => if j < 0 then 30 else 0) :: (b, fun j => if j = 11 then (-1) else if j = 9 then 1 else 0) :: og) (b + 24 + 8 * 30) (sl + 223 + 114 * 30))) rfl ?_
      rw [if_pos (by decide)]
      have e9 : mm_SH L 584 (b + 9) = (104, 30, (List.range 30).map (fun j => b + 24 + 8 * j + 3) ++ List.replicate 0 2) := by rw [Fk9]; simp
      have e9b : zz_s L ((b + 22, (105, 4, List.replicate 4 2)) :: (b + 9, (104, 30, (List.range 30).map (fun j => b + 24 + 8 * j + 3) ++ List.replicate 0 2)) :: (b, (1, 13, [b + 4, b + 12, b + 13, b + 14, b + 25, b + 26, 0, 0, 0, 0, 0, 0, 0])) :: o) (b + 24 + 8 * 30) = zz_s L ((b + 22, (105, 4, List.replicate 4 2)) :: (b, (1, 13, [b + 4, b + 12, b + 13, b + 14, b + 25, b + 26, 0, 0, 0, 0, 0, 0, 0])) :: o) (b + 24 + 8 * 30) := zq_s_dn (p := [(b + 22, (105, 4, List.replicate 4 2))]) e9 (by omega) (lk_c (by omega) rfl) (lk_c (by omega) (lk_none ho (by omega)))
      rw [zz, e9b]
      refine wp_go hc 2 (z' := (97, [some (.ref b), some (.int (nI 0))], [], zz L xs ((b + 22, (105, 4, List.replicate 4 2)) :: (b, (1, 13, [b + 4, b + 12, b + 13, b + 14, b + 25, b + 26, 0, 0, 0, 0, 0, 0, 0])) :: o) ((b + 10, fun j => if j < 0 then 30 else 0) :: (b, fun j => if j = 11 then (-1) else if j = 9 then 1 else 0) :: og) (b + 264) (sl + 3643))) rfl ?_
      exact loop2 3 0 rfl
    | succ m ih =>
      intro i hi
      refine wp_go hc 3 (z' := if (30 : Int32) ≤ nI i then (95, [some (.ref b), some (.int (nI i))], [], zz L xs ((b + 22, (105, 4, List.replicate 4 2)) :: (b + 9, (104, 30, (List.range i).map (fun j => b + 24 + 8 * j + 3) ++ List.replicate (m + 1) 2)) :: (b, (1, 13, [b + 4, b + 12, b + 13, b + 14, b + 25, b + 26, 0, 0, 0, 0, 0, 0, 0])) :: o) ((b + 10, fun j => if j < 0 then 30 else 0) :: (b, fun j => if j = 11 then (-1) else if j = 9 then 1 else 0) :: og) (b + 24 + 8 * i) (sl + 223 + 114 * i)) else (76, [some (.ref b), some (.int (nI i))], [], zz L xs ((b + 22, (105, 4, List.replicate 4 2)) :: (b + 9, (104, 30, (List.range i).map (fun j => b + 24 + 8 * j + 3) ++ List.replicate (m + 1) 2)) :: (b, (1, 13, [b + 4, b + 12, b + 13, b + 14, b + 25, b + 26, 0, 0, 0, 0, 0, 0, 0])) :: o) ((b + 10, fun j => if j < 0 then 30 else 0) :: (b, fun j => if j = 11 then (-1) else if j = 9 then 1 else 0) :: og) (b + 24 + 8 * i) (sl + 223 + 114 * i))) rfl ?_
      have h10 : ¬ (30 : Int32) ≤ nI i := nI_ge (a := i) (b := 30) (by omega) (by decide)
      rw [if_neg h10]
      refine wp_go hc 1 (z' := (77, [some (.ref b), some (.int (nI i))], [.ref b], zz L xs ((b + 22, (105, 4, List.replicate 4 2)) :: (b + 9, (104, 30, (List.range i).map (fun j => b + 24 + 8 * j + 3) ++ List.replicate (m + 1) 2)) :: (b, (1, 13, [b + 4, b + 12, b + 13, b + 14, b + 25, b + 26, 0, 0, 0, 0, 0, 0, 0])) :: o) ((b + 10, fun j => if j < 0 then 30 else 0) :: (b, fun j => if j = 11 then (-1) else if j = 9 then 1 else 0) :: og) (b + 24 + 8 * i) (sl + 223 + 114 * i))) rfl ?_
      refine wp_gf hc rfl (zq_s_at (p := [(b + 22, (105, 4, List.replicate 4 2)), (b + 9, (104, 30, (List.range i).map (fun j => b + 24 + 8 * j + 3) ++ List.replicate (m + 1) 2))]) (lk_c (by omega) (lk_c (by omega) rfl))) (by show b < b + 24 + 8 * i; omega) (by decide) (v := .ref (b + 9)) rfl ?_
      refine wp_go hc 1 (z' := (81, [some (.ref b), some (.int (nI i))], [.int (nI i), .ref (b + 9)], zz L xs ((b + 22, (105, 4, List.replicate 4 2)) :: (b + 9, (104, 30, (List.range i).map (fun j => b + 24 + 8 * j + 3) ++ List.replicate (m + 1) 2)) :: (b, (1, 13, [b + 4, b + 12, b + 13, b + 14, b + 25, b + 26, 0, 0, 0, 0, 0, 0, 0])) :: o) ((b + 10, fun j => if j < 0 then 30 else 0) :: (b, fun j => if j = 11 then (-1) else if j = 9 then 1 else 0) :: og) (b + 24 + 8 * i) (sl + 223 + 114 * i))) rfl ?_
      refine wp_new hc rfl (by show b + 24 + 8 * i < 1000000; omega) ?_
      rw [zz_al]
      show mm_wp _ _ (84, [some (.ref b), some (.int (nI i))], [.ref (b + 24 + 8 * i), .int (nI i), .ref (b + 9)], zz L xs ((b + 24 + 8 * i, (5, 8, [2, 2, 2, 2, 0, 0, 0, 0])) :: (b + 22, (105, 4, List.replicate 4 2)) :: (b + 9, (104, 30, (List.range i).map (fun j => b + 24 + 8 * j + 3) ++ List.replicate (m + 1) 2)) :: (b, (1, 13, [b + 4, b + 12, b + 13, b + 14, b + 25, b + 26, 0, 0, 0, 0, 0, 0, 0])) :: o) ((b + 24 + 8 * i, fun _ => 0) :: (b + 10, fun j => if j < 0 then 30 else 0) :: (b, fun j => if j = 11 then (-1) else if j = 9 then 1 else 0) :: og) (b + 24 + 8 * i + 1) (sl + 223 + 114 * i + 8)) _
      refine wp_go hc 1 (z' := (85, [some (.ref b), some (.int (nI i))], [.ref (b + 24 + 8 * i), .ref (b + 24 + 8 * i), .int (nI i), .ref (b + 9)], zz L xs ((b + 24 + 8 * i, (5, 8, [2, 2, 2, 2, 0, 0, 0, 0])) :: (b + 22, (105, 4, List.replicate 4 2)) :: (b + 9, (104, 30, (List.range i).map (fun j => b + 24 + 8 * j + 3) ++ List.replicate (m + 1) 2)) :: (b, (1, 13, [b + 4, b + 12, b + 13, b + 14, b + 25, b + 26, 0, 0, 0, 0, 0, 0, 0])) :: o) ((b + 24 + 8 * i, fun _ => 0) :: (b + 10, fun j => if j < 0 then 30 else 0) :: (b, fun j => if j = 11 then (-1) else if j = 9 then 1 else 0) :: og) (b + 24 + 8 * i + 1) (sl + 223 + 114 * i + 8))) rfl ?_
      refine wp_ci (As := []) (b := b + 24 + 8 * i) (r := [.ref (b + 24 + 8 * i), .int (nI i), .ref (b + 9)]) hc rfl (by rw [cm_66]; rfl) rfl (Nat.le_of_ble_eq_true rfl) (ev_mono (sp_66S (d := 0) (b := b + 24 + 8 * i) (by omega) (Fscs i (by omega)) (lt_c (by omega) (lt_c (by omega) (lt_c (by omega) (lt_m (by omega) ho)))) (lt_c (by omega) (lt_c (by omega) (lt_m (by omega) hog)))) (by omega)) ?_
      show mm_wp _ _ (88, [some (.ref b), some (.int (nI i))], [.ref (b + 24 + 8 * i), .int (nI i), .ref (b + 9)], zz L xs ((b + 22, (105, 4, List.replicate 4 2)) :: (b + 9, (104, 30, (List.range i).map (fun j => b + 24 + 8 * j + 3) ++ List.replicate (m + 1) 2)) :: (b, (1, 13, [b + 4, b + 12, b + 13, b + 14, b + 25, b + 26, 0, 0, 0, 0, 0, 0, 0])) :: o) ((b + 10, fun j => if j < 0 then 30 else 0) :: (b, fun j => if j = 11 then (-1) else if j = 9 then 1 else 0) :: og) (b + 24 + 8 * i + 8) (sl + 223 + 114 * i + 8 + 106)) _
      refine wq_as (i := i) (N := 30) [(b + 22, (105, 4, List.replicate 4 2))] hc rfl (lk_c (by omega) rfl) (by decide) (by decide) (by omega) rfl (by omega) (by decide) (by simp) (by omega) (by show (zz_s L (_ :: _ :: _ :: _) _ _).1 = _; rw [zz_s_tl (by omega), zz_s_tl (by omega), zz_s_tl (by omega), zz_s_lt (lk_none ho (by omega)) (by omega), (Fscs i (by omega)).1]) ?_
      rw [rg_set (fun j => b + 24 + 8 * j + 3)]
      refine wp_go hc 2 (z' := (70, [some (.ref b), some (.int (nI i + 1))], [], zz L xs ((b + 22, (105, 4, List.replicate 4 2)) :: (b + 9, (104, 30, (List.range (i + 1)).map (fun j => b + 24 + 8 * j + 3) ++ List.replicate m 2)) :: (b, (1, 13, [b + 4, b + 12, b + 13, b + 14, b + 25, b + 26, 0, 0, 0, 0, 0, 0, 0])) :: o) ((b + 10, fun j => if j < 0 then 30 else 0) :: (b, fun j => if j = 11 then (-1) else if j = 9 then 1 else 0) :: og) (b + 24 + 8 * i + 8) (sl + 223 + 114 * i + 8 + 106))) rfl ?_
      rw [← nI_succ, show b + 24 + 8 * i + 8 = b + 24 + 8 * (i + 1) by omega, show sl + 223 + 114 * i + 8 + 106 = sl + 223 + 114 * (i + 1) by omega]
      exact ih (i + 1) (by omega)
  refine wp_go hc 2 (z' := (70, [some (.ref b), some (.int (nI 0))], [], zz L xs ((b + 22, (105, 4, List.replicate 4 2)) :: (b + 9, (104, 30, List.replicate 30 2)) :: (b, (1, 13, [b + 4, b + 12, b + 13, b + 14, b + 25, b + 26, 0, 0, 0, 0, 0, 0, 0])) :: o) ((b + 10, fun _ => 0) :: (b, fun j => if j = 11 then (-1) else if j = 9 then 1 else 0) :: og) (b + 24) (sl + 223))) rfl ?_
  have e0 : (fun _ => (0 : Int32)) = fun (j : Nat) => if j < 0 then (30 : Int32) else 0 := by
    funext j
    simp
  have := loop1 30 0 rfl
  rw [← e0] at this
  exact this
