/-! One machine for both: values and truths, each a stack; a code's typing by two counters. -/
/-- how many values stand after a step -/
def cN1 (o n : Int) : Int := if o ≤ 1 then n + 1 else if o = 2 then n else if o < 10 then n - 1 else if o < 20 then n - 2 else n
def cK1 (o k : Int) : Int := if o < 10 then k else if o < 20 then k + 1 else if o = 20 then k else k - 1
/-- the counters before the m-th step of a code that begins at i0 -/
def cNK (op : Int → Int) (i0 : Int) : Nat → Int × Int
  | 0 => (0, 0)
  | m + 1 => (cN1 (op (i0 + m)) (cNK op i0 m).1, cK1 (op (i0 + m)) (cNK op i0 m).2)
/-- a step that may stand where n values and k truths do -/
def okO (o v n k : Int) : Prop :=
  (o = 0 ∧ 0 ≤ v ∧ v ≤ 9999 ∧ n < 40) ∨ (o = 1 ∧ 0 ≤ v ∧ v < 15 ∧ n < 40) ∨ (o = 2 ∧ 1 ≤ n) ∨ (3 ≤ o ∧ o ≤ 6 ∧ 2 ≤ n) ∨ (10 ≤ o ∧ o ≤ 15 ∧ n = 2 ∧ k < 12) ∨ (o = 20 ∧ n = 0 ∧ 1 ≤ k) ∨ (21 ≤ o ∧ o ≤ 22 ∧ n = 0 ∧ 2 ≤ k)
def okC (op vl : Int → Int) (i0 : Int) (m : Nat) : Prop := ∀ j : Nat, j < m → okO (op (i0 + j)) (vl (i0 + j)) (cNK op i0 j).1 (cNK op i0 j).2
theorem okO_r {o v n k : Int} (h2 : okO o v n k) (h1 : 0 ≤ n ∧ n ≤ 40 ∧ 0 ≤ k ∧ k ≤ 12) : 0 ≤ cN1 o n ∧ cN1 o n ≤ 40 ∧ 0 ≤ cK1 o k ∧ cK1 o k ≤ 12 := by
  unfold okO at h2
  unfold cN1 cK1
  refine ⟨?_, ?_, ?_, ?_⟩ <;> (repeat' split) <;> omega
theorem okC_r {op vl : Int → Int} {i0 : Int} {m : Nat} (h : okC op vl i0 m) : ∀ j : Nat, j ≤ m → 0 ≤ (cNK op i0 j).1 ∧ (cNK op i0 j).1 ≤ 40 ∧ 0 ≤ (cNK op i0 j).2 ∧ (cNK op i0 j).2 ≤ 12 := by
  intro j
  induction j with
  | zero =>
    intro _
    show (0 : Int) ≤ 0 ∧ (0 : Int) ≤ 40 ∧ (0 : Int) ≤ 0 ∧ (0 : Int) ≤ 12
    omega
  | succ j ih =>
    intro hj
    exact okO_r (h j (by omega)) (ih (by omega))
/-- one step: values, truths -/
def vs1 (o v n : Int) (nm vs : Int → Int) : Int → Int := fun j =>
  if o = 0 then (if j = n then v else vs j)
  else if o = 1 then (if j = n then nm v else vs j)
  else if o = 2 then (if j = n - 1 then - vs (n - 1) else vs j)
  else if o < 10 then (if j = n - 2 then twoI o (vs (n - 2)) (vs (n - 1)) else vs j)
  else vs j
def ts1 (o n k : Int) (vs ts : Int → Int) : Int → Int := fun j =>
  if o < 10 then ts j
  else if o < 20 then (if j = k then bI (askB o (vs (n - 2)) (vs (n - 1)) = true) else ts j)
  else if o = 20 then (if j = k - 1 then 1 - ts (k - 1) else ts j)
  else if o = 21 then (if j = k - 2 then bI (ts (k - 2) = 1 ∧ ts (k - 1) = 1) else ts j)
  else (if j = k - 2 then bI (ts (k - 2) = 1 ∨ ts (k - 1) = 1) else ts j)
def vmR (op vl nm : Int → Int) (i0 : Int) : Nat → (Int → Int) × (Int → Int)
  | 0 => (fun _ => 0, fun _ => 0)
  | m + 1 => (vs1 (op (i0 + m)) (vl (i0 + m)) (cNK op i0 m).1 nm (vmR op vl nm i0 m).1, ts1 (op (i0 + m)) (cNK op i0 m).1 (cNK op i0 m).2 (vmR op vl nm i0 m).1 (vmR op vl nm i0 m).2)
theorem clip_r (v : Int) : -1000000 ≤ clipI v ∧ clipI v ≤ 1000000 := by
  unfold clipI
  (repeat' split) <;> omega
theorem two_r (o x y : Int) : -1000000 ≤ twoI o x y ∧ twoI o x y ≤ 1000000 := by
  unfold twoI
  split
  · exact clip_r _
  · split
    · exact clip_r _
    · split
      · exact clip_r _
      · split
        · omega
        · exact clip_r _
/-- what stands stays within bounds -/
theorem vmR_r {op vl nm : Int → Int} {i0 : Int} {m : Nat} (h : okC op vl i0 m) (hnm : ∀ j, 0 ≤ j → j < 15 → -1000000 ≤ nm j ∧ nm j ≤ 1000000) : ∀ q : Nat, q ≤ m → (∀ j, 0 ≤ j → -1000000 ≤ (vmR op vl nm i0 q).1 j ∧ (vmR op vl nm i0 q).1 j ≤ 1000000) ∧ (∀ j, 0 ≤ j → (vmR op vl nm i0 q).2 j = 0 ∨ (vmR op vl nm i0 q).2 j = 1) := by
  intro q
  induction q with
  | zero =>
    intro _
    refine ⟨fun j _ => ?_, fun j _ => Or.inl rfl⟩
    show (-1000000 : Int) ≤ 0 ∧ (0 : Int) ≤ 1000000
    omega
  | succ q ih =>
    intro hq
    obtain ⟨h1, h2⟩ := ih (by omega)
    have h3 := h q (by omega)
    have h4 := okC_r h q (by omega)
    obtain ⟨n, hn⟩ : ∃ n, n = (cNK op i0 q).1 := ⟨_, rfl⟩
    obtain ⟨k, hk⟩ : ∃ k, k = (cNK op i0 q).2 := ⟨_, rfl⟩
    obtain ⟨o, ho⟩ : ∃ o, o = op (i0 + q) := ⟨_, rfl⟩
    obtain ⟨v, hv⟩ : ∃ v, v = vl (i0 + q) := ⟨_, rfl⟩
    obtain ⟨vs, hvs⟩ : ∃ vs, vs = (vmR op vl nm i0 q).1 := ⟨_, rfl⟩
    obtain ⟨ts, hts⟩ : ∃ ts, ts = (vmR op vl nm i0 q).2 := ⟨_, rfl⟩
    show (∀ j, 0 ≤ j → -1000000 ≤ vs1 (op (i0 + q)) (vl (i0 + q)) (cNK op i0 q).1 nm (vmR op vl nm i0 q).1 j ∧ vs1 (op (i0 + q)) (vl (i0 + q)) (cNK op i0 q).1 nm (vmR op vl nm i0 q).1 j ≤ 1000000) ∧ (∀ j, 0 ≤ j → ts1 (op (i0 + q)) (cNK op i0 q).1 (cNK op i0 q).2 (vmR op vl nm i0 q).1 (vmR op vl nm i0 q).2 j = 0 ∨ ts1 (op (i0 + q)) (cNK op i0 q).1 (cNK op i0 q).2 (vmR op vl nm i0 q).1 (vmR op vl nm i0 q).2 j = 1)
    rw [← hn, ← hk, ← ho, ← hv, ← hvs, ← hts]
    rw [← hn, ← hk, ← ho, ← hv] at h3
    rw [← hn, ← hk] at h4
    rw [← hvs] at h1
    rw [← hts] at h2
    unfold okO at h3
    constructor
    · intro j hj
      have b1 := h1 j hj
      unfold vs1
      split
      · split <;> omega
      · split
        · split
          · exact hnm v (by omega) (by omega)
          · exact b1
        · split
          · have := h1 (n - 1) (by omega)
            split <;> omega
          · split
            · split
              · exact two_r _ _ _
              · exact b1
            · exact b1
    · intro j hj
      have b2 := h2 j hj
      unfold ts1
      split
      · exact b2
      · split
        · split
          · exact bI_01 _
          · exact b2
        · split
          · have := h2 (k - 1) (by omega)
            split <;> omega
          · split
            · split
              · exact bI_01 _
              · exact b2
            · split
              · exact bI_01 _
              · exact b2
