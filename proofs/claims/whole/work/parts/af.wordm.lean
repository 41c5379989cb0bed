/-! Words: looked up one after the other, and packed into one number. -/
def wKW : List (List Int) := [[98, 111, 111, 107], [104, 117, 101], [99, 114, 101, 101, 100], [116, 104, 105, 99, 107], [97, 117, 116, 104, 111, 114], [119, 101, 116], [114, 105, 103, 104, 116], [111, 116, 104, 101, 114], [111, 104, 117, 101], [111, 99, 114, 101, 101, 100], [111, 116, 104, 105, 99, 107], [111, 97, 117, 116, 104, 111, 114], [115, 104, 101, 108, 102], [112, 108, 97, 99, 101], [109, 97, 110, 121], [108, 97, 119], [102, 97, 108, 108, 115], [115, 119, 101, 108, 108], [110, 101, 101, 100], [110, 105, 103, 104, 116], [110, 117, 100, 103, 101], [116, 97, 107, 101], [112, 117, 116], [100, 114, 121], [97, 116], [111, 110], [111, 114], [97, 110, 100], [110, 111, 116]]
def wfI (f : Int → Int) (x y : Int) : List Int → Int → Int → Int → Int
  | [], wo, sa, al => if al = 1 ∧ sa = y - x + 1 then wo else 44
  | c :: cs, wo, sa, al => if c = 32 then (if al = 1 ∧ sa = y - x + 1 then wo else wfI f x y cs (wo + 1) 0 1) else wfI f x y cs wo (sa + 1) (if al = 1 ∧ x + sa ≤ y ∧ f (x + sa) = c then 1 else 0)
theorem wfR_I {f : Int → Int} {x y : Int} : ∀ (l : List Int32) (wo sa al : Int), wfR f x y l wo sa al = wfI f x y (l.map Int32.toInt) wo sa al
  | [], _, _, _ => rfl
  | c :: cs, wo, sa, al => by
    rw [List.map_cons, wfR, wfI, wfR_I cs, wfR_I cs]
def wMF (f : Int → Int) (x y : Int) : List Int → Int → Bool
  | [], sa => decide (sa = y - x + 1)
  | c :: w, sa => decide (x + sa ≤ y ∧ f (x + sa) = c) && wMF f x y w (sa + 1)
theorem wfI_w {f : Int → Int} {x y : Int} : ∀ (w : List Int) (rest : List Int) (wo sa al : Int), (∀ c ∈ w, c ≠ 32) → (al = 0 ∨ al = 1) → wfI f x y (w ++ 32 :: rest) wo sa al = if al = 1 ∧ wMF f x y w sa = true then wo else wfI f x y rest (wo + 1) 0 1
  | [], rest, wo, sa, al, _, _ => by
    rw [List.nil_append, wfI, if_pos rfl, wMF]
    by_cases q : al = 1 ∧ sa = y - x + 1
    · rw [if_pos q, if_pos ⟨q.1, decide_eq_true q.2⟩]
    · rw [if_neg q, if_neg (fun z => q ⟨z.1, of_decide_eq_true z.2⟩)]
  | c :: w, rest, wo, sa, al, hw, hal => by
    have hc : c ≠ 32 := hw c List.mem_cons_self
    rw [List.cons_append, wfI, if_neg hc, wfI_w w rest wo (sa + 1) _ (fun d hd => hw d (List.mem_cons_of_mem _ hd)) (by split; exact Or.inr rfl; exact Or.inl rfl), wMF]
    by_cases q : al = 1 ∧ x + sa ≤ y ∧ f (x + sa) = c
    · rw [if_pos q]
      by_cases q2 : wMF f x y w (sa + 1) = true
      · rw [if_pos ⟨rfl, q2⟩, if_pos ⟨q.1, by rw [decide_eq_true q.2, q2]; rfl⟩]
      · rw [if_neg (fun z => q2 z.2), if_neg (fun z => q2 (by have := z.2; rw [Bool.and_eq_true] at this; exact this.2))]
    · rw [if_neg q, if_neg (fun z => absurd z.1 (by decide)), if_neg (fun z => q ⟨z.1, by have := z.2; rw [Bool.and_eq_true] at this; exact of_decide_eq_true this.1⟩)]
theorem wfI_e {f : Int → Int} {x y : Int} : ∀ (w : List Int) (wo sa al : Int), (∀ c ∈ w, c ≠ 32) → (al = 0 ∨ al = 1) → wfI f x y w wo sa al = if al = 1 ∧ wMF f x y w sa = true then wo else 44
  | [], wo, sa, al, _, _ => by
    rw [wfI, wMF]
    by_cases q : al = 1 ∧ sa = y - x + 1
    · rw [if_pos q, if_pos ⟨q.1, decide_eq_true q.2⟩]
    · rw [if_neg q, if_neg (fun z => q ⟨z.1, of_decide_eq_true z.2⟩)]
  | c :: w, wo, sa, al, hw, hal => by
    have hc : c ≠ 32 := hw c List.mem_cons_self
    rw [wfI, if_neg hc, wfI_e w wo (sa + 1) _ (fun d hd => hw d (List.mem_cons_of_mem _ hd)) (by split; exact Or.inr rfl; exact Or.inl rfl), wMF]
    by_cases q : al = 1 ∧ x + sa ≤ y ∧ f (x + sa) = c
    · rw [if_pos q]
      by_cases q2 : wMF f x y w (sa + 1) = true
      · rw [if_pos ⟨rfl, q2⟩, if_pos ⟨q.1, by rw [decide_eq_true q.2, q2]; rfl⟩]
      · rw [if_neg (fun z => q2 z.2), if_neg (fun z => q2 (by have := z.2; rw [Bool.and_eq_true] at this; exact this.2))]
    · rw [if_neg q, if_neg (fun z => absurd z.1 (by decide)), if_neg (fun z => q ⟨z.1, by have := z.2; rw [Bool.and_eq_true] at this; exact of_decide_eq_true this.1⟩)]
def wIx (f : Int → Int) (x y : Int) : List (List Int) → Int → Int
  | [], _ => 44
  | w :: ws, k => if wMF f x y w 0 = true then k else wIx f x y ws (k + 1)
def wJn : List (List Int) → List Int
  | [] => []
  | [w] => w
  | w :: v :: ws => w ++ 32 :: wJn (v :: ws)
theorem wfI_jn {f : Int → Int} {x y : Int} : ∀ (v : List Int) (ws : List (List Int)) (k : Int), (∀ w ∈ v :: ws, ∀ c ∈ w, c ≠ 32) → wfI f x y (wJn (v :: ws)) k 0 1 = wIx f x y (v :: ws) k
  | v, [], k, h => by
    rw [wJn, wfI_e v k 0 1 (h v List.mem_cons_self) (Or.inr rfl), wIx, wIx]
    by_cases q : wMF f x y v 0 = true
    · rw [if_pos ⟨rfl, q⟩, if_pos q]
    · rw [if_neg (fun z => q z.2), if_neg q]
  | v, u :: ws, k, h => by
    rw [wJn, wfI_w v _ k 0 1 (h v List.mem_cons_self) (Or.inr rfl), wfI_jn u ws (k + 1) (fun w hw => h w (List.mem_cons_of_mem _ hw))]
    show _ = if wMF f x y v 0 = true then k else wIx f x y (u :: ws) (k + 1)
    by_cases q : wMF f x y v 0 = true
    · rw [if_pos ⟨rfl, q⟩, if_pos q]
    · rw [if_neg (fun z => q z.2), if_neg q]
theorem wKW_jn : mm_wl.map Int32.toInt = wJn wKW := by decide +kernel
theorem wKW_32 : ∀ w ∈ wKW, ∀ c ∈ w, c ≠ 32 := by decide
theorem wKW_nd : wKW.Nodup := by decide +kernel
theorem wKW_len : wKW.length = 29 := by decide
theorem wKW_b : ∀ w ∈ wKW, (∀ c ∈ w, 1 ≤ c ∧ c ≤ 255) ∧ w ≠ [] ∧ w.length ≤ 7 := by decide
theorem wdF_ix (f : Int → Int) (x y : Int) : wdF f x y = wIx f x y wKW 0 := by
  unfold wdF
  rw [wfR_I, wKW_jn]
  exact wfI_jn _ _ 0 wKW_32
/-- the bytes of a token -/
def tkB (f : Int → Int) : Int → Nat → List Int
  | _, 0 => []
  | x, m + 1 => f x :: tkB f (x + 1) m
theorem tkB_len (f : Int → Int) : ∀ (m : Nat) (x : Int), (tkB f x m).length = m
  | 0, _ => rfl
  | m + 1, x => by rw [tkB, List.length_cons, tkB_len f m]
theorem tkB_mem {f : Int → Int} {P : Int → Prop} : ∀ (m : Nat) (x : Int), (∀ j, x ≤ j → j < x + m → P (f j)) → ∀ c ∈ tkB f x m, P c
  | 0, _, _, c, h => by cases h
  | m + 1, x, hP, c, h => by
    rw [tkB, List.mem_cons] at h
    rcases h with h | h
    · rw [h]; exact hP x (by omega) (by omega)
    · exact tkB_mem m (x + 1) (fun j h1 h2 => hP j (by omega) (by omega)) c h
theorem wMF_iff {f : Int → Int} {x y : Int} : ∀ (w : List Int) (sa : Int), x + sa ≤ y + 1 → (wMF f x y w sa = true ↔ tkB f (x + sa) (y + 1 - x - sa).toNat = w)
  | [], sa, h => by
    rw [wMF, decide_eq_true_iff]
    constructor
    · intro q
      rw [show (y + 1 - x - sa).toNat = 0 by omega]
      rfl
    · intro q
      have := congrArg List.length q
      rw [tkB_len] at this
      have : (y + 1 - x - sa).toNat = 0 := this
      omega
  | c :: w, sa, h => by
    rw [wMF, Bool.and_eq_true, decide_eq_true_iff]
    by_cases q : x + sa ≤ y
    · rw [wMF_iff w (sa + 1) (by omega), show (y + 1 - x - sa).toNat = (y + 1 - x - (sa + 1)).toNat + 1 by omega, tkB, show x + sa + 1 = x + (sa + 1) by omega]
      constructor
      · rintro ⟨⟨-, h1⟩, h2⟩; rw [h1, h2]
      · intro h1; exact ⟨⟨q, (List.cons.inj h1).1⟩, (List.cons.inj h1).2⟩
    · rw [show (y + 1 - x - sa).toNat = 0 by omega]
      constructor
      · rintro ⟨⟨h1, -⟩, -⟩; exact absurd h1 q
      · intro h1; cases h1
theorem wIx_r {f : Int → Int} {x y : Int} : ∀ (ws : List (List Int)) (k : Int), (k ≤ wIx f x y ws k ∧ wIx f x y ws k < k + ws.length) ∨ wIx f x y ws k = 44
  | [], _ => Or.inr rfl
  | w :: ws, k => by
    rw [wIx, List.length_cons]
    split
    · left; omega
    · have := wIx_r (f := f) (x := x) (y := y) ws (k + 1)
      omega
theorem wIx_iff {f : Int → Int} {x y : Int} (hxy : x ≤ y + 1) : ∀ (ws : List (List Int)) (k : Int) (j : Nat) (w : List Int), ws.Nodup → 0 ≤ k → k + ws.length ≤ 44 → ws[j]? = some w → (wIx f x y ws k = k + j ↔ tkB f x (y + 1 - x).toNat = w)
  | [], _, _, _, _, _, _, h => by cases h
  | v :: ws, k, j, w, hn, h0, hl, h => by
    have hn2 := List.nodup_cons.mp hn
    have hm := wMF_iff (f := f) (x := x) (y := y) v 0 (by omega)
    rw [show x + 0 = x by omega, show y + 1 - x - 0 = y + 1 - x by omega] at hm
    rw [List.length_cons] at hl
    have hr := wIx_r (f := f) (x := x) (y := y) ws (k + 1)
    rw [wIx]
    cases j with
    | zero =>
      have h : some v = some w := h
      cases h
      by_cases q : wMF f x y v 0 = true
      · rw [if_pos q]
        exact ⟨fun _ => hm.mp q, fun _ => by omega⟩
      · rw [if_neg q]
        exact ⟨fun e => by exfalso; omega, fun e => absurd (hm.mpr e) q⟩
    | succ j =>
      have h : ws[j]? = some w := h
      have hj : j < ws.length := (List.getElem?_eq_some_iff.mp h).1
      by_cases q : wMF f x y v 0 = true
      · rw [if_pos q]
        constructor
        · intro e; exfalso; omega
        · intro e
          exfalso
          exact hn2.1 (by rw [← hm.mp q, e]; exact List.mem_of_getElem? h)
      · rw [if_neg q]
        have ih := wIx_iff (f := f) hxy ws (k + 1) j w hn2.2 (by omega) (by omega) h
        rw [show k + ((j + 1 : Nat) : Int) = k + 1 + (j : Int) by omega]
        exact ih
theorem wdF_iff {f : Int → Int} {x y : Int} (hxy : x ≤ y + 1) {j : Nat} {w : List Int} (h : wKW[j]? = some w) : wdF f x y = j ↔ tkB f x (y + 1 - x).toNat = w := by
  rw [wdF_ix]
  have := wIx_iff (f := f) hxy wKW 0 j w wKW_nd (by decide) (by rw [wKW_len]; decide) h
  rw [show (0 : Int) + (j : Int) = j by omega] at this
  exact this
theorem wdF_29 (f : Int → Int) (x y : Int) : (0 ≤ wdF f x y ∧ wdF f x y ≤ 28) ∨ wdF f x y = 44 := by
  rw [wdF_ix]
  have := wIx_r (f := f) (x := x) (y := y) wKW 0
  rw [wKW_len] at this
  omega
/-- packed -/
def wPk : List Int → Int → Int
  | [], v => v
  | c :: w, v => wPk w (256 * v + c)
theorem wPk_r : ∀ (w : List Int) (v : Int), (∀ c ∈ w, 1 ≤ c ∧ c ≤ 255) → 0 ≤ v → v ≤ wPk w v ∧ (w ≠ [] → 1 ≤ wPk w v)
  | [], v, _, h => ⟨Int.le_refl _, fun q => absurd rfl q⟩
  | c :: w, v, hw, h => by
    have hc := hw c List.mem_cons_self
    have ih := wPk_r w (256 * v + c) (fun d hd => hw d (List.mem_cons_of_mem _ hd)) (by omega)
    rw [wPk]
    exact ⟨by omega, fun _ => by omega⟩
theorem wPk_snoc : ∀ (w : List Int) (c v : Int), wPk (w ++ [c]) v = 256 * wPk w v + c
  | [], c, v => rfl
  | d :: w, c, v => by rw [List.cons_append, wPk, wPk, wPk_snoc w]
theorem lst_sn (u : List Int) : u = [] ∨ ∃ (v : List Int) (a : Int), u = v ++ [a] := by
  rcases List.eq_nil_or_concat u with h | ⟨v, a, h⟩
  · exact Or.inl h
  · exact Or.inr ⟨v, a, by rw [h, List.concat_eq_append]⟩
theorem wPk_inj : ∀ (n : Nat) (u v : List Int), u.length ≤ n → (∀ c ∈ u, 1 ≤ c ∧ c ≤ 255) → (∀ c ∈ v, 1 ≤ c ∧ c ≤ 255) → wPk u 0 = wPk v 0 → u = v := by
  intro n
  induction n with
  | zero =>
    intro u v hu hbu hbv h
    have : u = [] := List.length_eq_zero_iff.mp (by omega)
    subst this
    by_cases q : v = []
    · rw [q]
    · have := (wPk_r v 0 hbv (by decide)).2 q
      rw [← h] at this
      exact absurd this (by decide)
  | succ n ih =>
    intro u v hu hbu hbv h
    rcases lst_sn u with rfl | ⟨u', a, rfl⟩
    · by_cases q : v = []
      · rw [q]
      · have := (wPk_r v 0 hbv (by decide)).2 q
        rw [← h] at this
        exact absurd this (by decide)
    · rcases lst_sn v with rfl | ⟨v', b, rfl⟩
      · have := (wPk_r (u' ++ [a]) 0 hbu (by decide)).2 (by simp)
        rw [h] at this
        exact absurd this (by decide)
      · have ha := hbu a (List.mem_append_right _ List.mem_cons_self)
        have hb := hbv b (List.mem_append_right _ List.mem_cons_self)
        rw [wPk_snoc, wPk_snoc] at h
        have e1 : a = b := by omega
        have e2 : wPk u' 0 = wPk v' 0 := by omega
        rw [List.length_append, List.length_cons, List.length_nil] at hu
        rw [e1, ih u' v' (by omega) (fun c hc => hbu c (List.mem_append_left _ hc)) (fun c hc => hbv c (List.mem_append_left _ hc)) e2]
/-- the model's word against the class's -/
theorem wPk_iff {f : Int → Int} {x y : Int} (hxy : x ≤ y + 1) (hb : ∀ j, x ≤ j → j ≤ y → 1 ≤ f j ∧ f j ≤ 255) {j : Nat} {w : List Int} (h : wKW[j]? = some w) : (if y + 1 - x ≤ 7 then wPk (tkB f x (y + 1 - x).toNat) 0 else 0) = wPk w 0 ↔ wdF f x y = j := by
  rw [wdF_iff hxy h]
  obtain ⟨b1, b2, b3⟩ := wKW_b w (List.mem_of_getElem? h)
  have hbt : ∀ c ∈ tkB f x (y + 1 - x).toNat, 1 ≤ c ∧ c ≤ 255 := tkB_mem (P := fun c => 1 ≤ c ∧ c ≤ 255) _ _ (fun i h1 h2 => hb i h1 (by omega))
  by_cases q : y + 1 - x ≤ 7
  · rw [if_pos q]
    constructor
    · intro e; exact wPk_inj _ _ _ (Nat.le_refl _) hbt b1 e
    · intro e; rw [e]
  · rw [if_neg q]
    constructor
    · intro e
      have := (wPk_r w 0 b1 (by decide)).2 b2
      rw [← e] at this
      exact absurd this (by decide)
    · intro e
      exfalso
      have := congrArg List.length e
      rw [tkB_len] at this
      omega
