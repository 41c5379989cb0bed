/-! A text that was read: its row, its class's text. -/
def TG (G c : Int → Int) : Prop := ∀ q, 0 ≤ q → q < G 0 → G (1 + 4 * q) ≤ 2 → ∃ N : Nat, G (4 + 4 * q) = G (3 + 4 * q) + N ∧ TYP (G (1 + 4 * q)) c (G (3 + 4 * q)) N 0 0 (if G (1 + 4 * q) = 2 then 1 else 0) (if G (1 + 4 * q) = 2 then 0 else 1)
section TZ
variable {k nm G : Int → Int} {tn : Int}
theorem ty_Body (hk : ∀ a, tn - 1 ≤ a → k a = 43) (hk0 : ∀ a, 0 ≤ k a) (hnm : ∀ a, k a = 42 → 0 ≤ nm a) {so : Int} (h0 : 0 ≤ so) (h2 : so ≤ 2) {z y : rpS} (h : rcBody k nm G so z = (0, y)) : TPz so z y 0 0 (if so = 2 then 1 else 0) (if so = 2 then 0 else 1) := by
  have e0 : bI (false = true) = 0 := bI_f (by decide)
  unfold rcBody at h
  rcases (by omega : so = 0 ∨ so = 1 ∨ so = 2) with e | e | e
  · subst e
    rw [if_pos rfl] at h
    obtain ⟨u, h1, h3⟩ := rpB_0 h
    obtain ⟨-, g2, -⟩ := rcFig_K hk h1
    split at h3
    · cases h3
    · have a := ty_Ei (so := 0) hk0 hnm _ _ _ _ _ h3
      rw [e0, g2] at a
      rw [if_neg (by decide), if_neg (by decide)]
      exact a.of_nx
  · subst e
    rw [if_neg (by decide), if_pos rfl] at h
    have a := ty_Ei (so := 1) hk0 hnm _ _ _ _ _ h
    rw [e0] at a
    rw [if_neg (by decide), if_neg (by decide)]
    exact a
  · subst e
    rw [if_neg (by decide), if_neg (by decide), if_pos rfl] at h
    have a := ty_Sum (k := k) (ty_One (so := 2) hk0 hnm 8) _ _ h 0 0 (by decide) (by decide)
    rw [if_pos rfl, if_pos rfl]
    exact a
theorem ty_Cl (hk : ∀ a, tn - 1 ≤ a → k a = 43) (hk0 : ∀ a, 0 ≤ k a) (hnm : ∀ a, k a = 42 → 0 ≤ nm a) {z : rpS} (hg : rpG tn z) (htn : tn ≤ 301) (h0 : 0 ≤ G 0) (hI : GTb G z.2.2) (hT : TG G z.2.1) {y : rpS} {G' : Int → Int} (h : rcCl k nm z G = (0, y, G')) : TG G' y.2.1 := by
  obtain ⟨-, hK, -, -, -, -, so, s0, s9, -, hB, rfl⟩ := rcCl_K hk hg htn h0 hI h
  intro q q0 q1
  rw [rcEnt_0] at q1
  rcases (by omega : q < G 0 ∨ q = G 0) with g | g
  · rw [rcEnt_lo (by omega) (by omega), rcEnt_lo (by omega) (by omega), rcEnt_lo (by omega) (by omega)]
    intro e
    obtain ⟨N, n1, n2⟩ := hT q q0 g e
    have hb := (hI.2.2 q q0 g).2.2.1 e
    exact ⟨N, n1, n2.cg (fun j j0 j1 => hK.2.2.2.2 j (by omega))⟩
  · subst g
    rw [rcEnt_1 h0, rcEnt_3 h0, rcEnt_4 h0]
    intro e
    rw [if_pos e, if_pos e]
    obtain ⟨-, m, m1, m2⟩ := ty_Body hk hk0 hnm s0 e hB
    exact ⟨m, m1, m2⟩
theorem ty_All (hk : ∀ a, tn - 1 ≤ a → k a = 43) (hk0 : ∀ a, 0 ≤ k a) (hnm : ∀ a, k a = 42 → 0 ≤ nm a) (htn : tn ≤ 301) : ∀ (n : Nat) (z : rpS) (G : Int → Int), rpG tn z → 0 ≤ G 0 → n + G 0 = 26 → G 0 ≤ 24 → GTb G z.2.2 → TG G z.2.1 → ∀ y G', rcAll k nm n z G = (0, y, G') → rpG tn y ∧ (0 ≤ G' 0 ∧ G' 0 ≤ 24) ∧ GTb G' y.2.2 ∧ TG G' y.2.1
  | 0, z, G, _, _, hn, h24, _, _, _, _, _ => by exfalso; omega
  | n + 1, z, G, hg, h0, hn, h24, hI, hT, y, G', h => by
    rw [rcAll] at h
    split at h
    · cases h; exact ⟨hg, ⟨h0, h24⟩, hI, hT⟩
    · obtain ⟨f1, y1, G1, hy1⟩ : ∃ f y G1, rcCl k nm z G = (f, y, G1) := ⟨_, _, _, rfl⟩
      rw [hy1] at h
      by_cases hf : f1 = 0
      · subst hf
        rw [if_pos rfl] at h
        have hT1 := ty_Cl hk hk0 hnm hg htn h0 hI hT hy1
        obtain ⟨a1, a2, a3, a4, a5, -⟩ := rcCl_K hk hg htn h0 hI hy1
        exact ty_All hk hk0 hnm htn n y1 G1 a1 (by omega) (by omega) (by omega) a5 hT1 y G' h
      · rw [if_neg (show ¬ ((f1, y1, G1) : rcR).1 = 0 from hf)] at h
        exact absurd (congrArg Prod.fst h) hf
theorem ty_Tx (hk : ∀ a, tn - 1 ≤ a → k a = 43) (hk0 : ∀ a, 0 ≤ k a) (hnm : ∀ a, k a = 42 → 0 ≤ nm a) (htn : tn ≤ 301) (ht1 : 1 ≤ tn) (h : (rcTx k nm).1 = 0) : rpG tn (rcTx k nm).2.1 ∧ (0 ≤ (rcTx k nm).2.2 0 ∧ (rcTx k nm).2.2 0 ≤ 24) ∧ GTb (rcTx k nm).2.2 (rcTx k nm).2.1.2.2 ∧ TG (rcTx k nm).2.2 (rcTx k nm).2.1.2.1 := by
  refine ty_All hk hk0 hnm htn 26 (0, fun _ => 0, 0) (fun _ => 0) ⟨Int.le_refl _, by show (0 : Int) + 1 ≤ tn; omega, Int.le_refl _, Int.le_refl _⟩ (Int.le_refl _) rfl (by decide) GTb_0 (fun q q0 q1 => absurd q1 (by show ¬ q < 0; omega)) _ _ ?_
  show rcTx k nm = (0, _, _)
  rw [← h]
end TZ
section TZ2
variable {T G c : Int → Int} {b cnt : Int}
theorem cNK_cRn {op : Int → Int} {i0 : Int} : ∀ {m : Nat}, (∀ j : Nat, j < m → op (i0 + j) = mop (c (i0 + j))) → cNK op i0 m = cRn c i0 0 0 m
  | 0, _ => rfl
  | m + 1, h => by
    rw [cNK, cRn, h m (by omega), cNK_cRn (fun j hj => h j (by omega))]
theorem mg_VT (hM : MG b T G) (hI : GTb G cnt) (hT : TG G c) (hc : ∀ j, 0 ≤ j → j < cnt → T (b + 97 + 2 * j) = mop (c j) ∧ T (b + 98 + 2 * j) = mvl (c j)) : VT T b := by
  obtain ⟨h1, h2, h3⟩ := hM
  obtain ⟨i0, i1, hI⟩ := hI
  refine ⟨by rw [h1]; exact h2, fun q q0 q1 => ?_⟩
  rw [h1] at q1
  obtain ⟨a1, a2, a3, a4⟩ := h3 q q0 q1
  obtain ⟨b1, b2, b3, b4, b5, b6, b7, b8⟩ := hI q q0 q1
  rw [a1]
  refine ⟨b1, fun e => ?_, fun e => ?_, fun e => ?_, fun e => ?_, fun e => ?_, fun e => ?_, fun e => ?_⟩
  · rw [a2 (Or.inl e)]; exact b2 e
  · obtain ⟨N, n1, n2, n3⟩ := hT q q0 q1 e
    have c3 := b3 e
    have hop : ∀ j : Nat, j < N → opT T b (G (3 + 4 * q) + j) = mop (c (G (3 + 4 * q) + j)) := fun j hj => (hc _ (by omega) (by omega)).1
    have hvl : ∀ j : Nat, j < N → vlT T b (G (3 + 4 * q) + j) = mvl (c (G (3 + 4 * q) + j)) := fun j hj => by
      show T (b + 97 + 2 * (G (3 + 4 * q) + (j : Int)) + 1) = _
      rw [show b + 97 + 2 * (G (3 + 4 * q) + (j : Int)) + 1 = b + 98 + 2 * (G (3 + 4 * q) + (j : Int)) by omega]
      exact (hc _ (by omega) (by omega)).2
    unfold okL
    rw [a3 (Or.inl e), a4 (Or.inl e)]
    refine ⟨N, c3.1, by omega, n1, by omega, fun j hj => ?_, fun j hj ho => ?_, ?_⟩
    · rw [hop j hj, hvl j hj, cNK_cRn (fun i hi => hop i (by omega))]
      exact (n2 j hj).1
    · rw [hvl j hj]
      rw [hop j hj] at ho
      exact (n2 j hj).2.1 ho
    · rw [cNK_cRn hop, n3]
      by_cases g : G (1 + 4 * q) = 2
      · rw [if_pos g, if_pos g, if_pos g]
      · rw [if_neg g, if_neg g, if_neg g]
  · rw [a2 (Or.inr (by omega))]; exact b4 e
  · rw [a2 (Or.inr (by omega))]; exact b5 e
  · rw [a2 (Or.inr (by omega)), a3 (Or.inr (Or.inl e))]; exact ⟨(b6 e).1.1, (b6 e).1.2, (b6 e).2⟩
  · rw [a2 (Or.inr (by omega))]; exact b7 e
  · rw [a2 (Or.inr (by omega)), a3 (Or.inr (Or.inr e)), a4 (Or.inr e)]; exact ⟨(b8 e).1.1, (b8 e).1.2, (b8 e).2.1.1, (b8 e).2.1.2, (b8 e).2.2⟩
theorem mg_has (hM : MG b T G) (so la : Int) : clF T b so la (T b).toNat 0 = rcHas G so la := by
  obtain ⟨h1, h2, h3⟩ := hM
  rw [h1]
  refine clF_cg (b' := 0) _ _ (fun j j0 j1 => ?_)
  obtain ⟨a1, a2, -⟩ := h3 j j0 (by omega)
  rw [show (0 : Int) + 1 + 4 * j = 1 + 4 * j by omega, show (0 : Int) + 2 + 4 * j = 2 + 4 * j by omega]
  exact ⟨a1, fun e => a2 (Or.inl e)⟩
theorem mg_TXs {t : Nat} {s : Nat → Int → Int} (hM : MG b T G) {slot so la : Int} (hso : 0 ≤ so ∧ so ≤ 2) (h : CSl t s G slot so la) : TXs s t T b slot so la := by
  unfold TXs
  rw [mg_has hM]
  refine ⟨h.1, fun e => ?_⟩
  obtain ⟨a1, a2, a3, a4⟩ := rcHas_r (G := G) (so := so) (la := la) hM.2.1.1
  obtain ⟨-, -, c3, c4⟩ := hM.2.2 _ e a2
  have g := (a3 e).1
  rw [c3 (Or.inl (by omega)), c4 (Or.inl (by omega))]
  exact h.2 e
theorem mg_TX {t : Nat} {s : Nat → Int → Int} (hM : MG b T G) (hC : CG t s G) (hI : GTb G cnt) (hT : TG G c) (hc : ∀ j, 0 ≤ j → j < cnt → T (b + 97 + 2 * j) = mop (c j) ∧ T (b + 98 + 2 * j) = mvl (c j)) (hs : ∀ j, 0 ≤ j → j < cnt → s (t + 3) j = c j) : TX s t T b := by
  obtain ⟨c5, c0, cq, cl, c6, c7, cn⟩ := hC
  obtain ⟨h1, h2, h3⟩ := id hM
  refine ⟨c5.trans h1.symm, fun q q0 q1 => ?_, fun la l0 l1 => mg_TXs hM (by decide) (cl la l0 l1), mg_TXs hM (by decide) c6, mg_TXs hM (by decide) c7, ?_, fun q q0 q1 q2 j j0 j1 => ?_⟩
  · rw [h1] at q1
    obtain ⟨a1, a2, a3, a4⟩ := h3 q q0 q1
    obtain ⟨d1, d2, d3, d4⟩ := cq q q0 q1
    rw [a1]
    exact ⟨d1, fun e => (d2 e).trans (a2 e).symm, fun e => (d3 e).trans (a3 (Or.inr e)).symm, fun e => (d4 e).trans (a4 (Or.inr e)).symm⟩
  · rw [mg_has hM, cn]
    obtain ⟨a1, a2, a3, a4⟩ := rcHas_r (G := G) (so := 3) (la := 0) h2.1
    rcases (by omega : rcHas G 3 0 < 0 ∨ 0 ≤ rcHas G 3 0) with g | g
    · rw [if_pos g, if_pos g]
    · rw [if_neg (by omega), if_neg (by omega), (h3 _ g a2).2.1 (Or.inr (by have := (a3 g).1; omega))]
  · rw [h1] at q1
    obtain ⟨a1, a2, a3, a4⟩ := h3 q q0 q1
    rw [a1] at q2
    rw [a3 (Or.inl q2)] at j0
    rw [a4 (Or.inl q2)] at j1
    have hb := (hI.2.2 q q0 q1).2.2.1 q2
    obtain ⟨N, n1, n2, n3⟩ := hT q q0 q1 q2
    have hh := (n2 (j - G (3 + 4 * q)).toNat (by omega)).2.2
    rw [show G (3 + 4 * q) + ((j - G (3 + 4 * q)).toNat : Int) = j by omega] at hh
    have e := hc j (by omega) (by omega)
    rw [hs j (by omega) (by omega)]
    show c j = encC (T (b + 97 + 2 * j)) (T (b + 97 + 2 * j + 1))
    rw [e.1, show b + 97 + 2 * j + 1 = b + 98 + 2 * j by omega, e.2, hh]
end TZ2
