/-! The model's next token. -/
/-- what a token changes of the model's own cell: at, place, token, number -/
def NTs (s s1 : Nat → Int → Int) (a p q u : Int) : Prop := (∀ c, c ≠ 598 → s1 c = s c) ∧ ∀ k, s1 598 k = if k = 7 then a else if k = 8 then p else if k = 9 then q else if k = 10 then u else s 598 k
def NTl (l l1 : Nat → Int → Int) (w : Int) : Prop := (∀ c, c ≠ 598 → l1 c = l c) ∧ ∀ k, l1 598 k = if k = 11 then w else l 598 k
section NT
variable {s s1 l l1 : Nat → Int → Int} {a p q u v w : Int}
theorem NTs.rf : NTs s s (s 598 7) (s 598 8) (s 598 9) (s 598 10) := by
  refine ⟨fun _ _ => rfl, fun k => ?_⟩
  (repeat' split) <;> first | rfl | (rename_i h; rw [h])
theorem NTl.rf : NTl l l (l 598 11) := by
  refine ⟨fun _ _ => rfl, fun k => ?_⟩
  split
  · rename_i h; rw [h]
  · rfl
theorem NTs.r (h : NTs s s1 a p q u) {k : Int} (h1 : k ≠ 7) (h2 : k ≠ 8) (h3 : k ≠ 9) (h4 : k ≠ 10) : s1 598 k = s 598 k := by rw [h.2 k, if_neg h1, if_neg h2, if_neg h3, if_neg h4]
theorem NTs.r7 (h : NTs s s1 a p q u) : s1 598 7 = a := (h.2 7).trans (if_pos rfl)
theorem NTs.r8 (h : NTs s s1 a p q u) : s1 598 8 = p := by rw [h.2 8, if_neg (by decide), if_pos rfl]
theorem NTs.r9 (h : NTs s s1 a p q u) : s1 598 9 = q := by rw [h.2 9, if_neg (by decide), if_neg (by decide), if_pos rfl]
theorem NTs.r10 (h : NTs s s1 a p q u) : s1 598 10 = u := by rw [h.2 10, if_neg (by decide), if_neg (by decide), if_neg (by decide), if_pos rfl]
theorem NTl.r11 (h : NTl l l1 w) : l1 598 11 = w := (h.2 11).trans (if_pos rfl)
theorem NTs.u7 (h : NTs s s1 a p q u) : NTs s (up s1 598 7 v) v p q u := by
  refine ⟨fun c hc => (up_cc hc).trans (h.1 c hc), fun k => ?_⟩
  by_cases e : k = 7
  · rw [up_e e, if_pos e]
  · rw [up_k e, h.2 k, if_neg e, if_neg e]
theorem NTs.u8 (h : NTs s s1 a p q u) : NTs s (up s1 598 8 v) a v q u := by
  refine ⟨fun c hc => (up_cc hc).trans (h.1 c hc), fun k => ?_⟩
  by_cases e : k = 8
  · rw [up_e e, if_neg (by omega), if_pos e]
  · rw [up_k e, h.2 k]
    by_cases e7 : k = 7
    · rw [if_pos e7, if_pos e7]
    · rw [if_neg e7, if_neg e7, if_neg e, if_neg e]
theorem NTs.u9 (h : NTs s s1 a p q u) : NTs s (up s1 598 9 v) a p v u := by
  refine ⟨fun c hc => (up_cc hc).trans (h.1 c hc), fun k => ?_⟩
  by_cases e : k = 9
  · rw [up_e e, if_neg (by omega), if_neg (by omega), if_pos e]
  · rw [up_k e, h.2 k]
    (repeat' split) <;> first | rfl | (exfalso; omega)
theorem NTs.u10 (h : NTs s s1 a p q u) : NTs s (up s1 598 10 v) a p q v := by
  refine ⟨fun c hc => (up_cc hc).trans (h.1 c hc), fun k => ?_⟩
  by_cases e : k = 10
  · rw [up_e e, if_neg (by omega), if_neg (by omega), if_neg (by omega), if_pos e]
  · rw [up_k e, h.2 k]
    (repeat' split) <;> first | rfl | (exfalso; omega)
theorem NTl.u11 (h : NTl l l1 w) : NTl l (up l1 598 11 v) v := by
  refine ⟨fun c hc => (up_cc hc).trans (h.1 c hc), fun k => ?_⟩
  by_cases e : k = 11
  · rw [up_e e, if_pos e]
  · rw [up_k e, h.2 k, if_neg e, if_neg e]
end NT
def btP (f : Int → Int) (n x : Int) : Int := if x < n then f x else -1
theorem btP_s (f : Int → Int) (n x : Int) : (x < n ∧ btP f n x = f x) ∨ (n ≤ x ∧ btP f n x = -1) := by
  unfold btP
  by_cases h : x < n
  · rw [if_pos h]; exact Or.inl ⟨h, rfl⟩
  · rw [if_neg h]; exact Or.inr ⟨by omega, rfl⟩
theorem bt_163 {d L t : Nat} {s l : Nat → Int → Int} {f : Int → Int} {n x : Int} (hT : s 602 = f) (hN : s 598 4 = n) (hr : 0 ≤ n ∧ n ≤ 300) (h0 : 0 ≤ x) (hx : x ≤ 1000) : mm_Ev mm_ct mm_CM (d + 1) 163 [.ref 598, .int (iI x)] (MX L t s l) (some (.int (iI (btP f n x))), MX L t s l) := by
  have := sp_163 (d := d) (L := L) (t := t) (l := l) hN hr h0 (x := x) ⟨by omega, by omega⟩
  rw [hT] at this
  exact this
/-- a token of the model (its sort, number, word) against one of the class (kind, number) -/
def tkR (q u w kd nm : Int) : Prop := (q = 0 ∧ kd = 43) ∨ (q = 1 ∧ kd = 42 ∧ (0 ≤ u ∧ u ≤ 2000000) ∧ minI u 10000 = nm) ∨ (q = 2 ∧ ((0 ≤ kd ∧ kd ≤ 28) ∨ kd = 44) ∧ (0 ≤ w ∧ w < 72057594037927936) ∧ ∀ (j : Nat) (v : List Int), wKW[j]? = some v → (w = wPk v 0 ↔ kd = j)) ∨ (q = 3 ∧ kd = 44) ∨ (q = 60 ∧ kd = 29) ∨ (q = 62 ∧ kd = 30) ∨ (q = 61 ∧ kd = 31) ∨ (q = 35 ∧ kd = 32) ∨ (q = 43 ∧ kd = 33) ∨ (q = 45 ∧ kd = 34) ∨ (q = 42 ∧ kd = 35) ∨ (q = 47 ∧ kd = 36) ∨ (q = 40 ∧ kd = 37) ∨ (q = 41 ∧ kd = 38) ∨ (q = 59 ∧ kd = 39) ∨ (q = 4 ∧ kd = 40) ∨ (q = 5 ∧ kd = 41)
def isSg (c : Int) : Prop := c = 60 ∨ c = 62 ∨ c = 61 ∨ c = 35 ∨ c = 43 ∨ c = 45 ∨ c = 42 ∨ c = 47 ∨ c = 40 ∨ c = 41 ∨ c = 59
theorem tkR_s {c u w nm q : Int} (h0 : 0 ≤ c) (h1 : c ≤ 255) (h : (isSg c ∧ q = c) ∨ (¬ isSg c ∧ q = 3)) : tkR q u w (if sgX c < 0 then 44 else 29 + sgX c) nm := by
  have hv := sgX_v h0 h1
  unfold isSg at h
  rcases h with ⟨h, rfl⟩ | ⟨h, rfl⟩
  · rcases h with h | h | h | h | h | h | h | h | h | h | h <;> subst h <;> (rw [hv]; unfold tkR; simp)
  · have e : sgX c = -1 := by
      rw [hv]
      (repeat' split) <;> first | rfl | (exfalso; omega)
    rw [e, if_pos (by decide)]
    exact Or.inr (Or.inr (Or.inr (Or.inl ⟨rfl, rfl⟩)))
/-- what a token's end is, and its sort -/
def tkX (f : Int → Int) (n p e q u w : Int) : Prop := (n ≤ p ∧ e = n ∧ q = 0) ∨ (p < n ∧ e = lastP f n p + 1 ∧ tkR q u w (kdP f p (lastP f n p)) (nbrP f p (lastP f n p)))
section TK
variable {f : Int → Int} {n p u w q : Int}
theorem tk_sg (hp : p < n) (h1 : ¬ (48 ≤ f p ∧ f p ≤ 57)) (h2 : ¬ ((97 ≤ f p ∧ f p ≤ 122) ∨ (65 ≤ f p ∧ f p ≤ 90))) : lastP f n p = (if (f p = 60 ∨ f p = 62) ∧ p + 1 < n ∧ f (p + 1) = 61 then p + 1 else p) ∧ kdP f p (lastP f n p) = if (f p = 60 ∨ f p = 62) ∧ p + 1 < n ∧ f (p + 1) = 61 then (if f p = 60 then 40 else 41) else (if sgX (f p) < 0 then 44 else 29 + sgX (f p)) := by
  have e1 : lastP f n p = (if (f p = 60 ∨ f p = 62) ∧ p + 1 < n ∧ f (p + 1) = 61 then p + 1 else p) := by
    unfold lastP
    rw [if_neg (fun z => h2 (ltB_t.mp z)), if_neg (fun z => h1 (fgB_t.mp z))]
  refine ⟨e1, ?_⟩
  unfold kdP
  rw [if_neg (fun z => h2 (ltB_t.mp z)), if_neg (fun z => h1 (fgB_t.mp z)), e1]
  by_cases g : (f p = 60 ∨ f p = 62) ∧ p + 1 < n ∧ f (p + 1) = 61
  · rw [if_pos g, if_pos g, if_pos (by omega)]
  · rw [if_neg g, if_neg g, if_neg (by omega)]
theorem tkX_s {e : Int} (hf : ∀ k, 0 ≤ f k ∧ f k ≤ 255) (hp : p < n) (h1 : ¬ (48 ≤ f p ∧ f p ≤ 57)) (h2 : ¬ ((97 ≤ f p ∧ f p ≤ 122) ∨ (65 ≤ f p ∧ f p ≤ 90))) (h : ((f p = 60 ∨ f p = 62) ∧ p + 1 < n ∧ f (p + 1) = 61 ∧ e = p + 2 ∧ q = if f p = 60 then 4 else 5) ∨ (¬ ((f p = 60 ∨ f p = 62) ∧ p + 1 < n ∧ f (p + 1) = 61) ∧ e = p + 1 ∧ ((isSg (f p) ∧ q = f p) ∨ (¬ isSg (f p) ∧ q = 3)))) : tkX f n p e q u w := by
  obtain ⟨e1, e2⟩ := tk_sg hp h1 h2
  refine Or.inr ⟨hp, ?_, ?_⟩
  · rw [e1]
    rcases h with ⟨g1, g2, g3, g4, -⟩ | ⟨g1, g2, -⟩
    · rw [if_pos ⟨g1, g2, g3⟩]; omega
    · rw [if_neg g1]; exact g2
  · rw [e2]
    rcases h with ⟨g1, g2, g3, -, g4⟩ | ⟨g1, -, g2⟩
    · rw [if_pos ⟨g1, g2, g3⟩, g4]
      unfold tkR
      rcases g1 with g | g <;> rw [g] <;> simp
    · rw [if_neg g1]
      exact tkR_s (hf p).1 (hf p).2 g2
theorem tkX_n {i : Int} (hp : p < n) (h1 : 48 ≤ f p ∧ f p ≤ 57) (hl : lastP f n p = i - 1) (hu : 0 ≤ u ∧ u ≤ 2000000) (hn : nbrP f p (lastP f n p) = minI u 10000) : tkX f n p i 1 u w := by
  refine Or.inr ⟨hp, by omega, Or.inr (Or.inl ⟨rfl, ?_, hu, hn.symm⟩)⟩
  unfold kdP
  rw [if_neg (fun z => by have := ltB_t.mp z; omega), if_pos (fgB_t.mpr h1)]
theorem tkX_w {i : Int} (hf : ∀ k, 0 ≤ f k ∧ f k ≤ 255) (hp : p < n) (h1 : (97 ≤ f p ∧ f p ≤ 122) ∨ (65 ≤ f p ∧ f p ≤ 90)) (hl : lastP f n p = i - 1) (hpi : p < i) (hb : ∀ j, p ≤ j → j < i → 1 ≤ f j) (hwr : 0 ≤ w ∧ w < 72057594037927936) (hw : w = if i - p ≤ 7 then wPk (tkB f p (i - p).toNat) 0 else 0) : tkX f n p i 2 u w := by
  have e : kdP f p (lastP f n p) = wdF f p (i - 1) := by
    unfold kdP
    rw [if_pos (ltB_t.mpr h1), hl]
  refine Or.inr ⟨hp, by omega, Or.inr (Or.inr (Or.inl ⟨rfl, ?_, hwr, fun j v hv => ?_⟩))⟩
  · rw [e]; exact wdF_29 _ _ _
  · rw [e, hw]
    have := wPk_iff (f := f) (x := p) (y := i - 1) (by omega) (fun j a b => ⟨hb j a (by omega), (hf j).2⟩) hv
    rw [show i - 1 + 1 - p = i - p by omega] at this
    exact this
end TK
theorem orI_8 {w b : Int} (h0 : 0 ≤ w) (hb : 0 ≤ b) (hb2 : b < 256) : orI (w * 256) b = 256 * w + b := by
  obtain ⟨m, rfl⟩ := Int.eq_ofNat_of_zero_le h0
  obtain ⟨k, rfl⟩ := Int.eq_ofNat_of_zero_le hb
  unfold orI
  have e1 : ((m : Int) * 256).toNat = 2 ^ 8 * m := by omega
  rw [e1, Int.toNat_natCast, ← Nat.two_pow_add_eq_or_of_lt (by omega : k < 2 ^ 8)]
  omega
theorem tkB_sn (f : Int → Int) : ∀ (m : Nat) (x : Int), tkB f x (m + 1) = tkB f x m ++ [f (x + m)]
  | 0, x => by
    show [f x] = [f (x + ((0 : Nat) : Int))]
    rw [show x + ((0 : Nat) : Int) = x by omega]
  | m + 1, x => by
    rw [tkB, tkB_sn f m (x + 1), tkB, List.cons_append, show x + 1 + (m : Int) = x + ((m + 1 : Nat) : Int) by omega]
theorem wPk_hi : ∀ (w : List Int) (v : Int), (∀ c ∈ w, 0 ≤ c ∧ c ≤ 255) → 0 ≤ v → 0 ≤ wPk w v ∧ wPk w v < (v + 1) * 256 ^ w.length
  | [], v, _, h => by
    show 0 ≤ v ∧ v < (v + 1) * 256 ^ 0
    omega
  | c :: w, v, hw, h => by
    have hc := hw c List.mem_cons_self
    have ih := wPk_hi w (256 * v + c) (fun d hd => hw d (List.mem_cons_of_mem _ hd)) (by omega)
    rw [wPk, List.length_cons, Int.pow_succ]
    refine ⟨ih.1, Int.lt_of_lt_of_le ih.2 ?_⟩
    have h3 : (256 * v + c + 1) * 256 ^ w.length ≤ (256 * (v + 1)) * 256 ^ w.length := Int.mul_le_mul_of_nonneg_right (by omega) (Int.pow_nonneg (by decide))
    have h4 : (256 * (v + 1)) * 256 ^ w.length = (v + 1) * (256 ^ w.length * 256) := by
      rw [Int.mul_comm 256 (v + 1), Int.mul_assoc, Int.mul_comm 256 (256 ^ w.length)]
    omega
/-- the word so far -/
def wSo (f : Int → Int) (p i : Int) : Int := wPk (tkB f p (if i - p ≤ 7 then (i - p).toNat else 7)) 0
theorem wSo_p (f : Int → Int) (p : Int) : wSo f p p = 0 := by
  unfold wSo
  rw [if_pos (by omega), show (p - p).toNat = 0 by omega]
  rfl
theorem wSo_r {f : Int → Int} (hf : ∀ k, 0 ≤ f k ∧ f k ≤ 255) (p i : Int) : 0 ≤ wSo f p i ∧ wSo f p i < 72057594037927936 := by
  have key : ∀ m : Nat, m ≤ 7 → 0 ≤ wPk (tkB f p m) 0 ∧ wPk (tkB f p m) 0 < 72057594037927936 := by
    intro m hm
    have h := wPk_hi (tkB f p m) 0 (tkB_mem (P := fun c => 0 ≤ c ∧ c ≤ 255) _ _ (fun j _ _ => hf j)) (Int.le_refl 0)
    rw [tkB_len] at h
    refine ⟨h.1, Int.lt_of_lt_of_le h.2 ?_⟩
    rcases (by omega : m = 0 ∨ m = 1 ∨ m = 2 ∨ m = 3 ∨ m = 4 ∨ m = 5 ∨ m = 6 ∨ m = 7) with e | e | e | e | e | e | e | e <;> subst e <;> decide
  unfold wSo
  split
  · exact key _ (by omega)
  · exact key 7 (by omega)
theorem wSo_s {f : Int → Int} {p i : Int} (hpi : p ≤ i) (h : i - p < 7) : wSo f p (i + 1) = 256 * wSo f p i + f i := by
  unfold wSo
  rw [if_pos (by omega), if_pos (by omega), show (i + 1 - p).toNat = (i - p).toNat + 1 by omega, tkB_sn, wPk_snoc, show p + ((i - p).toNat : Int) = i by omega]
theorem wSo_7 {f : Int → Int} {p i : Int} (h : 7 ≤ i - p) : wSo f p (i + 1) = wSo f p i := by
  unfold wSo
  rw [if_neg (by omega)]
  by_cases q : i - p ≤ 7
  · rw [if_pos q, show (i - p).toNat = 7 by omega]
  · rw [if_neg q]
theorem sp_166 {d L t : Nat} {s l : Nat → Int → Int} {f : Int → Int} (hT : s 602 = f) (hf : ∀ k, 0 ≤ f k ∧ f k ≤ 255) {n x0 : Int} (hN : s 598 4 = n) (hr : 0 ≤ n ∧ n ≤ 300) (hA : s 598 7 = x0) (hx0 : 0 ≤ x0 ∧ x0 ≤ n) : ∃ s1 l1, mm_Ev mm_ct mm_CM (d + 3) 166 [.ref 598] (MX L t s l) (none, MX L t s1 l1) ∧ ∃ e q u w : Int, NTs s s1 e (skP f n x0) q u ∧ NTl l l1 w ∧ tkX f n (skP f n x0) e q u w := by
  have hc : (mm_CM 166).2.2.2.2.2.2.2 = mm_cf cd_166 := by rw [cm_166]; rfl
  refine ev_xsl ?_
  refine ev_to (mx := 3) (by rw [cm_166]; decide) (by rw [cm_166]; rfl) (by show 1 ≤ _; decide) ?_
  show mm_wp _ _ (0, [some (.ref 598), none, none], [], MX L t s l) (fun res => ∃ s1 l1, res = (none, MX L t s1 l1) ∧ ∃ e q u w : Int, NTs s s1 e (skP f n x0) q u ∧ NTl l l1 w ∧ tkX f n (skP f n x0) e q u w)
  have hNT0 : NTs s s x0 (s 598 8) (s 598 9) (s 598 10) := by have h := NTs.rf (s := s); rw [hA] at h; exact h
  have loop0_ : ∀ i : Int, i ≤ n → x0 ≤ i → ∀ s1 : Nat → Int → Int, NTs s s1 i (s 598 8) (s 598 9) (s 598 10) → skP f n i = skP f n x0 → mm_wp (mm_Ev mm_ct mm_CM (d + 2)) 166 (0, [some (.ref 598), none, none], [], MX L t s1 l) (fun res => ∃ s1 l1, res = (none, MX L t s1 l1) ∧ ∃ e q u w : Int, NTs s s1 e (skP f n x0) q u ∧ NTl l l1 w ∧ tkX f n (skP f n x0) e q u w) := by
    refine up_ind ?_
    intro i hi9 ih hxi s1 hM hsk
    have hfi := hf i
    have hfi1 := hf (i + 1)
    refine wi_a1 hc rfl rfl ?_
    refine wi_a1 hc rfl rfl ?_
    refine wi_gfv (kz := 7) rfl hc rfl rfl (by decide) (Nat.le_of_ble_eq_true rfl) rfl (v := i) (NTs.r7 hM) ?_
    have hbt5_ := btP_s f n i
    refine wp_cv (b := 598) (As := [.int (iI i)]) (r := []) hc rfl (by rw [cm_163]; rfl) rfl (Nat.le_of_ble_eq_true rfl) (show 598 < 621 by decide) (by rw [cm_163]; rfl) (ev_mono (bt_163 (d := 0) ((hM.1 602 (by decide)).trans hT) ((NTs.r hM (by decide) (by decide) (by decide) (by decide)).trans hN) hr (by omega) (by omega)) (by omega)) ?_
    show mm_wp _ _ (8, [some (.ref 598), none, none], [.int (iI (btP f n i))], MX L t s1 l) _
    refine wi_bi hc rfl rfl ?_
    refine wi_ceq hc rfl ⟨by omega, by omega⟩ ⟨by decide, by decide⟩ (fun h1_ => ?_) (fun h1_ => ?_)
    · refine wi_a1 hc rfl rfl ?_
      refine wi_dupr hc rfl ?_
      refine wi_gfv (kz := 7) rfl hc rfl rfl (by decide) (Nat.le_of_ble_eq_true rfl) rfl (v := i) (NTs.r7 hM) ?_
      refine wi_ic hc rfl ?_
      refine wi_add hc rfl ?_
      refine wi_pf (kz := 7) rfl hc rfl rfl (by decide) (Nat.le_of_ble_eq_true rfl) rfl (Nat.le_of_ble_eq_true rfl) ⟨rfl, rfl⟩ rfl ?_
      obtain ⟨s1_, es1_⟩ : ∃ q, q = up s1 598 7 (i + 1) := ⟨_, rfl⟩
      rw [← es1_]
      have hns1_ : NTs s s1_ (i + 1) (s 598 8) (s 598 9) (s 598 10) := by rw [es1_]; exact NTs.u7 hM
      refine wi_go hc rfl ?_
      exact ih (by omega) (by omega) s1_ hns1_ ((skP_b (by omega) (by omega)).symm.trans hsk)
    · refine wi_a1 hc rfl rfl ?_
      refine wi_a1 hc rfl rfl ?_
      refine wi_gfv (kz := 7) rfl hc rfl rfl (by decide) (Nat.le_of_ble_eq_true rfl) rfl (v := i) (NTs.r7 hM) ?_
      have hbt18_ := btP_s f n i
      refine wp_cv (b := 598) (As := [.int (iI i)]) (r := []) hc rfl (by rw [cm_163]; rfl) rfl (Nat.le_of_ble_eq_true rfl) (show 598 < 621 by decide) (by rw [cm_163]; rfl) (ev_mono (bt_163 (d := 0) ((hM.1 602 (by decide)).trans hT) ((NTs.r hM (by decide) (by decide) (by decide) (by decide)).trans hN) hr (by omega) (by omega)) (by omega)) ?_
      show mm_wp _ _ (21, [some (.ref 598), none, none], [.int (iI (btP f n i))], MX L t s1 l) _
      refine wi_bi hc rfl rfl ?_
      refine wi_cne hc rfl ⟨by omega, by omega⟩ ⟨by decide, by decide⟩ (fun h2_ => ?_) (fun h2_ => ?_)
      · refine wi_a1 hc rfl rfl ?_
        refine wi_a1 hc rfl rfl ?_
        refine wi_gfv (kz := 7) rfl hc rfl rfl (by decide) (Nat.le_of_ble_eq_true rfl) rfl (v := i) (NTs.r7 hM) ?_
        refine wi_pf (kz := 8) rfl hc rfl rfl (by decide) (Nat.le_of_ble_eq_true rfl) rfl (Nat.le_of_ble_eq_true rfl) ⟨rfl, rfl⟩ rfl ?_
        obtain ⟨s2_, es2_⟩ : ∃ q, q = up s1 598 8 i := ⟨_, rfl⟩
        rw [← es2_]
        have hns2_ : NTs s s2_ i i (s 598 9) (s 598 10) := by rw [es2_]; exact NTs.u8 hM
        refine wi_a1 hc rfl rfl ?_
        refine wi_a1 hc rfl rfl ?_
        refine wi_gfv (kz := 7) rfl hc rfl rfl (by decide) (Nat.le_of_ble_eq_true rfl) rfl (v := i) (NTs.r7 hns2_) ?_
        have hbt52_ := btP_s f n i
        refine wp_cv (b := 598) (As := [.int (iI i)]) (r := []) hc rfl (by rw [cm_163]; rfl) rfl (Nat.le_of_ble_eq_true rfl) (show 598 < 621 by decide) (by rw [cm_163]; rfl) (ev_mono (bt_163 (d := 0) ((hns2_.1 602 (by decide)).trans hT) ((NTs.r hns2_ (by decide) (by decide) (by decide) (by decide)).trans hN) hr (by omega) (by omega)) (by omega)) ?_
        show mm_wp _ _ (55, [some (.ref 598), none, none], [.int (iI (btP f n i))], MX L t s2_ l) _
        refine wi_is1 (L' := [some (.ref 598), some (.int (iI (btP f n i))), none]) hc rfl (Nat.le_of_ble_eq_true rfl) rfl ?_
        refine wi_i1 hc rfl rfl ?_
        refine wi_zge hc rfl ⟨by omega, by omega⟩ (fun h3_ => ?_) (fun h3_ => ?_)
        · refine wi_i1 hc rfl rfl ?_
          refine wp_cs (As := [.int (iI (btP f n i))]) (r := []) hc rfl (by rw [cm_165]; rfl) rfl (Nat.le_of_ble_eq_true rfl) (ev_mono (sp_165 (d := 0) ⟨by omega, by omega⟩) (by omega)) ?_
          show mm_wp _ _ (72, [some (.ref 598), some (.int (iI (btP f n i))), none], [.int (iI (bI (48 ≤ (btP f n i) ∧ (btP f n i) ≤ 57)))], MX L t s2_ l) _
          refine wi_beq hc rfl (fun h4_ => ?_) (fun h4_ => ?_)
          · refine wi_i1 hc rfl rfl ?_
            refine wp_cs (As := [.int (iI (btP f n i))]) (r := []) hc rfl (by rw [cm_164]; rfl) rfl (Nat.le_of_ble_eq_true rfl) (ev_mono (sp_164 (d := 0) ⟨by omega, by omega⟩) (by omega)) ?_
            show mm_wp _ _ (148, [some (.ref 598), some (.int (iI (btP f n i))), none], [.int (iI (bI ((97 ≤ (btP f n i) ∧ (btP f n i) ≤ 122) ∨ (65 ≤ (btP f n i) ∧ (btP f n i) ≤ 90))))], MX L t s2_ l) _
            refine wi_beq hc rfl (fun h5_ => ?_) (fun h5_ => ?_)
            · refine wi_a1 hc rfl rfl ?_
              refine wi_dupr hc rfl ?_
              refine wi_gfv (kz := 7) rfl hc rfl rfl (by decide) (Nat.le_of_ble_eq_true rfl) rfl (v := i) (NTs.r7 hns2_) ?_
              refine wi_ic hc rfl ?_
              refine wi_add hc rfl ?_
              refine wi_pf (kz := 7) rfl hc rfl rfl (by decide) (Nat.le_of_ble_eq_true rfl) rfl (Nat.le_of_ble_eq_true rfl) ⟨rfl, rfl⟩ rfl ?_
              obtain ⟨s3_, es3_⟩ : ∃ q, q = up s2_ 598 7 (i + 1) := ⟨_, rfl⟩
              rw [← es3_]
              have hns3_ : NTs s s3_ (i + 1) i (s 598 9) (s 598 10) := by rw [es3_]; exact NTs.u7 hns2_
              have hci : btP f n i = f i := by omega
              have join326_ : ∀ b9 : Int, (b9 = 0 ∨ b9 = 1) → (b9 = 1 ↔ isSg (f i)) → mm_wp (mm_Ev mm_ct mm_CM (d + 2)) 166 (326, [some (.ref 598), some (.int (iI (btP f n i))), none], [.int (iI b9)], MX L t s3_ l) (fun res => ∃ s1 l1, res = (none, MX L t s1 l1) ∧ ∃ e q u w : Int, NTs s s1 e (skP f n x0) q u ∧ NTl l l1 w ∧ tkX f n (skP f n x0) e q u w) := by
                intro b9 hb901 hb9i
                refine wi_is1 (L' := [some (.ref 598), some (.int (iI (btP f n i))), some (.int (iI b9))]) hc rfl (Nat.le_of_ble_eq_true rfl) rfl ?_
                refine wi_a1 hc rfl rfl ?_
                refine wi_i1 hc rfl rfl ?_
                refine wi_zeq hc rfl ⟨by omega, by omega⟩ (fun h6_ => ?_) (fun h6_ => ?_)
                · refine wi_ic hc rfl ?_
                  refine wi_pf (kz := 9) rfl hc rfl rfl (by decide) (Nat.le_of_ble_eq_true rfl) rfl (Nat.le_of_ble_eq_true rfl) ⟨rfl, rfl⟩ rfl ?_
                  obtain ⟨s4_, es4_⟩ : ∃ q, q = up s3_ 598 9 3 := ⟨_, rfl⟩
                  rw [← es4_]
                  have hns4_ : NTs s s4_ (i + 1) i 3 (s 598 10) := by rw [es4_]; exact NTs.u9 hns3_
                  refine wi_i1 hc rfl rfl ?_
                  refine wi_bi hc rfl rfl ?_
                  refine wi_ceq hc rfl ⟨by omega, by omega⟩ ⟨by decide, by decide⟩ (fun h7_ => ?_) (fun h7_ => ?_)
                  · refine wi_a1 hc rfl rfl ?_
                    refine wi_a1 hc rfl rfl ?_
                    refine wi_gfv (kz := 7) rfl hc rfl rfl (by decide) (Nat.le_of_ble_eq_true rfl) rfl (v := i + 1) (NTs.r7 hns4_) ?_
                    have hbt357_ := btP_s f n (i + 1)
                    refine wp_cv (b := 598) (As := [.int (iI (i + 1))]) (r := []) hc rfl (by rw [cm_163]; rfl) rfl (Nat.le_of_ble_eq_true rfl) (show 598 < 621 by decide) (by rw [cm_163]; rfl) (ev_mono (bt_163 (d := 0) ((hns4_.1 602 (by decide)).trans hT) ((NTs.r hns4_ (by decide) (by decide) (by decide) (by decide)).trans hN) hr (by omega) (by omega)) (by omega)) ?_
                    show mm_wp _ _ (360, [some (.ref 598), some (.int (iI (btP f n i))), some (.int (iI b9))], [.int (iI (btP f n (i + 1)))], MX L t s4_ l) _
                    refine wi_bi hc rfl rfl ?_
                    refine wi_cne hc rfl ⟨by omega, by omega⟩ ⟨by decide, by decide⟩ (fun h8_ => ?_) (fun h8_ => ?_)
                    · refine wi_rv hc rfl (by rw [cm_166]; rfl) ?_
                      have hpi : skP f n x0 = i := by
                        rw [← hsk]
                        first | exact skP_e (by omega) | exact skP_n (by omega) (by omega)
                      rw [hpi]
                      refine ⟨s4_, l, rfl, i + 1, 3, (s 598 10), (l 598 11), hns4_, NTl.rf, ?_⟩
                      refine tkX_s hf (by omega) (by omega) (by omega) ?_
                      have hb9 := hb9i
                      unfold isSg at hb9 ⊢
                      have hfx1 := hf (i + 1)
                      first
                      | (exfalso; omega)
                      | (refine Or.inl ⟨by omega, by omega, by omega, by omega, ?_⟩; first | (rw [if_pos (by omega)]) | (rw [if_neg (by omega)]))
                      | (refine Or.inr ⟨by omega, by omega, ?_⟩; omega)
                    · refine wi_a1 hc rfl rfl ?_
                      refine wi_dupr hc rfl ?_
                      refine wi_gfv (kz := 7) rfl hc rfl rfl (by decide) (Nat.le_of_ble_eq_true rfl) rfl (v := i + 1) (NTs.r7 hns4_) ?_
                      refine wi_ic hc rfl ?_
                      refine wi_add hc rfl ?_
                      refine wi_pf (kz := 7) rfl hc rfl rfl (by decide) (Nat.le_of_ble_eq_true rfl) rfl (Nat.le_of_ble_eq_true rfl) ⟨rfl, rfl⟩ rfl ?_
                      obtain ⟨s5_, es5_⟩ : ∃ q, q = up s4_ 598 7 ((i + 1) + 1) := ⟨_, rfl⟩
                      rw [← es5_]
                      have hns5_ : NTs s s5_ ((i + 1) + 1) i 3 (s 598 10) := by rw [es5_]; exact NTs.u7 hns4_
                      refine wi_a1 hc rfl rfl ?_
                      refine wi_i1 hc rfl rfl ?_
                      refine wi_bi hc rfl rfl ?_
                      refine wi_cne hc rfl ⟨by omega, by omega⟩ ⟨by decide, by decide⟩ (fun h9_ => ?_) (fun h9_ => ?_)
                      · refine wi_ic hc rfl ?_
                        refine wi_pf (kz := 9) rfl hc rfl rfl (by decide) (Nat.le_of_ble_eq_true rfl) rfl (Nat.le_of_ble_eq_true rfl) ⟨rfl, rfl⟩ rfl ?_
                        obtain ⟨s6_, es6_⟩ : ∃ q, q = up s5_ 598 9 5 := ⟨_, rfl⟩
                        rw [← es6_]
                        have hns6_ : NTs s s6_ ((i + 1) + 1) i 5 (s 598 10) := by rw [es6_]; exact NTs.u9 hns5_
                        refine wi_rv hc rfl (by rw [cm_166]; rfl) ?_
                        have hpi : skP f n x0 = i := by
                          rw [← hsk]
                          first | exact skP_e (by omega) | exact skP_n (by omega) (by omega)
                        rw [hpi]
                        refine ⟨s6_, l, rfl, (i + 1) + 1, 5, (s 598 10), (l 598 11), hns6_, NTl.rf, ?_⟩
                        refine tkX_s hf (by omega) (by omega) (by omega) ?_
                        have hb9 := hb9i
                        unfold isSg at hb9 ⊢
                        have hfx1 := hf (i + 1)
                        first
                        | (exfalso; omega)
                        | (refine Or.inl ⟨by omega, by omega, by omega, by omega, ?_⟩; first | (rw [if_pos (by omega)]) | (rw [if_neg (by omega)]))
                        | (refine Or.inr ⟨by omega, by omega, ?_⟩; omega)
                      · refine wi_ic hc rfl ?_
                        refine wi_go hc rfl ?_
                        refine wi_pf (kz := 9) rfl hc rfl rfl (by decide) (Nat.le_of_ble_eq_true rfl) rfl (Nat.le_of_ble_eq_true rfl) ⟨rfl, rfl⟩ rfl ?_
                        obtain ⟨s7_, es7_⟩ : ∃ q, q = up s5_ 598 9 4 := ⟨_, rfl⟩
                        rw [← es7_]
                        have hns7_ : NTs s s7_ ((i + 1) + 1) i 4 (s 598 10) := by rw [es7_]; exact NTs.u9 hns5_
                        refine wi_rv hc rfl (by rw [cm_166]; rfl) ?_
                        have hpi : skP f n x0 = i := by
                          rw [← hsk]
                          first | exact skP_e (by omega) | exact skP_n (by omega) (by omega)
                        rw [hpi]
                        refine ⟨s7_, l, rfl, (i + 1) + 1, 4, (s 598 10), (l 598 11), hns7_, NTl.rf, ?_⟩
                        refine tkX_s hf (by omega) (by omega) (by omega) ?_
                        have hb9 := hb9i
                        unfold isSg at hb9 ⊢
                        have hfx1 := hf (i + 1)
                        first
                        | (exfalso; omega)
                        | (refine Or.inl ⟨by omega, by omega, by omega, by omega, ?_⟩; first | (rw [if_pos (by omega)]) | (rw [if_neg (by omega)]))
                        | (refine Or.inr ⟨by omega, by omega, ?_⟩; omega)
                  · refine wi_i1 hc rfl rfl ?_
                    refine wi_bi hc rfl rfl ?_
                    refine wi_cne hc rfl ⟨by omega, by omega⟩ ⟨by decide, by decide⟩ (fun h10_ => ?_) (fun h10_ => ?_)
                    · refine wi_rv hc rfl (by rw [cm_166]; rfl) ?_
                      have hpi : skP f n x0 = i := by
                        rw [← hsk]
                        first | exact skP_e (by omega) | exact skP_n (by omega) (by omega)
                      rw [hpi]
                      refine ⟨s4_, l, rfl, i + 1, 3, (s 598 10), (l 598 11), hns4_, NTl.rf, ?_⟩
                      refine tkX_s hf (by omega) (by omega) (by omega) ?_
                      have hb9 := hb9i
                      unfold isSg at hb9 ⊢
                      have hfx1 := hf (i + 1)
                      first
                      | (exfalso; omega)
                      | (refine Or.inl ⟨by omega, by omega, by omega, by omega, ?_⟩; first | (rw [if_pos (by omega)]) | (rw [if_neg (by omega)]))
                      | (refine Or.inr ⟨by omega, by omega, ?_⟩; omega)
                    · refine wi_a1 hc rfl rfl ?_
                      refine wi_a1 hc rfl rfl ?_
                      refine wi_gfv (kz := 7) rfl hc rfl rfl (by decide) (Nat.le_of_ble_eq_true rfl) rfl (v := i + 1) (NTs.r7 hns4_) ?_
                      have hbt357_ := btP_s f n (i + 1)
                      refine wp_cv (b := 598) (As := [.int (iI (i + 1))]) (r := []) hc rfl (by rw [cm_163]; rfl) rfl (Nat.le_of_ble_eq_true rfl) (show 598 < 621 by decide) (by rw [cm_163]; rfl) (ev_mono (bt_163 (d := 0) ((hns4_.1 602 (by decide)).trans hT) ((NTs.r hns4_ (by decide) (by decide) (by decide) (by decide)).trans hN) hr (by omega) (by omega)) (by omega)) ?_
                      show mm_wp _ _ (360, [some (.ref 598), some (.int (iI (btP f n i))), some (.int (iI b9))], [.int (iI (btP f n (i + 1)))], MX L t s4_ l) _
                      refine wi_bi hc rfl rfl ?_
                      refine wi_cne hc rfl ⟨by omega, by omega⟩ ⟨by decide, by decide⟩ (fun h11_ => ?_) (fun h11_ => ?_)
                      · refine wi_rv hc rfl (by rw [cm_166]; rfl) ?_
                        have hpi : skP f n x0 = i := by
                          rw [← hsk]
                          first | exact skP_e (by omega) | exact skP_n (by omega) (by omega)
                        rw [hpi]
                        refine ⟨s4_, l, rfl, i + 1, 3, (s 598 10), (l 598 11), hns4_, NTl.rf, ?_⟩
                        refine tkX_s hf (by omega) (by omega) (by omega) ?_
                        have hb9 := hb9i
                        unfold isSg at hb9 ⊢
                        have hfx1 := hf (i + 1)
                        first
                        | (exfalso; omega)
                        | (refine Or.inl ⟨by omega, by omega, by omega, by omega, ?_⟩; first | (rw [if_pos (by omega)]) | (rw [if_neg (by omega)]))
                        | (refine Or.inr ⟨by omega, by omega, ?_⟩; omega)
                      · refine wi_a1 hc rfl rfl ?_
                        refine wi_dupr hc rfl ?_
                        refine wi_gfv (kz := 7) rfl hc rfl rfl (by decide) (Nat.le_of_ble_eq_true rfl) rfl (v := i + 1) (NTs.r7 hns4_) ?_
                        refine wi_ic hc rfl ?_
                        refine wi_add hc rfl ?_
                        refine wi_pf (kz := 7) rfl hc rfl rfl (by decide) (Nat.le_of_ble_eq_true rfl) rfl (Nat.le_of_ble_eq_true rfl) ⟨rfl, rfl⟩ rfl ?_
                        obtain ⟨s8_, es8_⟩ : ∃ q, q = up s4_ 598 7 ((i + 1) + 1) := ⟨_, rfl⟩
                        rw [← es8_]
                        have hns8_ : NTs s s8_ ((i + 1) + 1) i 3 (s 598 10) := by rw [es8_]; exact NTs.u7 hns4_
                        refine wi_a1 hc rfl rfl ?_
                        refine wi_i1 hc rfl rfl ?_
                        refine wi_bi hc rfl rfl ?_
                        refine wi_cne hc rfl ⟨by omega, by omega⟩ ⟨by decide, by decide⟩ (fun h12_ => ?_) (fun h12_ => ?_)
                        · refine wi_ic hc rfl ?_
                          refine wi_pf (kz := 9) rfl hc rfl rfl (by decide) (Nat.le_of_ble_eq_true rfl) rfl (Nat.le_of_ble_eq_true rfl) ⟨rfl, rfl⟩ rfl ?_
                          obtain ⟨s9_, es9_⟩ : ∃ q, q = up s8_ 598 9 5 := ⟨_, rfl⟩
                          rw [← es9_]
                          have hns9_ : NTs s s9_ ((i + 1) + 1) i 5 (s 598 10) := by rw [es9_]; exact NTs.u9 hns8_
                          refine wi_rv hc rfl (by rw [cm_166]; rfl) ?_
                          have hpi : skP f n x0 = i := by
                            rw [← hsk]
                            first | exact skP_e (by omega) | exact skP_n (by omega) (by omega)
                          rw [hpi]
                          refine ⟨s9_, l, rfl, (i + 1) + 1, 5, (s 598 10), (l 598 11), hns9_, NTl.rf, ?_⟩
                          refine tkX_s hf (by omega) (by omega) (by omega) ?_
                          have hb9 := hb9i
                          unfold isSg at hb9 ⊢
                          have hfx1 := hf (i + 1)
                          first
                          | (exfalso; omega)
                          | (refine Or.inl ⟨by omega, by omega, by omega, by omega, ?_⟩; first | (rw [if_pos (by omega)]) | (rw [if_neg (by omega)]))
                          | (refine Or.inr ⟨by omega, by omega, ?_⟩; omega)
                        · refine wi_ic hc rfl ?_
                          refine wi_go hc rfl ?_
                          refine wi_pf (kz := 9) rfl hc rfl rfl (by decide) (Nat.le_of_ble_eq_true rfl) rfl (Nat.le_of_ble_eq_true rfl) ⟨rfl, rfl⟩ rfl ?_
                          obtain ⟨s10_, es10_⟩ : ∃ q, q = up s8_ 598 9 4 := ⟨_, rfl⟩
                          rw [← es10_]
                          have hns10_ : NTs s s10_ ((i + 1) + 1) i 4 (s 598 10) := by rw [es10_]; exact NTs.u9 hns8_
                          refine wi_rv hc rfl (by rw [cm_166]; rfl) ?_
                          have hpi : skP f n x0 = i := by
                            rw [← hsk]
                            first | exact skP_e (by omega) | exact skP_n (by omega) (by omega)
                          rw [hpi]
                          refine ⟨s10_, l, rfl, (i + 1) + 1, 4, (s 598 10), (l 598 11), hns10_, NTl.rf, ?_⟩
                          refine tkX_s hf (by omega) (by omega) (by omega) ?_
                          have hb9 := hb9i
                          unfold isSg at hb9 ⊢
                          have hfx1 := hf (i + 1)
                          first
                          | (exfalso; omega)
                          | (refine Or.inl ⟨by omega, by omega, by omega, by omega, ?_⟩; first | (rw [if_pos (by omega)]) | (rw [if_neg (by omega)]))
                          | (refine Or.inr ⟨by omega, by omega, ?_⟩; omega)
                · refine wi_i1 hc rfl rfl ?_
                  refine wi_go hc rfl ?_
                  refine wi_pf (kz := 9) rfl hc rfl rfl (by decide) (Nat.le_of_ble_eq_true rfl) rfl (Nat.le_of_ble_eq_true rfl) ⟨rfl, rfl⟩ rfl ?_
                  obtain ⟨s11_, es11_⟩ : ∃ q, q = up s3_ 598 9 (btP f n i) := ⟨_, rfl⟩
                  rw [← es11_]
                  have hns11_ : NTs s s11_ (i + 1) i (btP f n i) (s 598 10) := by rw [es11_]; exact NTs.u9 hns3_
                  refine wi_i1 hc rfl rfl ?_
                  refine wi_bi hc rfl rfl ?_
                  refine wi_ceq hc rfl ⟨by omega, by omega⟩ ⟨by decide, by decide⟩ (fun h13_ => ?_) (fun h13_ => ?_)
                  · refine wi_a1 hc rfl rfl ?_
                    refine wi_a1 hc rfl rfl ?_
                    refine wi_gfv (kz := 7) rfl hc rfl rfl (by decide) (Nat.le_of_ble_eq_true rfl) rfl (v := i + 1) (NTs.r7 hns11_) ?_
                    have hbt357_ := btP_s f n (i + 1)
                    refine wp_cv (b := 598) (As := [.int (iI (i + 1))]) (r := []) hc rfl (by rw [cm_163]; rfl) rfl (Nat.le_of_ble_eq_true rfl) (show 598 < 621 by decide) (by rw [cm_163]; rfl) (ev_mono (bt_163 (d := 0) ((hns11_.1 602 (by decide)).trans hT) ((NTs.r hns11_ (by decide) (by decide) (by decide) (by decide)).trans hN) hr (by omega) (by omega)) (by omega)) ?_
                    show mm_wp _ _ (360, [some (.ref 598), some (.int (iI (btP f n i))), some (.int (iI b9))], [.int (iI (btP f n (i + 1)))], MX L t s11_ l) _
                    refine wi_bi hc rfl rfl ?_
                    refine wi_cne hc rfl ⟨by omega, by omega⟩ ⟨by decide, by decide⟩ (fun h14_ => ?_) (fun h14_ => ?_)
                    · refine wi_rv hc rfl (by rw [cm_166]; rfl) ?_
                      have hpi : skP f n x0 = i := by
                        rw [← hsk]
                        first | exact skP_e (by omega) | exact skP_n (by omega) (by omega)
                      rw [hpi]
                      refine ⟨s11_, l, rfl, i + 1, btP f n i, (s 598 10), (l 598 11), hns11_, NTl.rf, ?_⟩
                      refine tkX_s hf (by omega) (by omega) (by omega) ?_
                      have hb9 := hb9i
                      unfold isSg at hb9 ⊢
                      have hfx1 := hf (i + 1)
                      first
                      | (exfalso; omega)
                      | (refine Or.inl ⟨by omega, by omega, by omega, by omega, ?_⟩; first | (rw [if_pos (by omega)]) | (rw [if_neg (by omega)]))
                      | (refine Or.inr ⟨by omega, by omega, ?_⟩; omega)
                    · refine wi_a1 hc rfl rfl ?_
                      refine wi_dupr hc rfl ?_
                      refine wi_gfv (kz := 7) rfl hc rfl rfl (by decide) (Nat.le_of_ble_eq_true rfl) rfl (v := i + 1) (NTs.r7 hns11_) ?_
                      refine wi_ic hc rfl ?_
                      refine wi_add hc rfl ?_
                      refine wi_pf (kz := 7) rfl hc rfl rfl (by decide) (Nat.le_of_ble_eq_true rfl) rfl (Nat.le_of_ble_eq_true rfl) ⟨rfl, rfl⟩ rfl ?_
                      obtain ⟨s12_, es12_⟩ : ∃ q, q = up s11_ 598 7 ((i + 1) + 1) := ⟨_, rfl⟩
                      rw [← es12_]
                      have hns12_ : NTs s s12_ ((i + 1) + 1) i (btP f n i) (s 598 10) := by rw [es12_]; exact NTs.u7 hns11_
                      refine wi_a1 hc rfl rfl ?_
                      refine wi_i1 hc rfl rfl ?_
                      refine wi_bi hc rfl rfl ?_
                      refine wi_cne hc rfl ⟨by omega, by omega⟩ ⟨by decide, by decide⟩ (fun h15_ => ?_) (fun h15_ => ?_)
                      · refine wi_ic hc rfl ?_
                        refine wi_pf (kz := 9) rfl hc rfl rfl (by decide) (Nat.le_of_ble_eq_true rfl) rfl (Nat.le_of_ble_eq_true rfl) ⟨rfl, rfl⟩ rfl ?_
                        obtain ⟨s13_, es13_⟩ : ∃ q, q = up s12_ 598 9 5 := ⟨_, rfl⟩
                        rw [← es13_]
                        have hns13_ : NTs s s13_ ((i + 1) + 1) i 5 (s 598 10) := by rw [es13_]; exact NTs.u9 hns12_
                        refine wi_rv hc rfl (by rw [cm_166]; rfl) ?_
                        have hpi : skP f n x0 = i := by
                          rw [← hsk]
                          first | exact skP_e (by omega) | exact skP_n (by omega) (by omega)
                        rw [hpi]
                        refine ⟨s13_, l, rfl, (i + 1) + 1, 5, (s 598 10), (l 598 11), hns13_, NTl.rf, ?_⟩
                        refine tkX_s hf (by omega) (by omega) (by omega) ?_
                        have hb9 := hb9i
                        unfold isSg at hb9 ⊢
                        have hfx1 := hf (i + 1)
                        first
                        | (exfalso; omega)
                        | (refine Or.inl ⟨by omega, by omega, by omega, by omega, ?_⟩; first | (rw [if_pos (by omega)]) | (rw [if_neg (by omega)]))
                        | (refine Or.inr ⟨by omega, by omega, ?_⟩; omega)
                      · refine wi_ic hc rfl ?_
                        refine wi_go hc rfl ?_
                        refine wi_pf (kz := 9) rfl hc rfl rfl (by decide) (Nat.le_of_ble_eq_true rfl) rfl (Nat.le_of_ble_eq_true rfl) ⟨rfl, rfl⟩ rfl ?_
                        obtain ⟨s14_, es14_⟩ : ∃ q, q = up s12_ 598 9 4 := ⟨_, rfl⟩
                        rw [← es14_]
                        have hns14_ : NTs s s14_ ((i + 1) + 1) i 4 (s 598 10) := by rw [es14_]; exact NTs.u9 hns12_
                        refine wi_rv hc rfl (by rw [cm_166]; rfl) ?_
                        have hpi : skP f n x0 = i := by
                          rw [← hsk]
                          first | exact skP_e (by omega) | exact skP_n (by omega) (by omega)
                        rw [hpi]
                        refine ⟨s14_, l, rfl, (i + 1) + 1, 4, (s 598 10), (l 598 11), hns14_, NTl.rf, ?_⟩
                        refine tkX_s hf (by omega) (by omega) (by omega) ?_
                        have hb9 := hb9i
                        unfold isSg at hb9 ⊢
                        have hfx1 := hf (i + 1)
                        first
                        | (exfalso; omega)
                        | (refine Or.inl ⟨by omega, by omega, by omega, by omega, ?_⟩; first | (rw [if_pos (by omega)]) | (rw [if_neg (by omega)]))
                        | (refine Or.inr ⟨by omega, by omega, ?_⟩; omega)
                  · refine wi_i1 hc rfl rfl ?_
                    refine wi_bi hc rfl rfl ?_
                    refine wi_cne hc rfl ⟨by omega, by omega⟩ ⟨by decide, by decide⟩ (fun h16_ => ?_) (fun h16_ => ?_)
                    · refine wi_rv hc rfl (by rw [cm_166]; rfl) ?_
                      have hpi : skP f n x0 = i := by
                        rw [← hsk]
                        first | exact skP_e (by omega) | exact skP_n (by omega) (by omega)
                      rw [hpi]
                      refine ⟨s11_, l, rfl, i + 1, btP f n i, (s 598 10), (l 598 11), hns11_, NTl.rf, ?_⟩
                      refine tkX_s hf (by omega) (by omega) (by omega) ?_
                      have hb9 := hb9i
                      unfold isSg at hb9 ⊢
                      have hfx1 := hf (i + 1)
                      first
                      | (exfalso; omega)
                      | (refine Or.inl ⟨by omega, by omega, by omega, by omega, ?_⟩; first | (rw [if_pos (by omega)]) | (rw [if_neg (by omega)]))
                      | (refine Or.inr ⟨by omega, by omega, ?_⟩; omega)
                    · refine wi_a1 hc rfl rfl ?_
                      refine wi_a1 hc rfl rfl ?_
                      refine wi_gfv (kz := 7) rfl hc rfl rfl (by decide) (Nat.le_of_ble_eq_true rfl) rfl (v := i + 1) (NTs.r7 hns11_) ?_
                      have hbt357_ := btP_s f n (i + 1)
                      refine wp_cv (b := 598) (As := [.int (iI (i + 1))]) (r := []) hc rfl (by rw [cm_163]; rfl) rfl (Nat.le_of_ble_eq_true rfl) (show 598 < 621 by decide) (by rw [cm_163]; rfl) (ev_mono (bt_163 (d := 0) ((hns11_.1 602 (by decide)).trans hT) ((NTs.r hns11_ (by decide) (by decide) (by decide) (by decide)).trans hN) hr (by omega) (by omega)) (by omega)) ?_
                      show mm_wp _ _ (360, [some (.ref 598), some (.int (iI (btP f n i))), some (.int (iI b9))], [.int (iI (btP f n (i + 1)))], MX L t s11_ l) _
                      refine wi_bi hc rfl rfl ?_
                      refine wi_cne hc rfl ⟨by omega, by omega⟩ ⟨by decide, by decide⟩ (fun h17_ => ?_) (fun h17_ => ?_)
                      · refine wi_rv hc rfl (by rw [cm_166]; rfl) ?_
                        have hpi : skP f n x0 = i := by
                          rw [← hsk]
                          first | exact skP_e (by omega) | exact skP_n (by omega) (by omega)
                        rw [hpi]
                        refine ⟨s11_, l, rfl, i + 1, btP f n i, (s 598 10), (l 598 11), hns11_, NTl.rf, ?_⟩
                        refine tkX_s hf (by omega) (by omega) (by omega) ?_
                        have hb9 := hb9i
                        unfold isSg at hb9 ⊢
                        have hfx1 := hf (i + 1)
                        first
                        | (exfalso; omega)
                        | (refine Or.inl ⟨by omega, by omega, by omega, by omega, ?_⟩; first | (rw [if_pos (by omega)]) | (rw [if_neg (by omega)]))
                        | (refine Or.inr ⟨by omega, by omega, ?_⟩; omega)
                      · refine wi_a1 hc rfl rfl ?_
                        refine wi_dupr hc rfl ?_
                        refine wi_gfv (kz := 7) rfl hc rfl rfl (by decide) (Nat.le_of_ble_eq_true rfl) rfl (v := i + 1) (NTs.r7 hns11_) ?_
                        refine wi_ic hc rfl ?_
                        refine wi_add hc rfl ?_
                        refine wi_pf (kz := 7) rfl hc rfl rfl (by decide) (Nat.le_of_ble_eq_true rfl) rfl (Nat.le_of_ble_eq_true rfl) ⟨rfl, rfl⟩ rfl ?_
                        obtain ⟨s15_, es15_⟩ : ∃ q, q = up s11_ 598 7 ((i + 1) + 1) := ⟨_, rfl⟩
                        rw [← es15_]
                        have hns15_ : NTs s s15_ ((i + 1) + 1) i (btP f n i) (s 598 10) := by rw [es15_]; exact NTs.u7 hns11_
                        refine wi_a1 hc rfl rfl ?_
                        refine wi_i1 hc rfl rfl ?_
                        refine wi_bi hc rfl rfl ?_
                        refine wi_cne hc rfl ⟨by omega, by omega⟩ ⟨by decide, by decide⟩ (fun h18_ => ?_) (fun h18_ => ?_)
                        · refine wi_ic hc rfl ?_
                          refine wi_pf (kz := 9) rfl hc rfl rfl (by decide) (Nat.le_of_ble_eq_true rfl) rfl (Nat.le_of_ble_eq_true rfl) ⟨rfl, rfl⟩ rfl ?_
                          obtain ⟨s16_, es16_⟩ : ∃ q, q = up s15_ 598 9 5 := ⟨_, rfl⟩
                          rw [← es16_]
                          have hns16_ : NTs s s16_ ((i + 1) + 1) i 5 (s 598 10) := by rw [es16_]; exact NTs.u9 hns15_
                          refine wi_rv hc rfl (by rw [cm_166]; rfl) ?_
                          have hpi : skP f n x0 = i := by
                            rw [← hsk]
                            first | exact skP_e (by omega) | exact skP_n (by omega) (by omega)
                          rw [hpi]
                          refine ⟨s16_, l, rfl, (i + 1) + 1, 5, (s 598 10), (l 598 11), hns16_, NTl.rf, ?_⟩
                          refine tkX_s hf (by omega) (by omega) (by omega) ?_
                          have hb9 := hb9i
                          unfold isSg at hb9 ⊢
                          have hfx1 := hf (i + 1)
                          first
                          | (exfalso; omega)
                          | (refine Or.inl ⟨by omega, by omega, by omega, by omega, ?_⟩; first | (rw [if_pos (by omega)]) | (rw [if_neg (by omega)]))
                          | (refine Or.inr ⟨by omega, by omega, ?_⟩; omega)
                        · refine wi_ic hc rfl ?_
                          refine wi_go hc rfl ?_
                          refine wi_pf (kz := 9) rfl hc rfl rfl (by decide) (Nat.le_of_ble_eq_true rfl) rfl (Nat.le_of_ble_eq_true rfl) ⟨rfl, rfl⟩ rfl ?_
                          obtain ⟨s17_, es17_⟩ : ∃ q, q = up s15_ 598 9 4 := ⟨_, rfl⟩
                          rw [← es17_]
                          have hns17_ : NTs s s17_ ((i + 1) + 1) i 4 (s 598 10) := by rw [es17_]; exact NTs.u9 hns15_
                          refine wi_rv hc rfl (by rw [cm_166]; rfl) ?_
                          have hpi : skP f n x0 = i := by
                            rw [← hsk]
                            first | exact skP_e (by omega) | exact skP_n (by omega) (by omega)
                          rw [hpi]
                          refine ⟨s17_, l, rfl, (i + 1) + 1, 4, (s 598 10), (l 598 11), hns17_, NTl.rf, ?_⟩
                          refine tkX_s hf (by omega) (by omega) (by omega) ?_
                          have hb9 := hb9i
                          unfold isSg at hb9 ⊢
                          have hfx1 := hf (i + 1)
                          first
                          | (exfalso; omega)
                          | (refine Or.inl ⟨by omega, by omega, by omega, by omega, ?_⟩; first | (rw [if_pos (by omega)]) | (rw [if_neg (by omega)]))
                          | (refine Or.inr ⟨by omega, by omega, ?_⟩; omega)
              refine wi_i1 hc rfl rfl ?_
              refine wi_bi hc rfl rfl ?_
              refine wi_ceq hc rfl ⟨by omega, by omega⟩ ⟨by decide, by decide⟩ (fun h19_ => ?_) (fun h19_ => ?_)
              · refine wi_ic hc rfl ?_
                refine wi_go hc rfl ?_
                exact join326_ 1 (by first | exact Or.inl rfl | exact Or.inr rfl) (by unfold isSg; omega)
              · refine wi_i1 hc rfl rfl ?_
                refine wi_bi hc rfl rfl ?_
                refine wi_ceq hc rfl ⟨by omega, by omega⟩ ⟨by decide, by decide⟩ (fun h20_ => ?_) (fun h20_ => ?_)
                · refine wi_ic hc rfl ?_
                  refine wi_go hc rfl ?_
                  exact join326_ 1 (by first | exact Or.inl rfl | exact Or.inr rfl) (by unfold isSg; omega)
                · refine wi_i1 hc rfl rfl ?_
                  refine wi_bi hc rfl rfl ?_
                  refine wi_ceq hc rfl ⟨by omega, by omega⟩ ⟨by decide, by decide⟩ (fun h21_ => ?_) (fun h21_ => ?_)
                  · refine wi_ic hc rfl ?_
                    refine wi_go hc rfl ?_
                    exact join326_ 1 (by first | exact Or.inl rfl | exact Or.inr rfl) (by unfold isSg; omega)
                  · refine wi_i1 hc rfl rfl ?_
                    refine wi_bi hc rfl rfl ?_
                    refine wi_ceq hc rfl ⟨by omega, by omega⟩ ⟨by decide, by decide⟩ (fun h22_ => ?_) (fun h22_ => ?_)
                    · refine wi_ic hc rfl ?_
                      refine wi_go hc rfl ?_
                      exact join326_ 1 (by first | exact Or.inl rfl | exact Or.inr rfl) (by unfold isSg; omega)
                    · refine wi_i1 hc rfl rfl ?_
                      refine wi_bi hc rfl rfl ?_
                      refine wi_ceq hc rfl ⟨by omega, by omega⟩ ⟨by decide, by decide⟩ (fun h23_ => ?_) (fun h23_ => ?_)
                      · refine wi_ic hc rfl ?_
                        refine wi_go hc rfl ?_
                        exact join326_ 1 (by first | exact Or.inl rfl | exact Or.inr rfl) (by unfold isSg; omega)
                      · refine wi_i1 hc rfl rfl ?_
                        refine wi_bi hc rfl rfl ?_
                        refine wi_ceq hc rfl ⟨by omega, by omega⟩ ⟨by decide, by decide⟩ (fun h24_ => ?_) (fun h24_ => ?_)
                        · refine wi_ic hc rfl ?_
                          refine wi_go hc rfl ?_
                          exact join326_ 1 (by first | exact Or.inl rfl | exact Or.inr rfl) (by unfold isSg; omega)
                        · refine wi_i1 hc rfl rfl ?_
                          refine wi_bi hc rfl rfl ?_
                          refine wi_ceq hc rfl ⟨by omega, by omega⟩ ⟨by decide, by decide⟩ (fun h25_ => ?_) (fun h25_ => ?_)
                          · refine wi_ic hc rfl ?_
                            refine wi_go hc rfl ?_
                            exact join326_ 1 (by first | exact Or.inl rfl | exact Or.inr rfl) (by unfold isSg; omega)
                          · refine wi_i1 hc rfl rfl ?_
                            refine wi_bi hc rfl rfl ?_
                            refine wi_ceq hc rfl ⟨by omega, by omega⟩ ⟨by decide, by decide⟩ (fun h26_ => ?_) (fun h26_ => ?_)
                            · refine wi_ic hc rfl ?_
                              refine wi_go hc rfl ?_
                              exact join326_ 1 (by first | exact Or.inl rfl | exact Or.inr rfl) (by unfold isSg; omega)
                            · refine wi_i1 hc rfl rfl ?_
                              refine wi_bi hc rfl rfl ?_
                              refine wi_ceq hc rfl ⟨by omega, by omega⟩ ⟨by decide, by decide⟩ (fun h27_ => ?_) (fun h27_ => ?_)
                              · refine wi_ic hc rfl ?_
                                refine wi_go hc rfl ?_
                                exact join326_ 1 (by first | exact Or.inl rfl | exact Or.inr rfl) (by unfold isSg; omega)
                              · refine wi_i1 hc rfl rfl ?_
                                refine wi_bi hc rfl rfl ?_
                                refine wi_ceq hc rfl ⟨by omega, by omega⟩ ⟨by decide, by decide⟩ (fun h28_ => ?_) (fun h28_ => ?_)
                                · refine wi_ic hc rfl ?_
                                  refine wi_go hc rfl ?_
                                  exact join326_ 1 (by first | exact Or.inl rfl | exact Or.inr rfl) (by unfold isSg; omega)
                                · refine wi_i1 hc rfl rfl ?_
                                  refine wi_bi hc rfl rfl ?_
                                  refine wi_cne hc rfl ⟨by omega, by omega⟩ ⟨by decide, by decide⟩ (fun h29_ => ?_) (fun h29_ => ?_)
                                  · refine wi_ic hc rfl ?_
                                    exact join326_ 0 (by first | exact Or.inl rfl | exact Or.inr rfl) (by unfold isSg; omega)
                                  · refine wi_ic hc rfl ?_
                                    refine wi_go hc rfl ?_
                                    exact join326_ 1 (by first | exact Or.inl rfl | exact Or.inr rfl) (by unfold isSg; omega)
            · refine wi_a1 hc rfl rfl ?_
              refine wi_ic hc rfl ?_
              refine wi_pf (kz := 9) rfl hc rfl rfl (by decide) (Nat.le_of_ble_eq_true rfl) rfl (Nat.le_of_ble_eq_true rfl) ⟨rfl, rfl⟩ rfl ?_
              obtain ⟨s18_, es18_⟩ : ∃ q, q = up s2_ 598 9 2 := ⟨_, rfl⟩
              rw [← es18_]
              have hns18_ : NTs s s18_ i i 2 (s 598 10) := by rw [es18_]; exact NTs.u9 hns2_
              refine wi_a1 hc rfl rfl ?_
              refine wl_ic (z := 0) hc ⟨_, rfl, rfl⟩ ?_
              refine wi_pl (kz := 11) rfl hc rfl rfl (by decide) (Nat.le_of_ble_eq_true rfl) rfl (Nat.le_of_ble_eq_true rfl) ⟨rfl, rfl⟩ rfl ?_
              obtain ⟨l19_, el19_⟩ : ∃ q, q = up l 598 11 0 := ⟨_, rfl⟩
              rw [← el19_]
              have hnl19_ : NTl l l19_ 0 := by rw [el19_]; exact NTl.u11 NTl.rf
              have loop161_ : ∀ j : Int, j ≤ n → i ≤ j → ∀ s1 l1 : Nat → Int → Int, NTs s s1 j i 2 (s 598 10) → NTl l l1 (wSo f i j) → ((j = i ∧ lastP f n i = runI (fun k => ltB (f k)) (n - 1 - i).toNat i) ∨ (i < j ∧ lastP f n i = runI (fun k => ltB (f k)) (n - 1 - (j - 1)).toNat (j - 1))) → (∀ k, i ≤ k → k < j → 1 ≤ f k) → mm_wp (mm_Ev mm_ct mm_CM (d + 2)) 166 (161, [some (.ref 598), some (.int (iI (btP f n i))), none], [], MX L t s1 l1) (fun res => ∃ s1 l1, res = (none, MX L t s1 l1) ∧ ∃ e q u w : Int, NTs s s1 e (skP f n x0) q u ∧ NTl l l1 w ∧ tkX f n (skP f n x0) e q u w) := by
                refine up_ind ?_
                intro j hj9 ih2 hij s1 l1 hM2 hL2 hrn hbs
                have hfj := hf j
                have hwr := wSo_r hf i j
                refine wi_a1 hc rfl rfl ?_
                refine wi_a1 hc rfl rfl ?_
                refine wi_gfv (kz := 7) rfl hc rfl rfl (by decide) (Nat.le_of_ble_eq_true rfl) rfl (v := j) (NTs.r7 hM2) ?_
                have hbt166_ := btP_s f n j
                refine wp_cv (b := 598) (As := [.int (iI j)]) (r := []) hc rfl (by rw [cm_163]; rfl) rfl (Nat.le_of_ble_eq_true rfl) (show 598 < 621 by decide) (by rw [cm_163]; rfl) (ev_mono (bt_163 (d := 0) ((hM2.1 602 (by decide)).trans hT) ((NTs.r hM2 (by decide) (by decide) (by decide) (by decide)).trans hN) hr (by omega) (by omega)) (by omega)) ?_
                show mm_wp _ _ (169, [some (.ref 598), some (.int (iI (btP f n i))), none], [.int (iI (btP f n j))], MX L t s1 l1) _
                refine wp_cs (As := [.int (iI (btP f n j))]) (r := []) hc rfl (by rw [cm_164]; rfl) rfl (Nat.le_of_ble_eq_true rfl) (ev_mono (sp_164 (d := 0) ⟨by omega, by omega⟩) (by omega)) ?_
                show mm_wp _ _ (172, [some (.ref 598), some (.int (iI (btP f n i))), none], [.int (iI (bI ((97 ≤ (btP f n j) ∧ (btP f n j) ≤ 122) ∨ (65 ≤ (btP f n j) ∧ (btP f n j) ≤ 90))))], MX L t s1 l1) _
                refine wi_beq hc rfl (fun h30_ => ?_) (fun h30_ => ?_)
                · refine wi_a1 hc rfl rfl ?_
                  refine wi_gfv (kz := 7) rfl hc rfl rfl (by decide) (Nat.le_of_ble_eq_true rfl) rfl (v := j) (NTs.r7 hM2) ?_
                  refine wi_a1 hc rfl rfl ?_
                  refine wi_gfv (kz := 8) rfl hc rfl rfl (by decide) (Nat.le_of_ble_eq_true rfl) rfl (v := i) (NTs.r8 hM2) ?_
                  refine wi_sub hc rfl ?_
                  refine wi_bi hc rfl rfl ?_
                  refine wi_cle hc rfl ⟨by omega, by omega⟩ ⟨by decide, by decide⟩ (fun h31_ => ?_) (fun h31_ => ?_)
                  · refine wi_rv hc rfl (by rw [cm_166]; rfl) ?_
                    have hpi : skP f n x0 = i := by
                      rw [← hsk]
                      first | exact skP_e (by omega) | exact skP_n (by omega) (by omega)
                    rw [hpi]
                    refine ⟨s1, l1, rfl, j, 2, (s 598 10), wSo f i j, hM2, hL2, ?_⟩
                    have hle : lastP f n i = j - 1 := by
                      rcases hrn with hrn | hrn
                      · exfalso; have hji : btP f n j = btP f n i := by rw [hrn.1]
                        omega
                      · rw [hrn.2]
                        by_cases g : j < n
                        · have h := runI_s (P := fun k => ltB (f k)) (n := n) (i := j - 1) (by omega)
                          rw [show j - 1 + 1 = j by omega] at h
                          rw [h, if_neg (fun w => by have := ltB_t.mp w; omega)]
                        · exact runI_e (by omega)
                    have hij2 : i < j := by
                      rcases hrn with hrn | hrn
                      · exfalso; have hji : btP f n j = btP f n i := by rw [hrn.1]
                        omega
                      · exact hrn.1
                    exact tkX_w hf (by omega) (by omega) hle hij2 hbs (by omega) (by unfold wSo; first | (rw [if_pos (by omega), if_pos (by omega)]) | (rw [if_neg (by omega)]))
                  · refine wi_a1 hc rfl rfl ?_
                    refine wl_ic (z := 0) hc ⟨_, rfl, rfl⟩ ?_
                    refine wi_pl (kz := 11) rfl hc rfl rfl (by decide) (Nat.le_of_ble_eq_true rfl) rfl (Nat.le_of_ble_eq_true rfl) ⟨rfl, rfl⟩ rfl ?_
                    obtain ⟨l20_, el20_⟩ : ∃ q, q = up l1 598 11 0 := ⟨_, rfl⟩
                    rw [← el20_]
                    have hnl20_ : NTl l l20_ 0 := by rw [el20_]; exact NTl.u11 hL2
                    refine wi_go hc rfl ?_
                    refine wi_rv hc rfl (by rw [cm_166]; rfl) ?_
                    have hpi : skP f n x0 = i := by
                      rw [← hsk]
                      first | exact skP_e (by omega) | exact skP_n (by omega) (by omega)
                    rw [hpi]
                    refine ⟨s1, l20_, rfl, j, 2, (s 598 10), 0, hM2, hnl20_, ?_⟩
                    have hle : lastP f n i = j - 1 := by
                      rcases hrn with hrn | hrn
                      · exfalso; have hji : btP f n j = btP f n i := by rw [hrn.1]
                        omega
                      · rw [hrn.2]
                        by_cases g : j < n
                        · have h := runI_s (P := fun k => ltB (f k)) (n := n) (i := j - 1) (by omega)
                          rw [show j - 1 + 1 = j by omega] at h
                          rw [h, if_neg (fun w => by have := ltB_t.mp w; omega)]
                        · exact runI_e (by omega)
                    have hij2 : i < j := by
                      rcases hrn with hrn | hrn
                      · exfalso; have hji : btP f n j = btP f n i := by rw [hrn.1]
                        omega
                      · exact hrn.1
                    exact tkX_w hf (by omega) (by omega) hle hij2 hbs ⟨by decide, by decide⟩ (by rw [if_neg (by omega)])
                · refine wi_a1 hc rfl rfl ?_
                  refine wi_gfv (kz := 7) rfl hc rfl rfl (by decide) (Nat.le_of_ble_eq_true rfl) rfl (v := j) (NTs.r7 hM2) ?_
                  refine wi_a1 hc rfl rfl ?_
                  refine wi_gfv (kz := 8) rfl hc rfl rfl (by decide) (Nat.le_of_ble_eq_true rfl) rfl (v := i) (NTs.r8 hM2) ?_
                  refine wi_sub hc rfl ?_
                  refine wi_bi hc rfl rfl ?_
                  refine wi_cge hc rfl ⟨by omega, by omega⟩ ⟨by decide, by decide⟩ (fun h32_ => ?_) (fun h32_ => ?_)
                  · refine wi_a1 hc rfl rfl ?_
                    refine wi_dupr hc rfl ?_
                    refine wi_gfv (kz := 7) rfl hc rfl rfl (by decide) (Nat.le_of_ble_eq_true rfl) rfl (v := j) (NTs.r7 hM2) ?_
                    refine wi_ic hc rfl ?_
                    refine wi_add hc rfl ?_
                    refine wi_pf (kz := 7) rfl hc rfl rfl (by decide) (Nat.le_of_ble_eq_true rfl) rfl (Nat.le_of_ble_eq_true rfl) ⟨rfl, rfl⟩ rfl ?_
                    obtain ⟨s21_, es21_⟩ : ∃ q, q = up s1 598 7 (j + 1) := ⟨_, rfl⟩
                    rw [← es21_]
                    have hns21_ : NTs s s21_ (j + 1) i 2 (s 598 10) := by rw [es21_]; exact NTs.u7 hM2
                    refine wi_go hc rfl ?_
                    have hrn2 : lastP f n i = runI (fun k => ltB (f k)) (n - 1 - j).toNat j := by
                      rcases hrn with hrn | hrn
                      · rw [hrn.1]; exact hrn.2
                      · have h := runI_s (P := fun k => ltB (f k)) (n := n) (i := j - 1) (by omega)
                        rw [show j - 1 + 1 = j by omega, if_pos (ltB_t.mpr (by omega))] at h
                        exact hrn.2.trans h
                    have hw2 : wSo f i j = wSo f i (j + 1) := by
                      exact (wSo_7 (by omega)).symm
                    have hL3 : NTl l l1 (wSo f i (j + 1)) := by rw [← hw2]; exact hL2
                    exact ih2 (by omega) (by omega) s21_ l1 hns21_ hL3 (Or.inr ⟨by omega, by rw [show j + 1 - 1 = j by omega]; exact hrn2⟩) (fun k h1 h2 => by
                      rcases (by omega : k < j ∨ k = j) with h | h
                      · exact hbs k h1 h
                      · rw [h]; omega)
                  · refine wi_a1 hc rfl rfl ?_
                    refine wi_a1 hc rfl rfl ?_
                    refine wi_glv (kz := 11) rfl hc rfl rfl (by decide) (Nat.le_of_ble_eq_true rfl) rfl (v := wSo f i j) (NTl.r11 hL2) ?_
                    refine wi_bi hc rfl rfl ?_
                    refine wl_shl 256 rfl hc rfl (by omega) (by omega) ?_
                    refine wi_a1 hc rfl rfl ?_
                    refine wi_a1 hc rfl rfl ?_
                    refine wi_gfv (kz := 7) rfl hc rfl rfl (by decide) (Nat.le_of_ble_eq_true rfl) rfl (v := j) (NTs.r7 hM2) ?_
                    have hbt202_ := btP_s f n j
                    refine wp_cv (b := 598) (As := [.int (iI j)]) (r := [.long (lI ((wSo f i j) * 256)), .ref 598]) hc rfl (by rw [cm_163]; rfl) rfl (Nat.le_of_ble_eq_true rfl) (show 598 < 621 by decide) (by rw [cm_163]; rfl) (ev_mono (bt_163 (d := 0) ((hM2.1 602 (by decide)).trans hT) ((NTs.r hM2 (by decide) (by decide) (by decide) (by decide)).trans hN) hr (by omega) (by omega)) (by omega)) ?_
                    show mm_wp _ _ (205, [some (.ref 598), some (.int (iI (btP f n i))), none], [.int (iI (btP f n j)), .long (lI ((wSo f i j) * 256)), .ref 598], MX L t s1 l1) _
                    refine wl_i2l hc rfl ⟨by omega, by omega⟩ ?_
                    refine wl_or hc rfl (by omega) (by omega) ?_
                    refine wi_pl (kz := 11) rfl hc rfl rfl (by decide) (Nat.le_of_ble_eq_true rfl) rfl (Nat.le_of_ble_eq_true rfl) ⟨rfl, rfl⟩ rfl ?_
                    obtain ⟨l22_, el22_⟩ : ∃ q, q = up l1 598 11 (orI ((wSo f i j) * 256) (btP f n j)) := ⟨_, rfl⟩
                    rw [← el22_]
                    have hnl22_ : NTl l l22_ (orI ((wSo f i j) * 256) (btP f n j)) := by rw [el22_]; exact NTl.u11 hL2
                    refine wi_a1 hc rfl rfl ?_
                    refine wi_dupr hc rfl ?_
                    refine wi_gfv (kz := 7) rfl hc rfl rfl (by decide) (Nat.le_of_ble_eq_true rfl) rfl (v := j) (NTs.r7 hM2) ?_
                    refine wi_ic hc rfl ?_
                    refine wi_add hc rfl ?_
                    refine wi_pf (kz := 7) rfl hc rfl rfl (by decide) (Nat.le_of_ble_eq_true rfl) rfl (Nat.le_of_ble_eq_true rfl) ⟨rfl, rfl⟩ rfl ?_
                    obtain ⟨s23_, es23_⟩ : ∃ q, q = up s1 598 7 (j + 1) := ⟨_, rfl⟩
                    rw [← es23_]
                    have hns23_ : NTs s s23_ (j + 1) i 2 (s 598 10) := by rw [es23_]; exact NTs.u7 hM2
                    refine wi_go hc rfl ?_
                    have hrn2 : lastP f n i = runI (fun k => ltB (f k)) (n - 1 - j).toNat j := by
                      rcases hrn with hrn | hrn
                      · rw [hrn.1]; exact hrn.2
                      · have h := runI_s (P := fun k => ltB (f k)) (n := n) (i := j - 1) (by omega)
                        rw [show j - 1 + 1 = j by omega, if_pos (ltB_t.mpr (by omega))] at h
                        exact hrn.2.trans h
                    have hw2 : orI ((wSo f i j) * 256) (btP f n j) = wSo f i (j + 1) := by
                      rw [orI_8 (by omega) (by omega) (by omega), wSo_s (by omega) (by omega)]; omega
                    have hL3 : NTl l l22_ (wSo f i (j + 1)) := by rw [← hw2]; exact hnl22_
                    exact ih2 (by omega) (by omega) s23_ l22_ hns23_ hL3 (Or.inr ⟨by omega, by rw [show j + 1 - 1 = j by omega]; exact hrn2⟩) (fun k h1 h2 => by
                      rcases (by omega : k < j ∨ k = j) with h | h
                      · exact hbs k h1 h
                      · rw [h]; omega)
              have hl0 : lastP f n i = runI (fun k => ltB (f k)) (n - 1 - i).toNat i := by
                unfold lastP
                rw [if_pos (ltB_t.mpr (by omega))]
              have hL0 : NTl l l19_ (wSo f i i) := by rw [wSo_p]; exact hnl19_
              exact loop161_ i (by omega) (by omega) s18_ l19_ hns18_ hL0 (Or.inl ⟨rfl, hl0⟩) (fun k h1 h2 => by omega)
          · refine wi_a1 hc rfl rfl ?_
            refine wi_ic hc rfl ?_
            refine wi_pf (kz := 9) rfl hc rfl rfl (by decide) (Nat.le_of_ble_eq_true rfl) rfl (Nat.le_of_ble_eq_true rfl) ⟨rfl, rfl⟩ rfl ?_
            obtain ⟨s24_, es24_⟩ : ∃ q, q = up s2_ 598 9 1 := ⟨_, rfl⟩
            rw [← es24_]
            have hns24_ : NTs s s24_ i i 1 (s 598 10) := by rw [es24_]; exact NTs.u9 hns2_
            refine wi_a1 hc rfl rfl ?_
            refine wi_ic hc rfl ?_
            refine wi_pf (kz := 10) rfl hc rfl rfl (by decide) (Nat.le_of_ble_eq_true rfl) rfl (Nat.le_of_ble_eq_true rfl) ⟨rfl, rfl⟩ rfl ?_
            obtain ⟨s25_, es25_⟩ : ∃ q, q = up s24_ 598 10 0 := ⟨_, rfl⟩
            rw [← es25_]
            have hns25_ : NTs s s25_ i i 1 0 := by rw [es25_]; exact NTs.u10 hns24_
            have loop85_ : ∀ j : Int, j ≤ n → i ≤ j → ∀ s1 : Nat → Int → Int, ∀ u : Int, NTs s s1 j i 1 u → (0 ≤ u ∧ u ≤ 1000009) → ((j = i ∧ lastP f n i = runI (fun k => fgB (f k)) (n - 1 - i).toNat i) ∨ (i < j ∧ lastP f n i = runI (fun k => fgB (f k)) (n - 1 - (j - 1)).toNat (j - 1))) → j ≤ lastP f n i + 1 → nbrP f i (lastP f n i) = nbrF f (lastP f n i + 1 - j).toNat j (minI u 10000) → mm_wp (mm_Ev mm_ct mm_CM (d + 2)) 166 (85, [some (.ref 598), some (.int (iI (btP f n i))), none], [], MX L t s1 l) (fun res => ∃ s1 l1, res = (none, MX L t s1 l1) ∧ ∃ e q u w : Int, NTs s s1 e (skP f n x0) q u ∧ NTl l l1 w ∧ tkX f n (skP f n x0) e q u w) := by
              refine up_ind ?_
              intro j hj9 ih2 hij s1 u hM2 hu9 hrn hjl hnb
              have hfj := hf j
              have hmu := minI_spec u 10000
              refine wi_a1 hc rfl rfl ?_
              refine wi_a1 hc rfl rfl ?_
              refine wi_gfv (kz := 7) rfl hc rfl rfl (by decide) (Nat.le_of_ble_eq_true rfl) rfl (v := j) (NTs.r7 hM2) ?_
              have hbt90_ := btP_s f n j
              refine wp_cv (b := 598) (As := [.int (iI j)]) (r := []) hc rfl (by rw [cm_163]; rfl) rfl (Nat.le_of_ble_eq_true rfl) (show 598 < 621 by decide) (by rw [cm_163]; rfl) (ev_mono (bt_163 (d := 0) ((hM2.1 602 (by decide)).trans hT) ((NTs.r hM2 (by decide) (by decide) (by decide) (by decide)).trans hN) hr (by omega) (by omega)) (by omega)) ?_
              show mm_wp _ _ (93, [some (.ref 598), some (.int (iI (btP f n i))), none], [.int (iI (btP f n j))], MX L t s1 l) _
              refine wp_cs (As := [.int (iI (btP f n j))]) (r := []) hc rfl (by rw [cm_165]; rfl) rfl (Nat.le_of_ble_eq_true rfl) (ev_mono (sp_165 (d := 0) ⟨by omega, by omega⟩) (by omega)) ?_
              show mm_wp _ _ (96, [some (.ref 598), some (.int (iI (btP f n i))), none], [.int (iI (bI (48 ≤ (btP f n j) ∧ (btP f n j) ≤ 57)))], MX L t s1 l) _
              refine wi_beq hc rfl (fun h33_ => ?_) (fun h33_ => ?_)
              · refine wi_rv hc rfl (by rw [cm_166]; rfl) ?_
                have hpi : skP f n x0 = i := by
                  rw [← hsk]
                  first | exact skP_e (by omega) | exact skP_n (by omega) (by omega)
                rw [hpi]
                refine ⟨s1, l, rfl, j, 1, u, (l 598 11), hM2, NTl.rf, ?_⟩
                have hle : lastP f n i = j - 1 := by
                  rcases hrn with hrn | hrn
                  · exfalso; have hji : btP f n j = btP f n i := by rw [hrn.1]
                    omega
                  · rw [hrn.2]
                    by_cases g : j < n
                    · have h := runI_s (P := fun k => fgB (f k)) (n := n) (i := j - 1) (by omega)
                      rw [show j - 1 + 1 = j by omega] at h
                      rw [h, if_neg (fun w => by have := fgB_t.mp w; omega)]
                    · exact runI_e (by omega)
                exact tkX_n (by omega) (by omega) hle (by omega) (by rw [hnb, nbrF_e (by omega)])
              · refine wi_a1 hc rfl rfl ?_
                refine wi_gfv (kz := 10) rfl hc rfl rfl (by decide) (Nat.le_of_ble_eq_true rfl) rfl (v := u) (NTs.r10 hM2) ?_
                refine wi_ldc (z := 100000) hc rfl rfl ?_
                refine wi_cge hc rfl ⟨by omega, by omega⟩ ⟨by decide, by decide⟩ (fun h34_ => ?_) (fun h34_ => ?_)
                · refine wi_a1 hc rfl rfl ?_
                  refine wi_dupr hc rfl ?_
                  refine wi_gfv (kz := 7) rfl hc rfl rfl (by decide) (Nat.le_of_ble_eq_true rfl) rfl (v := j) (NTs.r7 hM2) ?_
                  refine wi_ic hc rfl ?_
                  refine wi_add hc rfl ?_
                  refine wi_pf (kz := 7) rfl hc rfl rfl (by decide) (Nat.le_of_ble_eq_true rfl) rfl (Nat.le_of_ble_eq_true rfl) ⟨rfl, rfl⟩ rfl ?_
                  obtain ⟨s26_, es26_⟩ : ∃ q, q = up s1 598 7 (j + 1) := ⟨_, rfl⟩
                  rw [← es26_]
                  have hns26_ : NTs s s26_ (j + 1) i 1 u := by rw [es26_]; exact NTs.u7 hM2
                  refine wi_go hc rfl ?_
                  have hrn2 : lastP f n i = runI (fun k => fgB (f k)) (n - 1 - j).toNat j := by
                    rcases hrn with hrn | hrn
                    · rw [hrn.1]; exact hrn.2
                    · have h := runI_s (P := fun k => fgB (f k)) (n := n) (i := j - 1) (by omega)
                      rw [show j - 1 + 1 = j by omega, if_pos (fgB_t.mpr (by omega))] at h
                      exact hrn.2.trans h
                  have hrr := runI_r (P := fun k => fgB (f k)) (n - 1 - j).toNat j
                  have hnb2 : nbrP f i (lastP f n i) = nbrF f (lastP f n i + 1 - (j + 1)).toNat (j + 1) (minI u 10000) := by
                    rw [hnb, nbrF_s (by omega), if_pos (fgB_t.mpr (by omega))]
                    have hm1 := minI_spec (minI u 10000 * 10 + f j - 48) 10000
                    have hm2 := minI_spec u 10000
                    rw [show minI (minI u 10000 * 10 + f j - 48) 10000 = minI u 10000 by omega]
                  exact ih2 (by omega) (by omega) s26_ u hns26_ (by omega) (Or.inr ⟨by omega, by rw [show j + 1 - 1 = j by omega]; exact hrn2⟩) (by omega) hnb2
                · refine wi_a1 hc rfl rfl ?_
                  refine wi_bi hc rfl rfl ?_
                  refine wi_a1 hc rfl rfl ?_
                  refine wi_gfv (kz := 10) rfl hc rfl rfl (by decide) (Nat.le_of_ble_eq_true rfl) rfl (v := u) (NTs.r10 hM2) ?_
                  refine wi_mul hc rfl ?_
                  refine wi_a1 hc rfl rfl ?_
                  refine wi_a1 hc rfl rfl ?_
                  refine wi_gfv (kz := 7) rfl hc rfl rfl (by decide) (Nat.le_of_ble_eq_true rfl) rfl (v := j) (NTs.r7 hM2) ?_
                  have hbt121_ := btP_s f n j
                  refine wp_cv (b := 598) (As := [.int (iI j)]) (r := [.int (iI (10 * u)), .ref 598]) hc rfl (by rw [cm_163]; rfl) rfl (Nat.le_of_ble_eq_true rfl) (show 598 < 621 by decide) (by rw [cm_163]; rfl) (ev_mono (bt_163 (d := 0) ((hM2.1 602 (by decide)).trans hT) ((NTs.r hM2 (by decide) (by decide) (by decide) (by decide)).trans hN) hr (by omega) (by omega)) (by omega)) ?_
                  show mm_wp _ _ (124, [some (.ref 598), some (.int (iI (btP f n i))), none], [.int (iI (btP f n j)), .int (iI (10 * u)), .ref 598], MX L t s1 l) _
                  refine wi_add hc rfl ?_
                  refine wi_bi hc rfl rfl ?_
                  refine wi_sub hc rfl ?_
                  refine wi_pf (kz := 10) rfl hc rfl rfl (by decide) (Nat.le_of_ble_eq_true rfl) rfl (Nat.le_of_ble_eq_true rfl) ⟨rfl, rfl⟩ rfl ?_
                  obtain ⟨s27_, es27_⟩ : ∃ q, q = up s1 598 10 (((10 * u) + (btP f n j)) - 48) := ⟨_, rfl⟩
                  rw [← es27_]
                  have hns27_ : NTs s s27_ j i 1 (((10 * u) + (btP f n j)) - 48) := by rw [es27_]; exact NTs.u10 hM2
                  refine wi_a1 hc rfl rfl ?_
                  refine wi_dupr hc rfl ?_
                  refine wi_gfv (kz := 7) rfl hc rfl rfl (by decide) (Nat.le_of_ble_eq_true rfl) rfl (v := j) (NTs.r7 hns27_) ?_
                  refine wi_ic hc rfl ?_
                  refine wi_add hc rfl ?_
                  refine wi_pf (kz := 7) rfl hc rfl rfl (by decide) (Nat.le_of_ble_eq_true rfl) rfl (Nat.le_of_ble_eq_true rfl) ⟨rfl, rfl⟩ rfl ?_
                  obtain ⟨s28_, es28_⟩ : ∃ q, q = up s27_ 598 7 (j + 1) := ⟨_, rfl⟩
                  rw [← es28_]
                  have hns28_ : NTs s s28_ (j + 1) i 1 (((10 * u) + (btP f n j)) - 48) := by rw [es28_]; exact NTs.u7 hns27_
                  refine wi_go hc rfl ?_
                  have hrn2 : lastP f n i = runI (fun k => fgB (f k)) (n - 1 - j).toNat j := by
                    rcases hrn with hrn | hrn
                    · rw [hrn.1]; exact hrn.2
                    · have h := runI_s (P := fun k => fgB (f k)) (n := n) (i := j - 1) (by omega)
                      rw [show j - 1 + 1 = j by omega, if_pos (fgB_t.mpr (by omega))] at h
                      exact hrn.2.trans h
                  have hrr := runI_r (P := fun k => fgB (f k)) (n - 1 - j).toNat j
                  have hnb2 : nbrP f i (lastP f n i) = nbrF f (lastP f n i + 1 - (j + 1)).toNat (j + 1) (minI (((10 * u) + (btP f n j)) - 48) 10000) := by
                    rw [hnb, nbrF_s (by omega), if_pos (fgB_t.mpr (by omega))]
                    have hm1 := minI_spec (minI u 10000 * 10 + f j - 48) 10000
                    have hm2 := minI_spec (((10 * u) + (btP f n j)) - 48) 10000
                    rw [show minI (minI u 10000 * 10 + f j - 48) 10000 = minI (((10 * u) + (btP f n j)) - 48) 10000 by omega]
                  exact ih2 (by omega) (by omega) s28_ (((10 * u) + (btP f n j)) - 48) hns28_ (by omega) (Or.inr ⟨by omega, by rw [show j + 1 - 1 = j by omega]; exact hrn2⟩) (by omega) hnb2
            have hl0 : lastP f n i = runI (fun k => fgB (f k)) (n - 1 - i).toNat i := by
              unfold lastP
              rw [if_neg (fun w => by have := ltB_t.mp w; omega), if_pos (fgB_t.mpr (by omega))]
            have hlr := lastP_r (f := f) (n := n) (x := i) (by omega)
            exact loop85_ i (by omega) (by omega) s25_ 0 hns25_ (by omega) (Or.inl ⟨rfl, hl0⟩) (by omega) rfl
        · refine wi_a1 hc rfl rfl ?_
          refine wi_ic hc rfl ?_
          refine wi_pf (kz := 9) rfl hc rfl rfl (by decide) (Nat.le_of_ble_eq_true rfl) rfl (Nat.le_of_ble_eq_true rfl) ⟨rfl, rfl⟩ rfl ?_
          obtain ⟨s29_, es29_⟩ : ∃ q, q = up s2_ 598 9 0 := ⟨_, rfl⟩
          rw [← es29_]
          have hns29_ : NTs s s29_ i i 0 (s 598 10) := by rw [es29_]; exact NTs.u9 hns2_
          refine wi_go hc rfl ?_
          refine wi_rv hc rfl (by rw [cm_166]; rfl) ?_
          have hpi : skP f n x0 = i := by
            rw [← hsk]
            first | exact skP_e (by omega) | exact skP_n (by omega) (by omega)
          rw [hpi]
          refine ⟨s29_, l, rfl, i, 0, (s 598 10), (l 598 11), hns29_, NTl.rf, ?_⟩
          exact Or.inl ⟨by omega, by omega, rfl⟩
      · refine wi_a1 hc rfl rfl ?_
        refine wi_dupr hc rfl ?_
        refine wi_gfv (kz := 7) rfl hc rfl rfl (by decide) (Nat.le_of_ble_eq_true rfl) rfl (v := i) (NTs.r7 hM) ?_
        refine wi_ic hc rfl ?_
        refine wi_add hc rfl ?_
        refine wi_pf (kz := 7) rfl hc rfl rfl (by decide) (Nat.le_of_ble_eq_true rfl) rfl (Nat.le_of_ble_eq_true rfl) ⟨rfl, rfl⟩ rfl ?_
        obtain ⟨s30_, es30_⟩ : ∃ q, q = up s1 598 7 (i + 1) := ⟨_, rfl⟩
        rw [← es30_]
        have hns30_ : NTs s s30_ (i + 1) (s 598 8) (s 598 9) (s 598 10) := by rw [es30_]; exact NTs.u7 hM
        refine wi_go hc rfl ?_
        exact ih (by omega) (by omega) s30_ hns30_ ((skP_b (by omega) (by omega)).symm.trans hsk)
  exact loop0_ x0 (by omega) (by omega) s hNT0 rfl
