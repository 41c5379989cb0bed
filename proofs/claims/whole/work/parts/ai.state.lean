/-! The model's reader: its state; codes put out, the pile. -/
def mop (v : Int) : Int := if v < 10000 then 0 else if v < 10015 then 1 else if v = 10045 then 2 else if 10033 ≤ v ∧ v ≤ 10036 then v - 10030 else if v = 10029 then 10 else if v = 10040 then 11 else if v = 10030 then 12 else if v = 10041 then 13 else if v = 10031 then 14 else if v = 10032 then 15 else if v = 10028 then 20 else if v = 10027 then 21 else 22
def mvl (v : Int) : Int := if v < 10000 then v else if v < 10015 then v - 10000 else 0
/-- the tokens, all that is known of them -/
def GTX (f : Int → Int) (n : Int) (kd k pl nm : Int → Int) (tn : Int) : Prop := gtA f n kd pl nm tn ∧ (∀ j, 0 ≤ f j ∧ f j ≤ 255) ∧ (0 ≤ n ∧ n ≤ 300) ∧ tn ≤ 301 ∧ (∀ a, 0 ≤ a → a < tn → k a = kd a) ∧ (∀ a, tn ≤ a → k a = 43) ∧ ∀ a, 0 ≤ k a ∧ k a ≤ 44
def plN (g : Int → Int) : List Int → Prop
  | [] => True
  | p :: P => g (P.length : Int) = p ∧ plN g P
theorem plN_same {g g' : Int → Int} : ∀ {P : List Int}, plN g P → (∀ j, 0 ≤ j → j < P.length → g' j = g j) → plN g' P
  | [], _, _ => trivial
  | p :: P, h, e => by
    rw [List.length_cons] at e
    exact ⟨(e _ (by omega) (by omega)).trans h.1, plN_same h.2 (fun j h0 h1 => e j h0 (by omega))⟩
def MSt (f : Int → Int) (n : Int) (k pl nm : Int → Int) (tn b : Int) (s l : Nat → Int → Int) (z : rpS) (P : List Int) (o w : Int) : Prop :=
  (s 602 = f ∧ s 598 4 = n ∧ s 598 12 = b) ∧ ((0 ≤ z.1 ∧ z.1 < tn) ∧ s 598 8 = pl z.1 ∧ s 598 7 = (if z.1 + 1 < tn then lastP f n (pl z.1) + 1 else n) ∧ tkR (s 598 9) (s 598 10) (l 598 11) (k z.1) (nm z.1)) ∧
  (s 598 14 = z.2.2 ∧ ∀ j, 0 ≤ j → j < z.2.2 → s 601 (b + 97 + 2 * j) = mop (z.2.1 j) ∧ s 601 (b + 98 + 2 * j) = mvl (z.2.1 j)) ∧ (s 598 17 = P.length ∧ plN (s 603) P) ∧ s 598 18 = o ∧ s 598 19 = w
/-- what a piece of reading leaves -/
def FR (b c : Int) (s s1 l l1 : Nat → Int → Int) : Prop := (∀ q, q ≠ 598 → q ≠ 601 → q ≠ 603 → s1 q = s q) ∧ (∀ q, ¬ (7 ≤ q ∧ q ≤ 10) → q ≠ 14 → ¬ (17 ≤ q ∧ q ≤ 19) → s1 598 q = s 598 q) ∧ (∀ j, j < b + 97 + 2 * c → s1 601 j = s 601 j) ∧ (∀ q, q ≠ 598 → l1 q = l q) ∧ ∀ q, q ≠ 11 → l1 598 q = l 598 q
section MSP
variable {f : Int → Int} {n : Int} {k pl nm : Int → Int} {tn b : Int} {s l s1 l1 s2 l2 : Nat → Int → Int} {z z' : rpS} {P P' : List Int} {o w o' w' c c' v : Int}
theorem FR.rf : FR b c s s l l := ⟨fun _ _ _ _ => rfl, fun _ _ _ _ => rfl, fun _ _ => rfl, fun _ _ => rfl, fun _ _ => rfl⟩
theorem FR.tr (h : FR b c s s1 l l1) (g : FR b c' s1 s2 l1 l2) (hc : c ≤ c') : FR b c s s2 l l2 :=
  ⟨fun q a1 a2 a3 => (g.1 q a1 a2 a3).trans (h.1 q a1 a2 a3), fun q a1 a2 a3 => (g.2.1 q a1 a2 a3).trans (h.2.1 q a1 a2 a3), fun j a => (g.2.2.1 j (by omega)).trans (h.2.2.1 j a), fun q a => (g.2.2.2.1 q a).trans (h.2.2.2.1 q a), fun q a => (g.2.2.2.2 q a).trans (h.2.2.2.2 q a)⟩
theorem FR.lo (h : FR b c s s1 l l1) (hc : c' ≤ c) : FR b c' s s1 l l1 := ⟨h.1, h.2.1, fun j a => h.2.2.1 j (by omega), h.2.2.2⟩
theorem FR.u {q : Int} (hq : 17 ≤ q ∧ q ≤ 19) : FR b c s (up s 598 q v) l l := ⟨fun e a1 a2 a3 => up_cc a1, fun e a1 a2 a3 => up_k (by omega), fun j a => up_c (by decide), fun _ _ => rfl, fun _ _ => rfl⟩
theorem MSt.ch (h : MSt f n k pl nm tn b s l z P o w) (hz : z'.1 = z.1) (e602 : s1 602 = s 602) (e598 : ∀ q, q ≠ 14 → ¬ (17 ≤ q ∧ q ≤ 19) → s1 598 q = s 598 q) (hc : s1 598 14 = z'.2.2 ∧ ∀ j, 0 ≤ j → j < z'.2.2 → s1 601 (b + 97 + 2 * j) = mop (z'.2.1 j) ∧ s1 601 (b + 98 + 2 * j) = mvl (z'.2.1 j)) (hp : s1 598 17 = P'.length ∧ plN (s1 603) P') (ho : s1 598 18 = o') (hw : s1 598 19 = w') : MSt f n k pl nm tn b s1 l z' P' o' w' := by
  obtain ⟨⟨a1, a2, a3⟩, ⟨t1, t2, t3, t4⟩, -⟩ := h
  refine ⟨⟨e602.trans a1, (e598 4 (by decide) (by omega)).trans a2, (e598 12 (by decide) (by omega)).trans a3⟩, ⟨?_, ?_, ?_, ?_⟩, hc, hp, ho, hw⟩
  · rw [hz]; exact t1
  · rw [hz, e598 8 (by decide) (by omega)]; exact t2
  · rw [hz, e598 7 (by decide) (by omega)]; exact t3
  · rw [hz, e598 9 (by decide) (by omega), e598 10 (by decide) (by omega)]; exact t4
theorem MSt.pop {p : Int} (h : MSt f n k pl nm tn b s l z (p :: P) o w) (hv : v = P.length) : MSt f n k pl nm tn b (up s 598 17 v) l z P o w := by
  obtain ⟨-, -, hc, hp, ho, hw⟩ := id h
  refine h.ch rfl (up_cc (by decide)) (fun q a1 a2 => up_k (by omega)) ?_ ⟨up_at.trans hv, ?_⟩ ((up_k (by decide)).trans ho) ((up_k (by decide)).trans hw)
  · rw [up_k (by decide), up_cc (by decide)]; exact hc
  · rw [up_cc (by decide)]; exact hp.2.2
theorem MSt.clr (h : MSt f n k pl nm tn b s l z P o w) : MSt f n k pl nm tn b (up s 598 17 0) l z [] o w := by
  obtain ⟨-, -, hc, hp, ho, hw⟩ := id h
  refine h.ch rfl (up_cc (by decide)) (fun q a1 a2 => up_k (by omega)) ?_ ⟨up_at, trivial⟩ ((up_k (by decide)).trans ho) ((up_k (by decide)).trans hw)
  rw [up_k (by decide), up_cc (by decide)]; exact hc
theorem MSt.so (h : MSt f n k pl nm tn b s l z P o w) : MSt f n k pl nm tn b (up s 598 18 v) l z P v w := by
  obtain ⟨-, -, hc, hp, ho, hw⟩ := id h
  refine h.ch rfl (up_cc (by decide)) (fun q a1 a2 => up_k (by omega)) ?_ ?_ up_at ((up_k (by decide)).trans hw)
  · rw [up_k (by decide), up_cc (by decide)]; exact hc
  · rw [up_k (by decide), up_cc (by decide)]; exact hp
theorem MSt.sw (h : MSt f n k pl nm tn b s l z P o w) : MSt f n k pl nm tn b (up s 598 19 v) l z P o v := by
  obtain ⟨-, -, hc, hp, ho, hw⟩ := id h
  refine h.ch rfl (up_cc (by decide)) (fun q a1 a2 => up_k (by omega)) ?_ ?_ ((up_k (by decide)).trans ho) up_at
  · rw [up_k (by decide), up_cc (by decide)]; exact hc
  · rw [up_k (by decide), up_cc (by decide)]; exact hp
theorem MSt.psh {p : Int} (h : MSt f n k pl nm tn b s l z P o w) (f1 : ∀ q, q ≠ 598 ∧ q ≠ 603 → s1 q = s q) (f2 : ∀ q, s1 598 q = if q = 17 then (P.length : Int) + 1 else s 598 q) (f3 : ∀ j, s1 603 j = if j = (P.length : Int) then p else s 603 j) : MSt f n k pl nm tn b s1 l z (p :: P) o w ∧ FR b c s s1 l l := by
  obtain ⟨-, -, hc, hp, ho, hw⟩ := id h
  refine ⟨h.ch rfl (f1 602 (by decide)) (fun q a1 a2 => by rw [f2, if_neg (by omega)]) ?_ ⟨?_, ?_, ?_⟩ ?_ ?_, fun q a1 a2 a3 => f1 q ⟨a1, a3⟩, fun q a1 a2 a3 => by rw [f2, if_neg (by omega)], fun j a => by rw [f1 601 (by decide)], fun _ _ => rfl, fun _ _ => rfl⟩
  · rw [f2, if_neg (by decide), f1 601 (by decide)]; exact hc
  · rw [f2, if_pos rfl, List.length_cons]; omega
  · rw [f3, if_pos rfl]
  · exact plN_same hp.2 (fun j a1 a2 => by rw [f3, if_neg (by omega)])
  · rw [f2, if_neg (by decide)]; exact ho
  · rw [f2, if_neg (by decide)]; exact hw
/-- a code put out -/
theorem MSt.em {x : Int} (h : MSt f n k pl nm tn b s l z P o w) (hc0 : 0 ≤ z.2.2) (hcc : c ≤ z.2.2) (f1 : ∀ q, q ≠ 598 ∧ q ≠ 601 → s1 q = s q) (f2 : ∀ q, s1 598 q = if q = 14 then z.2.2 + 1 else s 598 q) (f3 : ∀ j, s1 601 j = if j = b + 97 + 2 * z.2.2 then mop x else if j = b + 97 + 2 * z.2.2 + 1 then mvl x else s 601 j) : MSt f n k pl nm tn b s1 l (rpPut x z) P o w ∧ FR b c s s1 l l := by
  obtain ⟨-, -, hc, hp, ho, hw⟩ := id h
  refine ⟨h.ch rfl (f1 602 (by decide)) (fun q a1 a2 => by rw [f2, if_neg a1]) ⟨?_, fun j j0 j1 => ?_⟩ ?_ ?_ ?_, fun q a1 a2 a3 => f1 q ⟨a1, a2⟩, fun q a1 a2 a3 => by rw [f2, if_neg a2], fun j a => by rw [f3, if_neg (by omega), if_neg (by omega)], fun _ _ => rfl, fun _ _ => rfl⟩
  · rw [f2, if_pos rfl]; rfl
  · have j1 : j < z.2.2 + 1 := j1
    show s1 601 (b + 97 + 2 * j) = mop (if j = z.2.2 then x else z.2.1 j) ∧ s1 601 (b + 98 + 2 * j) = mvl (if j = z.2.2 then x else z.2.1 j)
    by_cases q : j = z.2.2
    · rw [if_pos q, f3, f3, if_pos (by omega), if_neg (by omega), if_pos (by omega)]
      exact ⟨rfl, rfl⟩
    · rw [if_neg q, f3, f3, if_neg (by omega), if_neg (by omega), if_neg (by omega), if_neg (by omega)]
      exact hc.2 j j0 (by omega)
  · rw [f2, if_neg (by decide), f1 603 (by decide)]; exact hp
  · rw [f2, if_neg (by decide)]; exact ho
  · rw [f2, if_neg (by decide)]; exact hw
theorem MSt.rn (h : MSt f n k pl nm tn b s l z P o w) : s 598 17 = P.length := h.2.2.2.1.1
theorem MSt.ro (h : MSt f n k pl nm tn b s l z P o w) : s 598 18 = o := h.2.2.2.2.1
theorem MSt.rw9 (h : MSt f n k pl nm tn b s l z P o w) : s 598 19 = w := h.2.2.2.2.2
theorem MSt.rc (h : MSt f n k pl nm tn b s l z P o w) : s 598 14 = z.2.2 := h.2.2.1.1
theorem MSt.rb (h : MSt f n k pl nm tn b s l z P o w) : s 598 12 = b := h.1.2.2
theorem MSt.rp {p : Int} (h : MSt f n k pl nm tn b s l z (p :: P) o w) : s 603 P.length = p := h.2.2.2.1.2.1
theorem MSt.tk (h : MSt f n k pl nm tn b s l z P o w) : tkR (s 598 9) (s 598 10) (l 598 11) (k z.1) (nm z.1) := h.2.1.2.2.2
end MSP
theorem ls_ind {Q : List Int → Prop} (h : ∀ P, (∀ p P', P = p :: P' → Q P') → Q P) : ∀ P, Q P
  | [] => h [] (fun p P' e => by cases e)
  | p :: P => h (p :: P) (fun p' P' e => by cases e; exact ls_ind h P)
theorem sp_172 {d L t : Nat} {s l : Nat → Int → Int} {b c x9 v9 : Int} (hb : s 598 12 = b) (hc9 : s 598 14 = c) (b0 : 0 ≤ b ∧ b ≤ 2115) (c0 : 0 ≤ c ∧ c < 300) : ∃ s1, mm_Ev mm_ct mm_CM (d + 1) 172 [.ref 598, .int (iI x9), .int (iI v9)] (MX L t s l) (none, MX L t s1 l) ∧ (∀ q, q ≠ 598 ∧ q ≠ 601 → s1 q = s q) ∧ (∀ q, s1 598 q = if q = 14 then c + 1 else s 598 q) ∧ ∀ j, s1 601 j = if j = b + 97 + 2 * c then x9 else if j = b + 97 + 2 * c + 1 then v9 else s 601 j := by
  have hc : (mm_CM 172).2.2.2.2.2.2.2 = mm_cf cd_172 := by rw [cm_172]; rfl
  refine ev_xs ?_
  refine ev_to (mx := 3) (by rw [cm_172]; decide) (by rw [cm_172]; rfl) (by show 3 ≤ _; decide) ?_
  show mm_wp _ _ (0, [some (.ref 598), some (.int (iI x9)), some (.int (iI v9))], [], MX L t s l) (fun res => ∃ s1, res = (none, MX L t s1 l) ∧ (∀ q, q ≠ 598 ∧ q ≠ 601 → s1 q = s q) ∧ (∀ q, s1 598 q = if q = 14 then c + 1 else s 598 q) ∧ ∀ j, s1 601 j = if j = b + 97 + 2 * c then x9 else if j = b + 97 + 2 * c + 1 then v9 else s 601 j)
  refine wi_a1 hc rfl rfl ?_
  refine wi_gr (w := 601) hc rfl rfl (by decide) (Nat.le_of_ble_eq_true rfl) rfl ?_
  refine wi_a1 hc rfl rfl ?_
  refine wi_gfv (kz := 12) rfl hc rfl rfl (by decide) (Nat.le_of_ble_eq_true rfl) rfl (v := b) (hb) ?_
  refine wi_bi hc rfl rfl ?_
  refine wi_add hc rfl ?_
  refine wi_ic hc rfl ?_
  refine wi_a1 hc rfl rfl ?_
  refine wi_gfv (kz := 14) rfl hc rfl rfl (by decide) (Nat.le_of_ble_eq_true rfl) rfl (v := c) (hc9) ?_
  refine wi_mul hc rfl ?_
  refine wi_add hc rfl ?_
  refine wi_i1 hc rfl rfl ?_
  refine wi_ist (N := 2820) hc rfl rfl (by decide) (by decide) (by omega) (by omega) ?_
  obtain ⟨s1_, es1_⟩ : ∃ q, q = up s 601 ((b + 97) + (2 * c)) x9 := ⟨_, rfl⟩
  rw [← es1_]
  refine wi_a1 hc rfl rfl ?_
  refine wi_gr (w := 601) hc rfl rfl (by decide) (Nat.le_of_ble_eq_true rfl) rfl ?_
  refine wi_a1 hc rfl rfl ?_
  refine wi_gfv (kz := 12) rfl hc rfl rfl (by decide) (Nat.le_of_ble_eq_true rfl) rfl (v := b) (((congrFun (congrFun es1_ _) _).trans (up_c (by decide))).trans (hb)) ?_
  refine wi_bi hc rfl rfl ?_
  refine wi_add hc rfl ?_
  refine wi_ic hc rfl ?_
  refine wi_a1 hc rfl rfl ?_
  refine wi_gfv (kz := 14) rfl hc rfl rfl (by decide) (Nat.le_of_ble_eq_true rfl) rfl (v := c) (((congrFun (congrFun es1_ _) _).trans (up_c (by decide))).trans (hc9)) ?_
  refine wi_mul hc rfl ?_
  refine wi_add hc rfl ?_
  refine wi_ic hc rfl ?_
  refine wi_add hc rfl ?_
  refine wi_i1 hc rfl rfl ?_
  refine wi_ist (N := 2820) hc rfl rfl (by decide) (by decide) (by omega) (by omega) ?_
  obtain ⟨s2_, es2_⟩ : ∃ q, q = up s1_ 601 (((b + 97) + (2 * c)) + 1) v9 := ⟨_, rfl⟩
  rw [← es2_]
  refine wi_a1 hc rfl rfl ?_
  refine wi_dupr hc rfl ?_
  refine wi_gfv (kz := 14) rfl hc rfl rfl (by decide) (Nat.le_of_ble_eq_true rfl) rfl (v := c) (((congrFun (congrFun es2_ _) _).trans (up_c (by decide))).trans (((congrFun (congrFun es1_ _) _).trans (up_c (by decide))).trans (hc9))) ?_
  refine wi_ic hc rfl ?_
  refine wi_add hc rfl ?_
  refine wi_pf (kz := 14) rfl hc rfl rfl (by decide) (Nat.le_of_ble_eq_true rfl) rfl (Nat.le_of_ble_eq_true rfl) ⟨rfl, rfl⟩ rfl ?_
  obtain ⟨s3_, es3_⟩ : ∃ q, q = up s2_ 598 14 (c + 1) := ⟨_, rfl⟩
  rw [← es3_]
  refine wi_rv hc rfl (by rw [cm_172]; rfl) ?_
  refine ⟨s3_, rfl, fun q hq => by rw [es3_, up_cc hq.1, es2_, up_cc hq.2, es1_, up_cc hq.2], fun q => ?_, fun j => ?_⟩
  · by_cases e : q = 14
    · rw [if_pos e, es3_, up_e e]
    · rw [if_neg e, es3_, up_k e, es2_, up_cc (by decide), es1_, up_cc (by decide)]
  · rw [es3_, up_cc (by decide), es2_, up_ite, es1_, up_ite]
    (repeat' split) <;> first | rfl | (exfalso; omega)
theorem em_172 {d L t : Nat} {f : Int → Int} {n : Int} {k pl nm : Int → Int} {tn b : Int} {s l : Nat → Int → Int} {z : rpS} {P : List Int} {o w c : Int} (h : MSt f n k pl nm tn b s l z P o w) (b0 : 0 ≤ b ∧ b ≤ 2115) (c0 : 0 ≤ z.2.2 ∧ z.2.2 < 300) (hcc : c ≤ z.2.2) (x : Int) {x9 v9 : Int} (h9 : mop x = x9) (g9 : mvl x = v9) : ∃ s1, mm_Ev mm_ct mm_CM (d + 1) 172 [.ref 598, .int (iI x9), .int (iI v9)] (MX L t s l) (none, MX L t s1 l) ∧ MSt f n k pl nm tn b s1 l (rpPut x z) P o w ∧ FR b c s s1 l l := by
  subst h9 g9
  obtain ⟨s1, e, f1, f2, f3⟩ := sp_172 (d := d) (L := L) (t := t) (l := l) h.rb h.rc b0 c0 (x9 := mop x) (v9 := mvl x)
  exact ⟨s1, e, h.em c0.1 hcc f1 f2 f3⟩
theorem ps_173 {d L t : Nat} {f : Int → Int} {n : Int} {k pl nm : Int → Int} {tn b : Int} {s l : Nat → Int → Int} {z : rpS} {P : List Int} {o w c : Int} (h : MSt f n k pl nm tn b s l z P o w) (hP : (P.length : Int) < 160) (p : Int) : ∃ s1, mm_Ev mm_ct mm_CM (d + 1) 173 [.ref 598, .int (iI p)] (MX L t s l) (none, MX L t s1 l) ∧ MSt f n k pl nm tn b s1 l z (p :: P) o w ∧ FR b c s s1 l l := by
  obtain ⟨s1, e, f1, f2, f3⟩ := sp_173 (d := d) (L := L) (t := t) (l := l) h.rn (by omega) hP (v := p)
  exact ⟨s1, e, h.psh f1 f2 f3⟩
/-- the next token -/
theorem nx_166 {d L t : Nat} {f : Int → Int} {n : Int} {kd k pl nm : Int → Int} {tn b : Int} {s l : Nat → Int → Int} {z : rpS} {P : List Int} {o w c : Int} (hG : GTX f n kd k pl nm tn) (h : MSt f n k pl nm tn b s l z P o w) (hz : z.1 + 1 < tn) : ∃ s1 l1, mm_Ev mm_ct mm_CM (d + 3) 166 [.ref 598] (MX L t s l) (none, MX L t s1 l1) ∧ MSt f n k pl nm tn b s1 l1 (rpNx z) P o w ∧ FR b c s s1 l l1 := by
  obtain ⟨⟨hg1, hg2, hg3, hg4, hg5⟩, hf, hn, htn, hkk, -, -⟩ := hG
  obtain ⟨⟨a1, a2, a3⟩, ⟨t1, t2, t3, t4⟩, hc, hp, ho, hw⟩ := h
  rw [if_pos hz] at t3
  obtain ⟨⟨k1, k2, k3, k4, k5⟩, k6⟩ := hg2 z.1 t1.1 hz
  have hl := lastP_r (f := f) k2
  obtain ⟨s1, l1, e, e9, q, u, w9, h1, h2, h3⟩ := sp_166 (d := d) (L := L) (t := t) a1 hf a2 hn t3 (by omega)
  rw [← k6] at h1 h3
  refine ⟨s1, l1, e, ⟨⟨(h1.1 602 (by decide)).trans a1, (h1.r (by decide) (by decide) (by decide) (by decide)).trans a2, (h1.r (by decide) (by decide) (by decide) (by decide)).trans a3⟩, ⟨⟨by show 0 ≤ z.1 + 1; omega, hz⟩, h1.r8, ?_, ?_⟩, ?_, ?_, (h1.r (by decide) (by decide) (by decide) (by decide)).trans ho, (h1.r (by decide) (by decide) (by decide) (by decide)).trans hw⟩, ⟨fun q a1 a2 a3 => h1.1 q a1, fun q a1 a2 a3 => h1.r (by omega) (by omega) (by omega) (by omega), fun j a => by rw [h1.1 601 (by decide)], fun q a => h2.1 q a, fun q a => by rw [h2.2 q, if_neg a]⟩⟩
  · rw [h1.r7]
    show e9 = if z.1 + 1 + 1 < tn then lastP f n (pl (z.1 + 1)) + 1 else n
    by_cases g : z.1 + 1 + 1 < tn
    · obtain ⟨⟨-, g2, -⟩, -⟩ := hg2 (z.1 + 1) (by omega) g
      rw [if_pos g]
      rcases h3 with h3 | h3
      · omega
      · exact h3.2.1
    · have e1 : pl (z.1 + 1) = n := by rw [show z.1 + 1 = tn - 1 by omega]; exact hg4
      rw [if_neg g]
      rcases h3 with h3 | h3
      · exact h3.2.1
      · omega
  · rw [h1.r9, h1.r10, h2.r11]
    show tkR q u w9 (k (z.1 + 1)) (nm (z.1 + 1))
    rw [hkk (z.1 + 1) (by omega) hz]
    by_cases g : z.1 + 1 + 1 < tn
    · obtain ⟨⟨-, g2, -, g4, g5⟩, -⟩ := hg2 (z.1 + 1) (by omega) g
      rcases h3 with h3 | h3
      · omega
      · rw [g4, g5]; exact h3.2.2
    · have e1 : pl (z.1 + 1) = n := by rw [show z.1 + 1 = tn - 1 by omega]; exact hg4
      have e2 : kd (z.1 + 1) = 43 := by rw [show z.1 + 1 = tn - 1 by omega]; exact hg5
      rcases h3 with h3 | h3
      · exact Or.inl ⟨h3.2.2, e2⟩
      · omega
  · rw [h1.r (by decide) (by decide) (by decide) (by decide), h1.1 601 (by decide)]; exact hc
  · rw [h1.r (by decide) (by decide) (by decide) (by decide), h1.1 603 (by decide)]; exact hp
