/-! How the class's library lies beside the row: b is 0 (now) or 288 (kept). -/
def encC (o v : Int) : Int := if o = 0 then v else if o = 1 then 10000 + v else if o = 2 then 10045 else if o ≤ 6 then 10030 + o else if o = 10 then 10029 else if o = 11 then 10040 else if o = 12 then 10030 else if o = 13 then 10041 else if o = 14 then 10031 else if o = 15 then 10032 else if o = 20 then 10028 else if o = 21 then 10027 else 10026
def wdS (so : Int) : Int := if so = 8 then 5 else if so = 9 then 23 else 15 + so
/-- a slot of the class's text against the clause of its sort -/
def TXs (s : Nat → Int → Int) (u : Nat) (T : Int → Int) (b slot so la : Int) : Prop := (clF T b so la (T b).toNat 0 < 0 → s (u + 4) slot = 0 ∧ s (u + 5) slot = 0) ∧ (0 ≤ clF T b so la (T b).toNat 0 → s (u + 4) slot = T (b + 3 + 4 * clF T b so la (T b).toNat 0) ∧ s (u + 5) slot = T (b + 4 + 4 * clF T b so la (T b).toNat 0))
def TX (s : Nat → Int → Int) (u : Nat) (T : Int → Int) (b : Int) : Prop := s u 5 = T b ∧
  (∀ k, 0 ≤ k → k < T b → s (u + 1) k = wdS (T (b + 1 + 4 * k)) ∧ ((T (b + 1 + 4 * k) = 0 ∨ (3 ≤ T (b + 1 + 4 * k) ∧ T (b + 1 + 4 * k) ≤ 7)) → s (u + 2) (3 * k) = T (b + 2 + 4 * k)) ∧ ((T (b + 1 + 4 * k) = 5 ∨ T (b + 1 + 4 * k) = 7) → s (u + 2) (3 * k + 1) = T (b + 3 + 4 * k)) ∧ (T (b + 1 + 4 * k) = 7 → s (u + 2) (3 * k + 2) = T (b + 4 + 4 * k))) ∧
  (∀ la, 0 ≤ la → la < 6 → TXs s u T b la 0 la) ∧ TXs s u T b 6 1 0 ∧ TXs s u T b 7 2 0 ∧
  (s u 7 = if clF T b 3 0 (T b).toNat 0 < 0 then 0 else T (b + 2 + 4 * clF T b 3 0 (T b).toNat 0)) ∧
  (∀ k, 0 ≤ k → k < T b → T (b + 1 + 4 * k) ≤ 2 → ∀ j, T (b + 3 + 4 * k) ≤ j → j < T (b + 4 + 4 * k) → s (u + 3) j = encC (opT T b j) (vlT T b j))
/-- a scene (a step's form: 48 places) at the row as it stands, and the i-th step -/
def cur (A : Int → Int) : Int → Int := fun k => if k = 0 then A 0 else if k = 1 then A 1 else if k = 2 then A 2 else if k = 3 then A 4 else if k = 4 then A 9 else if k < 38 then A (8 + k) else A (51 + 6 * (k - 38))
def stp (A : Int → Int) (i : Int) : Int → Int := fun k => A (154 + 48 * i + k)
/-- what was written down j-th, in one number -/
def lgA (A : Int → Int) (j : Int) : Int := A (1594 + 4 * (j % 512)) + 16 * A (1594 + 4 * (j % 512) + 1) + 256 * A (1594 + 4 * (j % 512) + 2) + 1024 * A (1594 + 4 * (j % 512) + 3)
def SC (s : Nat → Int → Int) (c : Nat) (v lg : Int → Int) : Prop := s c 4 = minI (v 4) 60 ∧ s c 5 = v 2 ∧ s c 6 = v 1 ∧ s c 7 = v 3 ∧
  (∀ x, 0 ≤ x → x < 3 → s (c + 5) x = v (5 + x)) ∧ (∀ x p, 0 ≤ x → x < 3 → 0 ≤ p → p < v (5 + x) → s (c + 2 + x.toNat) p = v (8 + 10 * x + p)) ∧
  (∀ b, 0 ≤ b → b < 10 → s (c + 6) b = if b < v 0 then v (38 + b) else 3) ∧ (∀ i, 0 ≤ i → i < minI (v 4) 60 → s (c + 7) i = lg (v 4 - minI (v 4) 60 + i))
def LB (b : Nat) (s : Nat → Int → Int) (A T : Int → Int) : Prop :=
  (s (b + 1) 8 = A 0 ∧ s (b + 1) 9 = A 3 ∧ s (b + 1) 10 = A 5 ∧ s (b + 1) 11 = A 6 ∧ s (b + 1) 12 = A 8 ∧ s (b + 1) 7 = A 7 ∧ 0 ≤ s (b + 1) 6 ∧ s (b + 1) 6 < 30) ∧
  (∀ x, 0 ≤ x → x < 3 → s (b + 11) x = A (10 + x)) ∧
  (∀ k w, 0 ≤ k → k < A 0 → 0 ≤ w → w < 5 → s (b + 13 + k.toNat) w = A (46 + 6 * k + w)) ∧
  (∀ i, 0 ≤ i → i < A 8 → s (b + 24) i = A (106 + 4 * i) + 16 * A (107 + 4 * i) + 256 * A (108 + 4 * i) + 512 * A (109 + 4 * i)) ∧
  SC s (b + 2) (cur A) (lgA A) ∧ (∀ i, 0 ≤ i → i < A 7 → SC s (b + 25 + 8 * ((s (b + 1) 6 + i) % 30).toNat) (stp A i) (lgA A)) ∧
  (∀ i, 0 ≤ i → i < A 5 → TX s (b + 265 + 6 * i.toNat) T (705 * i))
/-- the class's library now, and the names' bounds -/
def JC (s : Nat → Int → Int) (A T : Int → Int) : Prop := LB 0 s A T ∧ ∀ v, 0 ≤ v → v < 15 → -1000000 ≤ s 578 v ∧ s 578 v ≤ 1000000
theorem SC.of {s s1 : Nat → Int → Int} {c : Nat} {v lg : Int → Int} (h : SC s c v lg) (hf : ∀ e, c ≤ e → e < c + 8 → s1 e = s e) : SC s1 c v lg := by
  obtain ⟨h1, h2, h3, h4, h5, h6, h7, h8⟩ := h
  refine ⟨by rw [hf c (by omega) (by omega)]; exact h1, by rw [hf c (by omega) (by omega)]; exact h2, by rw [hf c (by omega) (by omega)]; exact h3, by rw [hf c (by omega) (by omega)]; exact h4, ?_, ?_, ?_, ?_⟩
  · intro x a b; rw [hf _ (by omega) (by omega)]; exact h5 x a b
  · intro x p a b c d; rw [hf _ (by omega) (by omega)]; exact h6 x p a b c d
  · intro k a b; rw [hf _ (by omega) (by omega)]; exact h7 k a b
  · intro i a b; rw [hf _ (by omega) (by omega)]; exact h8 i a b
theorem TX.of {s s1 : Nat → Int → Int} {u : Nat} {T : Int → Int} {b : Int} (h : TX s u T b) (hf : ∀ e, u ≤ e → e < u + 6 → s1 e = s e) : TX s1 u T b := by
  unfold TX TXs at h ⊢
  rw [hf u (by omega) (by omega), hf (u + 1) (by omega) (by omega), hf (u + 2) (by omega) (by omega), hf (u + 3) (by omega) (by omega), hf (u + 4) (by omega) (by omega), hf (u + 5) (by omega) (by omega)]
  exact h
theorem LB.of {b : Nat} {s s1 : Nat → Int → Int} {A T : Int → Int} (h : LB b s A T) (h0 : 0 ≤ A 0 ∧ A 0 ≤ 10) (h5 : 0 ≤ A 5 ∧ A 5 ≤ 4) (hf : ∀ e, b + 1 ≤ e → e < b + 289 → s1 e = s e) : LB b s1 A T := by
  obtain ⟨h1, h2, h3, h4, g5, h6, h7⟩ := h
  refine ⟨by rw [hf (b + 1) (by omega) (by omega)]; exact h1, ?_, ?_, ?_, g5.of (fun e q1 q2 => hf e (by omega) (by omega)), ?_, ?_⟩
  · intro x a c; rw [hf _ (by omega) (by omega)]; exact h2 x a c
  · intro k w a c d e; rw [hf _ (by omega) (by omega)]; exact h3 k w a c d e
  · intro i a c; rw [hf _ (by omega) (by omega)]; exact h4 i a c
  · intro i a c
    rw [hf (b + 1) (by omega) (by omega)]
    have hm : (s (b + 1) 6 + i) % 30 < 30 := Int.emod_lt_of_pos _ (by decide)
    exact (h6 i a c).of (fun e q1 q2 => hf e (by omega) (by omega))
  · intro i a c
    exact (h7 i a c).of (fun e q1 q2 => hf e (by omega) (by omega))
theorem JC.of {s s1 : Nat → Int → Int} {A T : Int → Int} (h : JC s A T) (hV : VJ A T) (hf : ∀ e, 1 ≤ e → e < 289 → s1 e = s e) (h8 : s1 578 = s 578) : JC s1 A T := ⟨h.1.of hV.1 hV.2.2.2.1 (fun e a b => hf e (by omega) (by omega)), by rw [h8]; exact h.2⟩
section LBP
variable {s : Nat → Int → Int} {A T : Int → Int} (h : LB 0 s A T)
theorem lb_books (h : LB 0 s A T) : s 1 8 = A 0 := h.1.1
theorem lb_need (h : LB 0 s A T) : s 1 9 = A 3 := h.1.2.1
theorem lb_tc (h : LB 0 s A T) : s 1 10 = A 5 := h.1.2.2.1
theorem lb_rul (h : LB 0 s A T) : s 1 11 = A 6 := h.1.2.2.2.1
theorem lb_dc (h : LB 0 s A T) : s 1 12 = A 8 := h.1.2.2.2.2.1
theorem lb_sc (h : LB 0 s A T) : s 1 7 = A 7 := h.1.2.2.2.2.2.1
theorem lb_el (h : LB 0 s A T) : 0 ≤ s 1 6 ∧ s 1 6 < 30 := h.1.2.2.2.2.2.2
theorem lb_wid (h : LB 0 s A T) {x : Int} (h0 : 0 ≤ x) (h1 : x < 3) : s 11 x = A (10 + x) := by
  have := h.2.1 x h0 h1
  rwa [show 0 + 11 = 11 from rfl] at this
theorem lb_tr (h : LB 0 s A T) {k w : Int} (h0 : 0 ≤ k) (h1 : k < A 0) (h2 : 0 ≤ w) (h3 : w < 5) : s (13 + k.toNat) w = A (46 + 6 * k + w) := by
  have := h.2.2.1 k w h0 h1 h2 h3
  rwa [show 0 + 13 = 13 from rfl] at this
theorem lb_dust (h : LB 0 s A T) {i : Int} (h0 : 0 ≤ i) (h1 : i < A 8) : s 24 i = A (106 + 4 * i) + 16 * A (107 + 4 * i) + 256 * A (108 + 4 * i) + 512 * A (109 + 4 * i) := by
  have := h.2.2.2.1 i h0 h1
  rwa [show 0 + 24 = 24 from rfl] at this
theorem lb_wc (h : LB 0 s A T) : s 2 4 = minI (A 9) 60 := h.2.2.2.2.1.1
theorem lb_wet (h : LB 0 s A T) : s 2 5 = A 2 := h.2.2.2.2.1.2.1
theorem lb_night (h : LB 0 s A T) : s 2 6 = A 1 := h.2.2.2.2.1.2.2.1
theorem lb_drawn (h : LB 0 s A T) : s 2 7 = A 4 := h.2.2.2.2.1.2.2.2.1
theorem lb_many (h : LB 0 s A T) {x : Int} (h0 : 0 ≤ x) (h1 : x < 3) : s 7 x = A (13 + x) := by
  have := h.2.2.2.2.1.2.2.2.2.1 x h0 h1
  rw [show 0 + 2 + 5 = 7 from rfl] at this
  rw [this]
  unfold cur
  (repeat' split) <;> first | (congr 1; omega) | omega
theorem lb_row (h : LB 0 s A T) {x p : Int} (h0 : 0 ≤ x) (h1 : x < 3) (h2 : 0 ≤ p) (h3 : p < A (13 + x)) (h4 : p < 10) : s (4 + x.toNat) p = A (16 + 10 * x + p) := by
  have hc : cur A (5 + x) = A (13 + x) := by
    unfold cur
    (repeat' split) <;> first | (congr 1; omega) | omega
  have := h.2.2.2.2.1.2.2.2.2.2.1 x p h0 h1 h2 (by rw [hc]; exact h3)
  rw [show 0 + 2 + 2 = 4 from rfl] at this
  rw [this]
  unfold cur
  (repeat' split) <;> first | (congr 1; omega) | omega
theorem lb_where (h : LB 0 s A T) {k : Int} (h0 : 0 ≤ k) (h1 : k < A 0) (h2 : k < 10) : s 8 k = A (46 + 6 * k + 5) := by
  have := h.2.2.2.2.1.2.2.2.2.2.2.1 k h0 h2
  rw [show 0 + 2 + 6 = 8 from rfl] at this
  rw [this]
  have hc : cur A 0 = A 0 := rfl
  rw [hc, if_pos h1]
  unfold cur
  (repeat' split) <;> first | (congr 1; omega) | omega
theorem lb_text (h : LB 0 s A T) {i : Int} (h0 : 0 ≤ i) (h1 : i < A 5) : TX s (265 + 6 * i.toNat) T (705 * i) := by
  have := h.2.2.2.2.2.2 i h0 h1
  rwa [show 0 + 265 = 265 from rfl] at this
end LBP
