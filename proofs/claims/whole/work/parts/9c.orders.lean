/-! Orders by numbers: the mathematics. -/
def fct (n : Nat) : Nat := if n = 0 then 1 else if n = 1 then 1 else if n = 2 then 2 else if n = 3 then 6 else if n = 4 then 24 else if n = 5 then 120 else 720
def unU (m u : Nat) : List Nat := (List.range m).filter (fun e => u / 2 ^ e % 2 == 0)
def nxE (m u k : Nat) : Nat := (unU m u).getD k 0
/-- what is used, and what is left of the number, behind p places -/
def odS (m n : Nat) : Nat → Nat × Nat
  | 0 => (0, n)
  | p + 1 => ((odS m n p).1 ||| 2 ^ nxE m (odS m n p).1 ((odS m n p).2 / fct (m - 1 - p)), (odS m n p).2 % fct (m - 1 - p))
/-- which one stands at place p of order n of m -/
def dgE (m n p : Nat) : Nat := nxE m (odS m n p).1 ((odS m n p).2 / fct (m - 1 - p))
def dgL (m u n : Nat) : Nat → List Nat
  | 0 => []
  | k + 1 => nxE m u (n / fct k) :: dgL m (u ||| 2 ^ nxE m u (n / fct k)) (n % fct k) k
theorem dgL_drop (m n : Nat) : ∀ p : Nat, p ≤ m → (dgL m 0 n m).drop p = dgL m (odS m n p).1 (odS m n p).2 (m - p)
  | 0, _ => rfl
  | p + 1, h => by
    have ih := dgL_drop m n p (by omega)
    rw [show m - p = (m - (p + 1)) + 1 by omega, dgL] at ih
    rw [← List.drop_drop, ih]
    show dgL m _ _ (m - (p + 1)) = _
    rw [odS, show m - 1 - p = m - (p + 1) by omega]
theorem dgL_get {m n p : Nat} (h : p < m) : (dgL m 0 n m).getD p 0 = dgE m n p := by
  have e := dgL_drop m n p (by omega)
  have h1 : (dgL m 0 n m).getD p 0 = ((dgL m 0 n m).drop p).getD 0 0 := by
    rw [List.getD_eq_getElem?_getD, List.getD_eq_getElem?_getD, List.getElem?_drop]
    rfl
  rw [h1, e, show m - p = (m - (p + 1)) + 1 by omega, dgL]
  show nxE m _ _ = _
  unfold dgE
  rw [show m - 1 - p = m - (p + 1) by omega]
/-- how many unused ones are below e -/
def clE (m u e : Nat) : Nat := ((unU m u).filter (fun x => decide (x < e))).length
def rkC (m u : Nat) : List Nat → Nat
  | [] => 0
  | x :: xs => clE m u x * fct xs.length + rkC m (u ||| 2 ^ x) xs
def rkH (v : Nat) : List Nat → Nat
  | [] => v
  | x :: xs => rkH (v * (xs.length + 1) + (xs.filter (fun y => decide (y < x))).length) xs
/-- all lists of different ones below m -/
def enA (P : List Nat → Bool) (m : Nat) : Nat → List Nat → Bool
  | 0, w => P w
  | k + 1, w => (List.range m).all (fun e => w.contains e || enA P m k (w ++ [e]))
theorem enA_ok {P : List Nat → Bool} {m : Nat} : ∀ (v w : List Nat), enA P m v.length w = true → (∀ e ∈ v, e < m) → (w ++ v).Nodup → P (w ++ v) = true
  | [], w, h, _, _ => by rw [List.append_nil]; exact h
  | x :: v, w, h, hm, hd => by
    rw [List.length_cons, enA, List.all_eq_true] at h
    have h1 := h x (List.mem_range.mpr (hm x (List.mem_cons_self ..)))
    have hx : x ∉ w := by
      have := (List.nodup_append.mp hd).2.2
      intro q
      exact this x q x (List.mem_cons_self ..) rfl
    have h2 : w.contains x = false := by
      rw [← Bool.not_eq_true, List.contains_iff_mem]
      exact hx
    rw [h2, Bool.false_or] at h1
    have := enA_ok v (w ++ [x]) h1 (fun e he => hm e (List.mem_cons_of_mem _ he)) (by rw [List.append_assoc]; exact hd)
    rw [List.append_assoc] at this
    exact this
def chkP (m : Nat) (w : List Nat) : Bool := rkC m 0 w == rkH 0 w && decide (rkH 0 w < fct m) && dgL m 0 (rkH 0 w) m == w
set_option maxRecDepth 100000 in
theorem chk_all : ∀ m, m < 7 → enA (chkP m) m m [] = true := by decide +kernel
def chkQ (m n : Nat) : Bool := (dgL m 0 n m).all (fun e => decide (e < m)) && decide ((dgL m 0 n m).Nodup) && rkH 0 (dgL m 0 n m) == n
set_option maxRecDepth 100000 in
theorem chq_all : ∀ m, m < 7 → (List.range (fct m)).all (chkQ m) = true := by decide +kernel
/-- the bits of a set -/
def blN (S n : Nat) : List Nat := (List.range n).filter (fun b => S / 2 ^ b % 2 == 1)
def lwD (x : Nat) : Nat → Nat
  | 0 => x
  | k + 1 => lwD (x &&& (x - 1)) k
def lbN (x : Nat) : Nat := x ^^^ (x &&& (x - 1))
def cnN (x : Nat) : Nat → Nat
  | 0 => 0
  | n + 1 => cnN x n + x / 2 ^ n % 2
set_option maxRecDepth 100000 in
theorem lw_all1 : ∀ x, x < 1024 → (List.range (blN x 10).length).all (fun k => lwD x k != 0 && decide (lbN (lwD x k) ≤ 512) && cnN (lbN (lwD x k) - 1) 10 == (blN x 10).getD k 0) = true := by decide +kernel
set_option maxRecDepth 100000 in
theorem bl_clr : ∀ x, x < 1024 → (List.range 10).all (fun b => blN (x - (x &&& 2 ^ b)) 10 == (blN x 10).filter (fun e => e != b) && cnN (x &&& (2 ^ b - 1)) 10 == ((blN x 10).filter (fun e => decide (e < b))).length) = true := by decide +kernel
set_option maxRecDepth 100000 in
theorem bl_cnt : ∀ x, x < 1024 → cnN x 10 = (blN x 10).length := by decide +kernel
set_option maxRecDepth 100000 in
theorem un_or : ∀ m, m < 7 → (List.range 64).all (fun u => (List.range 6).all (fun e => unU m (u ||| 2 ^ e) == (unU m u).filter (fun x => x != e))) = true := by decide +kernel
def nxO (u : Nat) : Nat → Nat → Nat → Option Nat
  | 0, _, _ => none
  | f + 1, k, e => if u / 2 ^ e % 2 = 1 then nxO u f k (e + 1) else if k = 0 then some e else nxO u f (k - 1) (e + 1)
set_option maxRecDepth 100000 in
theorem nx_all : ∀ m, m < 7 → (List.range 64).all (fun u => (List.range (unU m u).length).all (fun k => nxO u m k 0 == some (nxE m u k) && decide (nxE m u k < m))) = true := by decide +kernel
set_option maxRecDepth 100000 in
theorem od_all : ∀ m, m < 7 → (List.range (fct m)).all (fun n => (List.range m).all (fun p => decide ((odS m n p).1 < 64) && decide ((odS m n p).2 / fct (m - 1 - p) < (unU m (odS m n p).1).length) && decide ((odS m n p).2 < 720))) = true := by decide +kernel
