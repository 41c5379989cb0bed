/-! The small machine whole: steps, runs, calls by depth. -/
abbrev mm_Me : Type := MethodName × ByteArray × Nat × Option FieldType × String × Nat × Nat × (Nat → Option mm_In)
abbrev mm_Rs : Type := Option Value × mm_M
abbrev mm_EV : Type := Nat → List Value → mm_M → mm_Rs → Prop
/-- class tables: default slots, field types, final fields; statics -/
abbrev mm_CT : Type := (Nat → List Nat) × (Nat → Nat → FieldType) × (Nat → Nat → Bool) × List (String × String × String × Value)
def mm_kd (t : ArrayType) : Nat := match t with
  | .int => 100
  | .long => 101
  | .boolean => 102
  | _ => 0
def mm_ca (CM : Nat → mm_Me) (E : mm_EV) (r1 : Nat) (pc : Nat) (L : List (Option Value)) (M : mm_M) (As r : List Value) (self : Option Nat) (z' : mm_St) : Prop :=
  ∃ res : mm_Rs, As.length = (CM r1).2.2.2.2.2.1 ∧ (r.map fun v => v.category).sum ≤ 8 ∧ (match self with
    | some b => E r1 (.ref b :: As) M res
    | none => E r1 As M res) ∧ z' = (pc + 3, L, res.1.toList ++ r, res.2)
/-- Math.max (5), Math.min (6), Math.abs (7): what lies on the stack, what comes of it -/
def mm_mi (k : Nat) (x y : Int32) : List Value := match k with
  | 7 => [.int x]
  | _ => [.int y, .int x]
def mm_mv (k : Nat) (x y : Int32) : Int32 := match k with
  | 5 => if x < y then y else x
  | 6 => if y < x then y else x
  | _ => if 0 ≤ x then x else 0 - x
def mm_mn' (k : Nat) : MethodName := match k with
  | 5 => Lib.Math.max.name
  | 6 => Lib.Math.min.name
  | _ => Lib.Math.abs.name
def mm_mc (k : Nat) : Jvm.Cond := match k with
  | 5 => Jvm.Cond.code Lib.Math.max.name Lib.Math.max.code 2 (some .int)
  | 6 => Jvm.Cond.code Lib.Math.min.name Lib.Math.min.code 2 (some .int)
  | _ => Jvm.Cond.code Lib.Math.abs.name Lib.Math.abs.code 1 (some .int)
/-- String constants: where a class's file has them -/
def mm_sk (a : Nat) : String × Nat × String := match a with
  | 1000002 => ("SelfSorting$Reader", 93, "book hue creed thick author wet right other ohue ocreed othick oauthor shelf place many law falls swell need night nudge take put dry at on or and not")
  | _ => ("SelfSorting$Reader", 85, "<>=#+-*/();")
/-- their bytes -/
def mm_wl : List Int32 := [98, 111, 111, 107, 32, 104, 117, 101, 32, 99, 114, 101, 101, 100, 32, 116, 104, 105, 99, 107, 32, 97, 117, 116, 104, 111, 114, 32, 119, 101, 116, 32, 114, 105, 103, 104, 116, 32, 111, 116, 104, 101, 114, 32, 111, 104, 117, 101, 32, 111, 99, 114, 101, 101, 100, 32, 111, 116, 104, 105, 99, 107, 32, 111, 97, 117, 116, 104, 111, 114, 32, 115, 104, 101, 108, 102, 32, 112, 108, 97, 99, 101, 32, 109, 97, 110, 121, 32, 108, 97, 119, 32, 102, 97, 108, 108, 115, 32, 115, 119, 101, 108, 108, 32, 110, 101, 101, 100, 32, 110, 105, 103, 104, 116, 32, 110, 117, 100, 103, 101, 32, 116, 97, 107, 101, 32, 112, 117, 116, 32, 100, 114, 121, 32, 97, 116, 32, 111, 110, 32, 111, 114, 32, 97, 110, 100, 32, 110, 111, 116]
def mm_gl : List Int32 := [60, 62, 61, 35, 43, 45, 42, 47, 40, 41, 59]
def mm_sl (a : Nat) : Nat := match a with
  | 1000002 => 150
  | _ => 11
def mm_sb (a : Nat) : Nat → Int32 := match a with
  | 1000002 => fun j => mm_wl.getD j 0
  | _ => fun j => mm_gl.getD j 0
def mm_sn (k : Nat) : MethodName := match k with
  | 0 => vz_y1
  | 1 => vz_y3
  | _ => vz_y8
/-- length (0), charAt (1), indexOf (2) of a constant -/
def mm_Sg (k : Nat) (z z' : mm_St) : Prop := ∃ (a : Nat) (r : List Value), (a = 1000002 ∨ a = 1000003) ∧ (r.map fun v => v.category).sum ≤ 8 ∧
  ((k = 0 ∧ z.2.2.1 = .ref a :: r ∧ z' = (z.1 + 3, z.2.1, .int (nI (mm_sl a)) :: r, z.2.2.2)) ∨
   (k = 1 ∧ ∃ j : Nat, j < mm_sl a ∧ z.2.2.1 = .int (nI j) :: .ref a :: r ∧ z' = (z.1 + 3, z.2.1, .int (mm_sb a j) :: r, z.2.2.2)) ∨
   (k = 2 ∧ ∃ j : Nat, j < 256 ∧ z.2.2.1 = .int (nI j) :: .ref a :: r ∧ z' = (z.1 + 3, z.2.1, .int (vz_ix (mm_sb a) (nI j) (mm_sl a) 0) :: r, z.2.2.2)))
def mm_Sr (ct : mm_CT) (CM : Nat → mm_Me) (E : mm_EV) (init : Bool) (i : Instr) (ln r1 r2 : Nat) (z z' : mm_St) : Prop := match i with
  | .iaload => ∃ (a : Nat) (ix : Int32) (r : List Value), z.2.2.1 = .int ix :: .ref a :: r ∧ (mm_in z.2.2.2 a 100 ix ∨ (1000000 ≤ a ∧ (z.2.2.2.1 a).1 = 110 ∧ ¬ ix < 0 ∧ ix.toNatClampNeg < (z.2.2.2.1 a).2.1)) ∧ z' = (z.1 + 1, z.2.1, .int (z.2.2.2.2.2.1 a ix.toNatClampNeg) :: r, z.2.2.2)
  | .laload => ∃ (a : Nat) (ix : Int32) (r : List Value), z.2.2.1 = .int ix :: .ref a :: r ∧ mm_in z.2.2.2 a 101 ix ∧ z' = (z.1 + 1, z.2.1, .long (z.2.2.2.2.2.2 a ix.toNatClampNeg) :: r, z.2.2.2)
  | .baload => ∃ (a : Nat) (ix : Int32) (r : List Value), z.2.2.1 = .int ix :: .ref a :: r ∧ mm_in z.2.2.2 a 102 ix ∧ z' = (z.1 + 1, z.2.1, .int (z.2.2.2.2.2.1 a ix.toNatClampNeg) :: r, z.2.2.2)
  | .aaload => ∃ (a k : Nat) (ix : Int32) (r : List Value), z.2.2.1 = .int ix :: .ref a :: r ∧ 103 ≤ k ∧ k < 106 ∧ mm_in z.2.2.2 a k ix ∧ z' = (z.1 + 1, z.2.1, mm_rv ((z.2.2.2.1 a).2.2.getD ix.toNatClampNeg 2) :: r, z.2.2.2)
  | .iastore => ∃ (a : Nat) (ix x : Int32) (r : List Value), z.2.2.1 = .int x :: .int ix :: .ref a :: r ∧ mm_in z.2.2.2 a 100 ix ∧ z' = (z.1 + 1, z.2.1, r, z.2.2.2.1, z.2.2.2.2.1, mm_u2 z.2.2.2.2.2.1 a ix.toNatClampNeg x, z.2.2.2.2.2.2)
  | .bastore => ∃ (a : Nat) (ix x : Int32) (r : List Value), z.2.2.1 = .int x :: .int ix :: .ref a :: r ∧ mm_in z.2.2.2 a 102 ix ∧ z' = (z.1 + 1, z.2.1, r, z.2.2.2.1, z.2.2.2.2.1, mm_u2 z.2.2.2.2.2.1 a ix.toNatClampNeg (vp_nar .boolean x), z.2.2.2.2.2.2)
  | .lastore => ∃ (a : Nat) (ix : Int32) (x : Int64) (r : List Value), z.2.2.1 = .long x :: .int ix :: .ref a :: r ∧ mm_in z.2.2.2 a 101 ix ∧ z' = (z.1 + 1, z.2.1, r, z.2.2.2.1, z.2.2.2.2.1, z.2.2.2.2.2.1, mm_u2 z.2.2.2.2.2.2 a ix.toNatClampNeg x)
  | .aastore => ∃ (a v k : Nat) (ix : Int32) (r : List Value), z.2.2.1 = .ref v :: .int ix :: .ref a :: r ∧ 104 ≤ k ∧ k < 106 ∧ mm_in z.2.2.2 a k ix ∧ v < z.2.2.2.2.1.1 ∧ (z.2.2.2.1 v).1 = k - 99 ∧ ix.toNatClampNeg < (z.2.2.2.1 a).2.2.length ∧ z' = (z.1 + 1, z.2.1, r, mm_u1 z.2.2.2.1 a ((z.2.2.2.1 a).1, (z.2.2.2.1 a).2.1, (z.2.2.2.1 a).2.2.set ix.toNatClampNeg (v + 3)), z.2.2.2.2)
  | .putfield _ => ∃ (a : Nat) (v : Value) (r : List Value) (M' : mm_M), z.2.2.1 = v :: .ref a :: r ∧ mm_put z.2.2.2 a r1 r2 v = some M' ∧ r2 < (z.2.2.2.1 a).2.2.length ∧ narrow (ct.2.1 r1 r2) v = v ∧ fits (ct.2.1 r1 r2) v = true ∧ (ct.2.2.1 r1 r2 = true → init = true) ∧ z' = (z.1 + 3, z.2.1, r, M')
  | .new _ => z.2.2.2.2.1.1 < 1000000 ∧ z' = (z.1 + 3, z.2.1, .ref z.2.2.2.2.1.1 :: z.2.2.1, mm_al z.2.2.2 r1 r2 r2 (ct.1 r1))
  | .newarray t => ∃ (x : Int32) (r : List Value), z.2.2.1 = .int x :: r ∧ ¬ x < 0 ∧ x.toNatClampNeg ≤ 1000000 ∧ z.2.2.2.2.1.1 < 1000000 ∧ 100 ≤ mm_kd t ∧ z' = (z.1 + 2, z.2.1, .ref z.2.2.2.2.1.1 :: r, mm_al z.2.2.2 (mm_kd t) x.toNatClampNeg x.toNatClampNeg [])
  | .anewarray _ => ∃ (x : Int32) (r : List Value), z.2.2.1 = .int x :: r ∧ ¬ x < 0 ∧ x.toNatClampNeg ≤ 1000000 ∧ z.2.2.2.2.1.1 < 1000000 ∧ z' = (z.1 + 3, z.2.1, .ref z.2.2.2.2.1.1 :: r, mm_al z.2.2.2 r1 x.toNatClampNeg x.toNatClampNeg (List.replicate x.toNatClampNeg 2))
  | .multianewarray _ _ => ∃ (n k : Int32) (r : List Value), z.2.2.1 = .int k :: .int n :: r ∧ ¬ n < 0 ∧ ¬ k < 0 ∧ k.toNatClampNeg ≤ 1000000 ∧ z.2.2.2.2.1.1 + 1 + n.toNatClampNeg < 1000000 ∧ z' = (z.1 + 4, z.2.1, .ref z.2.2.2.2.1.1 :: r, mm_mn z.2.2.2 n.toNatClampNeg k.toNatClampNeg)
  | .arraylength => mm_exe i ln r1 r2 z.1 z.2.1 z.2.2.1 z.2.2.2 = some z' ∨ ∃ (a : Nat) (r : List Value), z.2.2.1 = .ref a :: r ∧ 1000000 ≤ a ∧ (z.2.2.2.1 a).1 = 110 ∧ z' = (z.1 + 1, z.2.1, .int (Int32.ofNat (z.2.2.2.1 a).2.1) :: r, z.2.2.2)
  | .getstatic _ => ∃ q : String × String × String × Value, ct.2.2.2[r1]? = some q ∧ z' = (z.1 + 3, z.2.1, q.2.2.2 :: z.2.2.1, z.2.2.2)
  | .invokestatic _ => if r2 = 4 then ∃ (a0 a : Nat) (sp dp n : Int32) (r : List Value), z.2.2.1 = .int n :: .int dp :: .ref a :: .int sp :: .ref a0 :: r ∧ (r.map fun v => v.category).sum ≤ 8 ∧ a0 < z.2.2.2.2.1.1 ∧ (z.2.2.2.1 a0).1 = 100 ∧ a < z.2.2.2.2.1.1 ∧ (z.2.2.2.1 a).1 = 100 ∧ ¬ sp < 0 ∧ ¬ dp < 0 ∧ ¬ n < 0 ∧ sp.toNatClampNeg + n.toNatClampNeg ≤ (z.2.2.2.1 a0).2.1 ∧ dp.toNatClampNeg + n.toNatClampNeg ≤ (z.2.2.2.1 a).2.1 ∧ z' = (z.1 + 3, z.2.1, r, z.2.2.2.1, z.2.2.2.2.1, mm_u1 z.2.2.2.2.2.1 a (va_cpy (z.2.2.2.2.2.1 a0) (z.2.2.2.2.2.1 a) sp.toNatClampNeg dp.toNatClampNeg n.toNatClampNeg), z.2.2.2.2.2.2)
    else if 5 ≤ r2 then ∃ (x y v : Int32) (r : List Value), z.2.2.1 = mm_mi r2 x y ++ r ∧ (r.map fun v => v.category).sum ≤ 8 ∧ r2 < 8 ∧ v = mm_mv r2 x y ∧ z' = (z.1 + 3, z.2.1, .int v :: r, z.2.2.2)
    else ∃ (As r : List Value), z.2.2.1 = As.reverse ++ r ∧ mm_ca CM E r1 z.1 z.2.1 z.2.2.2 As r none z'
  | .invokevirtual _ => if r2 = 8 then mm_Sg r1 z z'
    else ∃ (As r : List Value) (b : Nat), z.2.2.1 = As.reverse ++ .ref b :: r ∧ b < z.2.2.2.2.1.1 ∧ (z.2.2.2.1 b).1 = (CM r1).2.2.2.2.2.2.1 ∧ mm_ca CM E r1 z.1 z.2.1 z.2.2.2 As r (some b) z'
  | .invokespecial _ => if r2 = 3 then ∃ (b : Nat) (r : List Value), z.2.2.1 = .ref b :: r ∧ (r.map fun v => v.category).sum ≤ 8 ∧ z' = (z.1 + 3, z.2.1, r, z.2.2.2)
    else ∃ (As r : List Value) (b : Nat), z.2.2.1 = As.reverse ++ .ref b :: r ∧ mm_ca CM E r1 z.1 z.2.1 z.2.2.2 As r (some b) z'
  | .ldc _ => mm_exe i ln r1 r2 z.1 z.2.1 z.2.2.1 z.2.2.2 = some z' ∨ (r2 = 1 ∧ (r1 = 1000002 ∨ r1 = 1000003) ∧ z' = (z.1 + 2, z.2.1, .ref r1 :: z.2.2.1, z.2.2.2))
  | _ => mm_exe i ln r1 r2 z.1 z.2.1 z.2.2.1 z.2.2.2 = some z'
def mm_Stp (ct : mm_CT) (CM : Nat → mm_Me) (E : mm_EV) (me : Nat) (z z' : mm_St) : Prop := ∃ (i : Instr) (ln r1 r2 : Nat), (CM me).2.2.2.2.2.2.2 z.1 = some (i, ln, r1, r2) ∧ mm_Sr ct CM E (decide ((CM me).1.name = "<init>")) i ln r1 r2 z z'
def mm_Ret (CM : Nat → mm_Me) (me : Nat) (z : mm_St) (res : mm_Rs) : Prop := ∃ (i : Instr) (ln r1 r2 : Nat), (CM me).2.2.2.2.2.2.2 z.1 = some (i, ln, r1, r2) ∧ res.2 = z.2.2.2 ∧ match i with
  | .ireturn => ∃ (x : Int32) (ty : FieldType), z.2.2.1 = [.int x] ∧ res.1 = some (.int x) ∧ (CM me).2.2.2.1 = some ty ∧ narrow ty (.int x) = .int x
  | .lreturn => ∃ x : Int64, z.2.2.1 = [.long x] ∧ res.1 = some (.long x) ∧ (CM me).2.2.2.1 = some .long
  | .areturn => ∃ (v : Value) (n : String), z.2.2.1 = [v] ∧ res.1 = some v ∧ (CM me).2.2.2.1 = some (.object n) ∧ (v = .null ∨ ∃ a, v = .ref a)
  | .return_ => z.2.2.1 = [] ∧ res.1 = none ∧ (CM me).2.2.2.1 = none
  | _ => False
def mm_Rn (ct : mm_CT) (CM : Nat → mm_Me) (E : mm_EV) (me : Nat) : Nat → mm_St → mm_Rs → Prop
  | 0, _, _ => False
  | n + 1, z, res => mm_Ret CM me z res ∨ ∃ z' : mm_St, mm_Stp ct CM E me z z' ∧ mm_Rn ct CM E me n z' res
def mm_lay : List Value → List (Option Value)
  | [] => []
  | v :: vs => if v.category = 2 then some v :: none :: mm_lay vs else some v :: mm_lay vs
def mm_ent (n : Nat) (vs : List Value) : List (Option Value) := mm_lay vs ++ List.replicate (n - (mm_lay vs).length) none
def mm_Ev (ct : mm_CT) (CM : Nat → mm_Me) : Nat → mm_EV
  | 0 => fun _ _ _ _ => False
  | d + 1 => fun me vs M res => (CM me).2.2.2.2.2.2.1 ≠ 98 ∧ (mm_lay vs).length ≤ (CM me).2.2.1 ∧ ∃ n : Nat, mm_Rn ct CM (mm_Ev ct CM d) me n (0, mm_ent (CM me).2.2.1 vs, [], M) res
/-- what every run keeps -/
def mm_Kp (M M' : mm_M) : Prop := M.2.1.1 ≤ M'.2.1.1 ∧ M.2.1.2 ≤ M'.2.1.2 ∧ (M.2.1.1 ≤ 1000000 → M'.2.1.1 ≤ 1000000) ∧ ∀ a, 1000000 ≤ a → M.2.1.1 ≤ 1000000 → M'.1 a = M.1 a ∧ M'.2.2.1 a = M.2.2.1 a
theorem mm_Kp.rf {M : mm_M} : mm_Kp M M := ⟨Nat.le_refl _, Nat.le_refl _, fun h => h, fun _ _ _ => ⟨rfl, rfl⟩⟩
theorem mm_Kp.tr {M M' M'' : mm_M} (h : mm_Kp M M') (g : mm_Kp M' M'') : mm_Kp M M'' := ⟨Nat.le_trans h.1 g.1, Nat.le_trans h.2.1 g.2.1, fun q => g.2.2.1 (h.2.2.1 q), fun a ha hn => ⟨((g.2.2.2 a ha (h.2.2.1 hn)).1).trans (h.2.2.2 a ha hn).1, ((g.2.2.2 a ha (h.2.2.1 hn)).2).trans (h.2.2.2 a ha hn).2⟩⟩
