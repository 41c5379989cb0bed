/-! A small machine over a flat memory, and its step, in the order: memory, values, locals, step. -/
abbrev mm_Kd : Type := Nat × Nat × List Nat
abbrev mm_M : Type := (Nat → mm_Kd) × (Nat × Nat) × (Nat → Nat → Int32) × (Nat → Nat → Int64)
abbrev mm_St : Type := Nat × List (Option Value) × List Value × mm_M
abbrev mm_In : Type := Instr × Nat × Nat × Nat
def mm_u2 {α : Type} (f : Nat → Nat → α) (a k : Nat) (v : α) : Nat → Nat → α := fun b j => if b = a then (if j = k then v else f b j) else f b j
def mm_u1 {α : Type} (f : Nat → α) (a : Nat) (v : α) : Nat → α := fun b => if b = a then v else f b
def mm_nth {α : Type} : List α → Nat → Option α
  | [], _ => none
  | a :: _, 0 => some a
  | _ :: l, n + 1 => mm_nth l n
theorem mm_nth_eq {α : Type} : ∀ (l : List α) (i : Nat), mm_nth l i = l[i]?
  | [], _ => rfl
  | _ :: _, 0 => rfl
  | _ :: l, i + 1 => mm_nth_eq l i
/-- a reference's code: 2 none, r + 3 the cell r -/
def mm_rv (t : Nat) : Value := match t with
  | r + 3 => .ref r
  | _ => .null
def mm_sv (M : mm_M) (a k t : Nat) : Value := match t with
  | 0 => .int (M.2.2.1 a k)
  | 1 => .long (M.2.2.2 a k)
  | _ => mm_rv t
def mm_cv (v : Value) : Nat := match v with
  | .ref r => r + 3
  | _ => 2
def mm_rn (ad : Nat → Nat) : Value → Value
  | .ref r => .ref (ad r)
  | v => v
def mm_or (ad : Nat → Nat) (t : Nat) : Option Nat := match t with
  | r + 3 => some (ad r)
  | _ => none
/-- locals -/
def mm_kl (L : List (Option Value)) (i : Nat) : List (Option Value) := match i with
  | 0 => L
  | j + 1 => match mm_nth L j with
    | some (some (.long _)) => L.set j none
    | some (some (.double _)) => L.set j none
    | _ => L
def mm_s1 (L : List (Option Value)) (i : Nat) (v : Value) : List (Option Value) := (mm_kl L i).set i (some v)
def mm_s2 (L : List (Option Value)) (i : Nat) (v : Value) : List (Option Value) := ((mm_kl L i).set i (some v)).set (i + 1) none
def mm_swl (pc : Nat) (x : Int32) (L : List (Option Value)) (st : List Value) (M : mm_M) (d : Int) : Int → List Int → mm_St
  | _, [] => ((pc + d).toNat, L, st, M)
  | lo, o :: os => if x.toInt = lo then (((pc : Int) + o).toNat, L, st, M) else mm_swl pc x L st M d (lo + 1) os
def mm_ld (pc : Nat) (L : List (Option Value)) (st : List Value) (M : mm_M) (i ln kind : Nat) : Option mm_St := match mm_nth L i, kind with
  | some (some (.int x)), 0 => some (pc + ln, L, .int x :: st, M)
  | some (some (.long x)), 1 => some (pc + ln, L, .long x :: st, M)
  | some (some (.ref x)), 2 => some (pc + ln, L, .ref x :: st, M)
  | some (some .null), 2 => some (pc + ln, L, .null :: st, M)
  | _, _ => none
def mm_sto (pc : Nat) (L : List (Option Value)) (st : List Value) (M : mm_M) (i ln kind : Nat) : Option mm_St := match st, kind with
  | .int x :: r, 0 => if i < L.length then some (pc + ln, mm_s1 L i (.int x), r, M) else none
  | .long x :: r, 1 => if i + 1 < L.length then some (pc + ln, mm_s2 L i (.long x), r, M) else none
  | .ref x :: r, 2 => if i < L.length then some (pc + ln, mm_s1 L i (.ref x), r, M) else none
  | .null :: r, 2 => if i < L.length then some (pc + ln, mm_s1 L i .null, r, M) else none
  | _, _ => none
def mm_ii (pc : Nat) (L : List (Option Value)) (st : List Value) (M : mm_M) (f : Int32 → Int32 → Int32) : Option mm_St := match st with
  | .int y :: .int x :: r => some (pc + 1, L, .int (f x y) :: r, M)
  | _ => none
def mm_ll (pc : Nat) (L : List (Option Value)) (st : List Value) (M : mm_M) (f : Int64 → Int64 → Int64) : Option mm_St := match st with
  | .long y :: .long x :: r => some (pc + 1, L, .long (f x y) :: r, M)
  | _ => none
def mm_li (pc : Nat) (L : List (Option Value)) (st : List Value) (M : mm_M) (f : Int64 → Int32 → Int64) : Option mm_St := match st with
  | .int y :: .long x :: r => some (pc + 1, L, .long (f x y) :: r, M)
  | _ => none
def mm_br (pc tgt : Nat) (L : List (Option Value)) (st : List Value) (M : mm_M) (f : Int32 → mm_St → mm_St → mm_St) : Option mm_St := match st with
  | .int x :: r => some (f x (tgt, L, r, M) (pc + 3, L, r, M))
  | _ => none
def mm_bb (pc tgt : Nat) (L : List (Option Value)) (st : List Value) (M : mm_M) (f : Int32 → Int32 → mm_St → mm_St → mm_St) : Option mm_St := match st with
  | .int y :: .int x :: r => some (f x y (tgt, L, r, M) (pc + 3, L, r, M))
  | _ => none
def mm_if (c : Jvm.ClassFile.Cond) (x : Int32) (a b : mm_St) : mm_St := match c with
  | .eq => if x = 0 then a else b
  | .ne => if ¬ x = 0 then a else b
  | .lt => if x < 0 then a else b
  | .ge => if 0 ≤ x then a else b
  | .gt => if 0 < x then a else b
  | .le => if x ≤ 0 then a else b
def mm_ic (c : Jvm.ClassFile.Cond) (x y : Int32) (a b : mm_St) : mm_St := match c with
  | .eq => if x = y then a else b
  | .ne => if ¬ x = y then a else b
  | .lt => if x < y then a else b
  | .ge => if y ≤ x then a else b
  | .gt => if y < x then a else b
  | .le => if x ≤ y then a else b
/-- does a cell of this kind exist and hold it -/
def mm_fld (M : mm_M) (a ci k : Nat) : Option Value := if (M.1 a).1 = ci ∧ a < M.2.1.1 ∧ k < (M.1 a).2.1 then some (mm_sv M a k ((M.1 a).2.2.getD k 0)) else none
def mm_put (M : mm_M) (a ci k : Nat) (v : Value) : Option mm_M := if (M.1 a).1 = ci ∧ a < M.2.1.1 ∧ k < (M.1 a).2.1 then
    match v, (M.1 a).2.2.getD k 0 with
    | .int x, 0 => some (M.1, M.2.1, mm_u2 M.2.2.1 a k x, M.2.2.2)
    | .long x, 1 => some (M.1, M.2.1, M.2.2.1, mm_u2 M.2.2.2 a k x)
    | .ref r, _ + 2 => some (mm_u1 M.1 a ((M.1 a).1, (M.1 a).2.1, (M.1 a).2.2.set k (r + 3)), M.2.1, M.2.2)
    | .null, _ + 2 => some (mm_u1 M.1 a ((M.1 a).1, (M.1 a).2.1, (M.1 a).2.2.set k 2), M.2.1, M.2.2)
    | _, _ => none
  else none
def mm_in (M : mm_M) (a kind : Nat) (i : Int32) : Prop := (M.1 a).1 = kind ∧ a < M.2.1.1 ∧ ¬ i < 0 ∧ i.toNatClampNeg < (M.1 a).2.1
def mm_al (M : mm_M) (kind len sl : Nat) (tm : List Nat) : mm_M := (mm_u1 M.1 M.2.1.1 (kind, len, tm), (M.2.1.1 + 1, M.2.1.2 + sl), mm_u1 M.2.2.1 M.2.1.1 (fun _ => 0), mm_u1 M.2.2.2 M.2.1.1 (fun _ => 0))
def mm_exe (i : Instr) (ln r1 r2 pc : Nat) (L : List (Option Value)) (st : List Value) (M : mm_M) : Option mm_St := match i with
  | .iconst n => some (pc + 1, L, .int (Int32.ofInt n) :: st, M)
  | .bipush n => some (pc + 2, L, .int (Int8.ofInt n).toInt32 :: st, M)
  | .sipush n => some (pc + 3, L, .int (Int16.ofInt n).toInt32 :: st, M)
  | .lconst n => some (pc + 1, L, .long (Int64.ofNat (n : Nat)) :: st, M)
  | .ldc _ => if r2 = 0 then some (pc + 2, L, .int (Int32.ofNat r1) :: st, M) else none
  | .ldc_w _ => some (pc + 3, L, .int (Int32.ofNat r1) :: st, M)
  | .ldc2_w _ => some (pc + 3, L, .long (Int64.ofNat r1) :: st, M)
  | .aconst_null => some (pc + 1, L, .null :: st, M)
  | .iload_n k => mm_ld pc L st M k 1 0
  | .iload k => mm_ld pc L st M k 2 0
  | .lload_n k => mm_ld pc L st M k 1 1
  | .lload k => mm_ld pc L st M k 2 1
  | .aload_n k => mm_ld pc L st M k 1 2
  | .aload k => mm_ld pc L st M k 2 2
  | .istore_n k => mm_sto pc L st M k 1 0
  | .istore k => mm_sto pc L st M k 2 0
  | .lstore_n k => mm_sto pc L st M k 1 1
  | .lstore k => mm_sto pc L st M k 2 1
  | .astore_n k => mm_sto pc L st M k 1 2
  | .astore k => mm_sto pc L st M k 2 2
  | .iinc k n => match mm_nth L k with
    | some (some (.int x)) => some (pc + 3, mm_s1 L k (.int (x + Int32.ofInt n)), st, M)
    | _ => none
  | .iadd => mm_ii pc L st M (fun x y => x + y)
  | .isub => mm_ii pc L st M (fun x y => x - y)
  | .imul => mm_ii pc L st M (fun x y => x * y)
  | .iand => mm_ii pc L st M (fun x y => x &&& y)
  | .ior => mm_ii pc L st M (fun x y => x ||| y)
  | .ixor => mm_ii pc L st M (fun x y => x ^^^ y)
  | .ishl => mm_ii pc L st M (fun x y => x <<< (y &&& 31))
  | .ishr => mm_ii pc L st M (fun x y => x >>> (y &&& 31))
  | .iushr => mm_ii pc L st M (fun x y => (x.toUInt32 >>> (y.toUInt32 &&& Int32.toUInt32 31)).toInt32)
  | .ladd => mm_ll pc L st M (fun x y => x + y)
  | .lsub => mm_ll pc L st M (fun x y => x - y)
  | .lmul => mm_ll pc L st M (fun x y => x * y)
  | .land => mm_ll pc L st M (fun x y => x &&& y)
  | .lor => mm_ll pc L st M (fun x y => x ||| y)
  | .lxor => mm_ll pc L st M (fun x y => x ^^^ y)
  | .lshl => mm_li pc L st M (fun x y => x <<< (y.toInt64 &&& 63))
  | .lshr => mm_li pc L st M (fun x y => x >>> (y.toInt64 &&& 63))
  | .lushr => mm_li pc L st M (fun x y => (x.toUInt64 >>> (y.toInt64.toUInt64 &&& Int64.toUInt64 63)).toInt64)
  | .ineg => match st with
    | .int x :: r => some (pc + 1, L, .int (-x) :: r, M)
    | _ => none
  | .lneg => match st with
    | .long x :: r => some (pc + 1, L, .long (-x) :: r, M)
    | _ => none
  | .idiv => match st with
    | .int y :: .int x :: r => if y = 0 then none else some (pc + 1, L, .int (x / y) :: r, M)
    | _ => none
  | .irem => match st with
    | .int y :: .int x :: r => if y = 0 then none else some (pc + 1, L, .int (x - x / y * y) :: r, M)
    | _ => none
  | .ldiv => match st with
    | .long y :: .long x :: r => if y = 0 then none else some (pc + 1, L, .long (x / y) :: r, M)
    | _ => none
  | .i2l => match st with
    | .int x :: r => some (pc + 1, L, .long x.toInt64 :: r, M)
    | _ => none
  | .l2i => match st with
    | .long x :: r => some (pc + 1, L, .int x.toInt32 :: r, M)
    | _ => none
  | .i2b => match st with
    | .int x :: r => some (pc + 1, L, .int x.toInt8.toInt32 :: r, M)
    | _ => none
  | .i2c => match st with
    | .int x :: r => some (pc + 1, L, .int (x.toUInt32 % 65536).toInt32 :: r, M)
    | _ => none
  | .lcmp => match st with
    | .long y :: .long x :: r => some (pc + 1, L, .int (lg_cmp x y) :: r, M)
    | _ => none
  | .dup => match st with
    | .int x :: r => some (pc + 1, L, .int x :: .int x :: r, M)
    | .ref x :: r => some (pc + 1, L, .ref x :: .ref x :: r, M)
    | _ => none
  | .pop => match st with
    | .int _ :: r => some (pc + 1, L, r, M)
    | .ref _ :: r => some (pc + 1, L, r, M)
    | _ => none
  | .dup2 => match st with
    | .int y :: .ref x :: r => some (pc + 1, L, .int y :: .ref x :: .int y :: .ref x :: r, M)
    | _ => none
  | .goto _ => some (r1, L, st, M)
  | .ifCond c _ => mm_br pc r1 L st M (mm_if c)
  | .if_icmp c _ => mm_bb pc r1 L st M (mm_ic c)
  | .ifnull _ => match st with
    | .null :: r => some (r1, L, r, M)
    | .ref _ :: r => some (pc + 3, L, r, M)
    | _ => none
  | .ifnonnull _ => match st with
    | .null :: r => some (pc + 3, L, r, M)
    | .ref _ :: r => some (r1, L, r, M)
    | _ => none
  | .tableswitch d lo _ os => match st with
    | .int x :: r => some (mm_swl pc x L r M d lo os.toList)
    | _ => none
  | .getfield _ => match st with
    | .ref a :: r => match mm_fld M a r1 r2 with
      | some v => some (pc + 3, L, v :: r, M)
      | none => none
    | _ => none
  | .arraylength => match st with
    | .ref a :: r => if 100 ≤ (M.1 a).1 ∧ (M.1 a).1 < 106 ∧ a < M.2.1.1 then some (pc + 1, L, .int (Int32.ofNat (M.1 a).2.1) :: r, M) else none
    | _ => none
  | _ => none
