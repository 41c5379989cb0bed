/-! What a run answers: rules over the small machine. -/
def mm_wp (E : mm_EV) (me : Nat) (z : mm_St) (Q : mm_Rs → Prop) : Prop := ∃ (n : Nat) (res : mm_Rs), mm_Rn mm_ct mm_CM E me n z res ∧ Q res
theorem wp_st {E : mm_EV} {me : Nat} {z z' : mm_St} {Q : mm_Rs → Prop} (h : mm_Stp mm_ct mm_CM E me z z') (k : mm_wp E me z' Q) : mm_wp E me z Q := by
  obtain ⟨n, res, h1, h2⟩ := k
  exact ⟨n + 1, res, Or.inr ⟨z', h, h1⟩, h2⟩
theorem wp_rt {E : mm_EV} {me : Nat} {z : mm_St} {res : mm_Rs} {Q : mm_Rs → Prop} (h : mm_Ret mm_CM me z res) (q : Q res) : mm_wp E me z Q := ⟨1, res, Or.inl h, q⟩
theorem wp_mono {E : mm_EV} {me : Nat} {z : mm_St} {Q Q' : mm_Rs → Prop} (h : mm_wp E me z Q) (q : ∀ res, Q res → Q' res) : mm_wp E me z Q' := by
  obtain ⟨n, res, h1, h2⟩ := h
  exact ⟨n, res, h1, q _ h2⟩
theorem wp_if {E : mm_EV} {me : Nat} {c : Prop} {dc : Decidable c} {a b : mm_St} {Q : mm_Rs → Prop} (h1 : c → mm_wp E me a Q) (h2 : ¬ c → mm_wp E me b Q) : mm_wp E me (@ite _ c dc a b) Q := by
  by_cases h : c
  · rw [if_pos h]; exact h1 h
  · rw [if_neg h]; exact h2 h
/-- what may be stored in a field without a question -/
def mm_pok (ty : FieldType) (v : Value) : Bool := match ty, v with
  | .int, .int _ => true
  | .long, .long _ => true
  | .boolean, .int x => decide (x = 0) || decide (x = 1)
  | .object _, .ref _ => true
  | .array _, .ref _ => true
  | _, _ => false
theorem mm_pok_ok {ty : FieldType} {v : Value} (h : mm_pok ty v = true) : narrow ty v = v ∧ fits ty v = true := by
  unfold mm_pok at h
  split at h
  · exact ⟨rfl, rfl⟩
  · exact ⟨rfl, rfl⟩
  · rcases (Bool.or_eq_true _ _).mp h with g | g <;> (have g := of_decide_eq_true g; subst g; exact ⟨rfl, rfl⟩)
  · exact ⟨rfl, rfl⟩
  · exact ⟨rfl, rfl⟩
  · cases h
/-- one step that calls nothing -/
def mm_fs (cd : Nat → Option mm_In) (z : mm_St) : Option mm_St := match cd z.1 with
  | none => none
  | some (i, ln, r1, r2) => match i with
    | .iaload => match z.2.2.1 with
      | .int ix :: .ref a :: r => if (z.2.2.2.1 a).1 = 100 ∧ a < z.2.2.2.2.1.1 ∧ ¬ ix < 0 ∧ ix.toNatClampNeg < (z.2.2.2.1 a).2.1 then some (z.1 + 1, z.2.1, .int (z.2.2.2.2.2.1 a ix.toNatClampNeg) :: r, z.2.2.2) else none
      | _ => none
    | .laload => none
    | .baload => none
    | .aaload => match z.2.2.1 with
      | .int ix :: .ref a :: r => if 103 ≤ (z.2.2.2.1 a).1 ∧ (z.2.2.2.1 a).1 < 106 ∧ a < z.2.2.2.2.1.1 ∧ ¬ ix < 0 ∧ ix.toNatClampNeg < (z.2.2.2.1 a).2.1 then some (z.1 + 1, z.2.1, mm_rv ((z.2.2.2.1 a).2.2.getD ix.toNatClampNeg 2) :: r, z.2.2.2) else none
      | _ => none
    | .iastore => match z.2.2.1 with
      | .int x :: .int ix :: .ref a :: r => if (z.2.2.2.1 a).1 = 100 ∧ a < z.2.2.2.2.1.1 ∧ ¬ ix < 0 ∧ ix.toNatClampNeg < (z.2.2.2.1 a).2.1 then some (z.1 + 1, z.2.1, r, z.2.2.2.1, z.2.2.2.2.1, mm_u2 z.2.2.2.2.2.1 a ix.toNatClampNeg x, z.2.2.2.2.2.2) else none
      | _ => none
    | .bastore => none
    | .lastore => none
    | .aastore => none
    | .putfield _ => match z.2.2.1 with
      | v :: .ref a :: r => match mm_put z.2.2.2 a r1 r2 v with
        | some M' => if r2 < (z.2.2.2.1 a).2.2.length ∧ mm_pok (mm_tf r1 r2) v = true ∧ mm_fi r1 r2 = false then some (z.1 + 3, z.2.1, r, M') else none
        | none => none
      | _ => none
    | .new _ => none
    | .newarray _ => none
    | .anewarray _ => none
    | .multianewarray _ _ => none
    | .arraylength => mm_exe .arraylength ln r1 r2 z.1 z.2.1 z.2.2.1 z.2.2.2
    | .getstatic _ => none
    | .invokestatic _ => if r2 = 5 then (match z.2.2.1 with
        | .int y :: .int x :: r => if (r.map fun v => v.category).sum ≤ 8 then some (z.1 + 3, z.2.1, .int (if x < y then y else x) :: r, z.2.2.2) else none
        | _ => none)
      else if r2 = 6 then (match z.2.2.1 with
        | .int y :: .int x :: r => if (r.map fun v => v.category).sum ≤ 8 then some (z.1 + 3, z.2.1, .int (if y < x then y else x) :: r, z.2.2.2) else none
        | _ => none)
      else if r2 = 7 then (match z.2.2.1 with
        | .int x :: r => if (r.map fun v => v.category).sum ≤ 8 then some (z.1 + 3, z.2.1, .int (if 0 ≤ x then x else 0 - x) :: r, z.2.2.2) else none
        | _ => none)
      else none
    | .invokevirtual _ => none
    | .invokespecial _ => none
    | i => mm_exe i ln r1 r2 z.1 z.2.1 z.2.2.1 z.2.2.2
set_option maxHeartbeats 2000000 in
theorem mm_fs_ok {E : mm_EV} {me : Nat} {cd : Nat → Option mm_In} (hc : (mm_CM me).2.2.2.2.2.2.2 = cd) {z z' : mm_St} (h : mm_fs cd z = some z') : mm_Stp mm_ct mm_CM E me z z' := by
  unfold mm_fs at h
  split at h
  · cases h
  · rename_i i ln r1 r2 e
    refine ⟨i, ln, r1, r2, by rw [hc]; exact e, ?_⟩
    unfold mm_Sr
    split at h
    · split at h
      · rename_i ix a r e2
        split at h
        · rename_i g
          cases h
          exact ⟨a, ix, r, e2, Or.inl ⟨g.1, g.2.1, g.2.2.1, g.2.2.2⟩, rfl⟩
        · cases h
      · cases h
    · cases h
    · cases h
    · split at h
      · rename_i ix a r e2
        split at h
        · rename_i g
          cases h
          exact ⟨a, _, ix, r, e2, g.1, g.2.1, ⟨rfl, g.2.2.1, g.2.2.2.1, g.2.2.2.2⟩, rfl⟩
        · cases h
      · cases h
    · split at h
      · rename_i x ix a r e2
        split at h
        · rename_i g
          cases h
          exact ⟨a, ix, x, r, e2, ⟨g.1, g.2.1, g.2.2.1, g.2.2.2⟩, rfl⟩
        · cases h
      · cases h
    · cases h
    · cases h
    · cases h
    · split at h
      · rename_i v a r e2
        split at h
        · rename_i M' e3
          split at h
          · rename_i g
            cases h
            exact ⟨a, v, r, M', e2, e3, g.1, (mm_pok_ok g.2.1).1, (mm_pok_ok g.2.1).2, (fun q => by
              have q : mm_fi r1 r2 = true := q
              rw [g.2.2] at q
              cases q), rfl⟩
          · cases h
        · cases h
      · cases h
    · cases h
    · cases h
    · cases h
    · cases h
    · exact Or.inl h
    · cases h
    · rename_i idx
      split at h
      · rename_i g
        subst g
        split at h
        · rename_i y x r e2
          split at h
          · rename_i g
            cases h
            exact ⟨x, y, _, r, e2, g, by decide, rfl, rfl⟩
          · cases h
        · cases h
      · split at h
        · rename_i g
          subst g
          split at h
          · rename_i y x r e2
            split at h
            · rename_i g
              cases h
              exact ⟨x, y, _, r, e2, g, by decide, rfl, rfl⟩
            · cases h
          · cases h
        · split at h
          · rename_i g
            subst g
            split at h
            · rename_i x r e2
              split at h
              · rename_i g
                cases h
                exact ⟨x, 0, _, r, e2, g, by decide, rfl, rfl⟩
              · cases h
            · cases h
          · cases h
    · cases h
    · cases h
    · split <;> first | exact h | exact Or.inl h | (rename_i g; exact absurd rfl (by assumption)) | simp_all
def mm_go (cd : Nat → Option mm_In) : Nat → mm_St → Option mm_St
  | 0, z => some z
  | n + 1, z => match mm_fs cd z with
    | some z1 => mm_go cd n z1
    | none => none
theorem wp_go {E : mm_EV} {me : Nat} {cd : Nat → Option mm_In} (hc : (mm_CM me).2.2.2.2.2.2.2 = cd) {Q : mm_Rs → Prop} : ∀ (k : Nat) {z z' : mm_St}, mm_go cd k z = some z' → mm_wp E me z' Q → mm_wp E me z Q
  | 0, z, z', h, q => by cases h; exact q
  | k + 1, z, z', h, q => by
    unfold mm_go at h
    split at h
    · rename_i z1 e
      exact wp_st (mm_fs_ok hc e) (wp_go hc k h q)
    · cases h
