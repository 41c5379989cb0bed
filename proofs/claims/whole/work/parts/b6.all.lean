/-! All calls but the reader's (5): what is left is its conjunct. -/
theorem iv_call {d L : Nat} {xs : Nat → Int32} (h5 : ∀ M, IV L xs M → ∃ M', lw_ok (mm_Ev mm_ct mm_CM (d + 20)) L xs 90 197 [] M M' ∧ IV L xs M') {M : mm_M} (i k : Nat) (h : IV L xs M) : ∃ M', lw_case (mm_Ev mm_ct mm_CM (d + 20)) L xs i k M M' ∧ IV L xs M' :=
  match k with
  | 0 => iq_0 i h
  | 1 => iq_1 i h
  | 2 => iq_2 i h
  | 3 => iq_3 i h
  | 4 => iq_4 i h
  | 5 => h5 M h
  | 6 => iq_6 i h
  | 7 => iq_7 i h
  | 8 => iq_8 i h
  | 9 => iq_9 i h
  | 10 => iq_10 i h
  | 11 => iq_11 i h
  | 12 => iq_12 i h
  | 13 => iq_13 i h
  | 14 => iq_14 i h
  | 15 => iq_15 h
  | 16 => iq_16 i h
  | 17 => iq_17 i h
  | 18 => iq_18 i h
  | 19 => iq_19 i h
  | 20 => iq_20 i h
  | 21 => iq_21 i h
  | 22 => iq_22 i h
  | 23 => iq_23 i h
  | 24 => iq_24 i h
  | 25 => iq_25 i h
  | 26 => iq_26 i h
  | 27 => iq_27 i h
  | 28 => iq_28 i h
  | 29 => iq_29 i h
  | 30 => iq_30 i h
  | 31 => iq_31 i h
  | 32 => iq_32 i h
  | 33 => iq_33 i h
  | 34 => iq_34 i h
  | 35 => iq_35 i h
  | 36 => iq_36 i h
  | 37 => iq_37 h
  | 38 => iq_38 h
  | 39 => iq_39 i h
  | n + 40 => ⟨M, rfl, h⟩
theorem iv_all {d L : Nat} {xs : Nat → Int32} (hL : L ≤ 3072) (h5 : ∀ M, IV L xs M → ∃ M', lw_ok (mm_Ev mm_ct mm_CM (d + 20)) L xs 90 197 [] M M' ∧ IV L xs M') : mm_wp (mm_Ev mm_ct mm_CM (d + 20)) 289 (0, mm_ent 4 [.ref 1000001], [], mm_M0 L xs) (fun res => res.1 = some (.int 1) ∧ IV L xs res.2) :=
  lw_all (d := d + 17) hL (IV L xs) (fun _ h => IV_R h) (fun M i h _ => iv_call h5 i _ h) s0_IV
