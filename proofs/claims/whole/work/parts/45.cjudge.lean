/-! The class judges. -/
def combI (o x y : Int) : Int := if o < 10 then twoI o x y else if o < 20 then bI (askB o x y = true) else if o = 21 then bI (x = 1 ∧ y = 1) else bI (x = 1 ∨ y = 1)
/-- the word of an operation -/
def opW (o w : Int) : Prop := (3 ≤ o ∧ o ≤ 6 ∧ w = 30 + o) ∨ (o = 10 ∧ w = 29) ∨ (o = 11 ∧ w = 40) ∨ (o = 12 ∧ w = 30) ∨ (o = 13 ∧ w = 41) ∨ (o = 14 ∧ w = 31) ∨ (o = 15 ∧ w = 32) ∨ (o = 21 ∧ w = 27) ∨ (o = 22 ∧ w = 26)
theorem encC_cases {o v n k : Int} (h : okO o v n k) (hk0 : 0 ≤ k) : (o = 0 ∧ encC o v = v ∧ 0 ≤ v ∧ v ≤ 9999) ∨ (o = 1 ∧ encC o v = 10000 + v ∧ 0 ≤ v ∧ v < 15) ∨ (o = 2 ∧ encC o v = 10045 ∧ 1 ≤ n) ∨ (o = 20 ∧ encC o v = 10028 ∧ n = 0 ∧ 1 ≤ k) ∨ (opW o (encC o v - 10000) ∧ 2 ≤ n + k ∧ ((3 ≤ o ∧ o ≤ 6 ∧ 2 ≤ n) ∨ (10 ≤ o ∧ o ≤ 15 ∧ n = 2) ∨ (21 ≤ o ∧ o ≤ 22 ∧ n = 0 ∧ 2 ≤ k))) := by
  unfold okO at h
  unfold opW
  rcases h with h | h | h | h | h | h | h
  · refine Or.inl ⟨h.1, ?_, h.2.1, h.2.2.1⟩
    unfold encC; rw [if_pos h.1]
  · refine Or.inr (Or.inl ⟨h.1, ?_, h.2.1, h.2.2.1⟩)
    unfold encC; rw [if_neg (by omega), if_pos h.1]
  · refine Or.inr (Or.inr (Or.inl ⟨h.1, ?_, h.2⟩))
    unfold encC; rw [if_neg (by omega), if_neg (by omega), if_pos h.1]
  · refine Or.inr (Or.inr (Or.inr (Or.inr ?_)))
    have e : encC o v = 10030 + o := by unfold encC; rw [if_neg (by omega), if_neg (by omega), if_neg (by omega), if_pos (by omega)]
    rw [e]
    omega
  · refine Or.inr (Or.inr (Or.inr (Or.inr ?_)))
    rcases (by omega : o = 10 ∨ o = 11 ∨ o = 12 ∨ o = 13 ∨ o = 14 ∨ o = 15) with q | q | q | q | q | q <;> (rw [q]; unfold encC; simp; omega)
  · refine Or.inr (Or.inr (Or.inr (Or.inl ⟨h.1, ?_, h.2⟩)))
    rw [h.1]; rfl
  · refine Or.inr (Or.inr (Or.inr (Or.inr ?_)))
    rcases (by omega : o = 21 ∨ o = 22) with q | q <;> (rw [q]; unfold encC; simp; omega)
theorem sp_8 {d L t : Nat} {s l : Nat → Int → Int} {o w x y : Int} (hw : opW o w) (hx : -1000000 ≤ x ∧ x ≤ 1000000) (hy : -1000000 ≤ y ∧ y ≤ 1000000) (h01 : 21 ≤ o → (x = 0 ∨ x = 1) ∧ (y = 0 ∨ y = 1)) : mm_Ev mm_ct mm_CM (d + 1) 8 [.int (iI w), .int (iI x), .int (iI y)] (MX L t s l) (some (.int (iI (combI o x y))), MX L t s l) := by
  rcases hw with h | h | h | h | h | h | h | h | h
  · have e : combI o x y = twoI o x y := by unfold combI; rw [if_pos (by omega)]
    rw [e]
    rcases (by omega : o = 3 ∨ o = 4 ∨ o = 5 ∨ o = 6) with q | q | q | q
    · rw [q, show w = 33 by omega]; exact sp_8_33 hx.1 hx.2 hy.1 hy.2
    · rw [q, show w = 34 by omega]; exact sp_8_34 hx.1 hx.2 hy.1 hy.2
    · rw [q, show w = 35 by omega]; exact sp_8_35 hx.1 hx.2 hy.1 hy.2
    · rw [q, show w = 36 by omega]; exact sp_8_36 hx.1 hx.2 hy.1 hy.2
  · rw [h.1, h.2]; exact sp_8_29 hx.1 hx.2 hy.1 hy.2
  · rw [h.1, h.2]; exact sp_8_40 hx.1 hx.2 hy.1 hy.2
  · rw [h.1, h.2]; exact sp_8_30 hx.1 hx.2 hy.1 hy.2
  · rw [h.1, h.2]; exact sp_8_41 hx.1 hx.2 hy.1 hy.2
  · rw [h.1, h.2]; exact sp_8_31 hx.1 hx.2 hy.1 hy.2
  · rw [h.1, h.2]; exact sp_8_32 hx.1 hx.2 hy.1 hy.2
  · have := h01 (by omega); rw [h.1, h.2]; exact sp_8_27 this.1 this.2
  · have := h01 (by omega); rw [h.1, h.2]; exact sp_8_26 this.1 this.2
theorem rlS {n k : Int} {w vs ts : Int → Int} (h1 : ∀ j, 0 ≤ j → j < n → w (k + j) = vs j) (h2 : ∀ j, 0 ≤ j → j < k → w j = ts j) (b1 : ∀ j, 0 ≤ j → -1000000 ≤ vs j ∧ vs j ≤ 1000000) (b2 : ∀ j, 0 ≤ j → ts j = 0 ∨ ts j = 1) : ∀ j, 0 ≤ j → j < n + k → -1000000 ≤ w j ∧ w j ≤ 1000000 := by
  intro j h0 h3
  by_cases q : j < k
  · rw [h2 j h0 q]
    have := b2 j h0
    omega
  · have := h1 (j - k) (by omega) (by omega)
    rw [show k + (j - k) = j by omega] at this
    rw [this]
    exact b1 _ (by omega)
set_option maxHeartbeats 2000000 in
theorem sp_7 {d L t : Nat} {s l : Nat → Int → Int} {u : Nat} {slot fr : Int} {N : Nat} {op vl : Int → Int} (hk : KT L t u) (hs0 : 0 ≤ slot) (hs1 : slot < 8) (hfr : s (u + 4) slot = fr) (hto : s (u + 5) slot = fr + N) (hf0 : 0 ≤ fr) (hfN : fr + N ≤ 300) (hu : u + 5 < 578) (hok : okC op vl fr N) (hcode : ∀ j : Nat, j < N → s (u + 3) (fr + j) = encC (op (fr + j)) (vl (fr + j))) (hnm : ∀ v, 0 ≤ v → v < 15 → -1000000 ≤ s 578 v ∧ s 578 v ≤ 1000000) {z : Bool} (hz : cNK op fr N = if z then (1, 0) else (0, 1)) : ∃ s1, mm_Ev mm_ct mm_CM (d + 2) 7 [.ref 577, .ref u, .int (iI slot)] (MX L t s l) (some (.int (iI (if z then (vmR op vl (s 578) fr N).1 0 else (vmR op vl (s 578) fr N).2 0))), MX L t s1 l) ∧ (∀ c, c ≠ 579 → s1 c = s c) := by
  have hc : (mm_CM 7).2.2.2.2.2.2.2 = mm_cf cd_7 := by rw [cm_7]; rfl
  refine ev_xs ?_
  refine ev_to (mx := 6) (by rw [cm_7]; decide) (by rw [cm_7]; rfl) (by show 3 ≤ _; decide) ?_
  show mm_wp _ _ (0, [some (.ref 577), some (.ref u), some (.int (iI slot)), none, none, none], [], MX L t s l) (fun res => ∃ s1, res = (some (.int (iI (if z then (vmR op vl (s 578) fr N).1 0 else (vmR op vl (s 578) fr N).2 0))), MX L t s1 l) ∧ (∀ c, c ≠ 579 → s1 c = s c))
  refine wi_ic hc rfl ?_
  refine wi_is1 (L' := [some (.ref 577), some (.ref u), some (.int (iI slot)), some (.int (iI 0)), none, none]) hc rfl (Nat.le_of_ble_eq_true rfl) rfl ?_
  refine wi_a1 hc rfl rfl ?_
  refine wi_grs (w := u + 4) hk.2.1 hc rfl (by have := hk.1; omega) (by decide) rfl ?_
  refine wi_i1 hc rfl rfl ?_
  refine wi_ildv (N := 8) hc rfl hk.2.2.2.2.2.1 (by have := hk.1; omega) (by decide) (by omega) (by omega) (v := fr) (hfr) ?_
  refine wi_is2 (L' := [some (.ref 577), some (.ref u), some (.int (iI slot)), some (.int (iI 0)), some (.int (iI fr)), none]) hc rfl (Nat.le_of_ble_eq_true rfl) rfl ?_
  have loop10_ : ∀ m : Nat, m ≤ N → ∀ (tp : Int) (s1 : Nat → Int → Int) (q5 : Option Value), tp = (cNK op fr m).1 + (cNK op fr m).2 → (∀ c, c ≠ 579 → s1 c = s c) → (∀ j, 0 ≤ j → j < (cNK op fr m).1 → s1 579 ((cNK op fr m).2 + j) = (vmR op vl (s 578) fr m).1 j) → (∀ j, 0 ≤ j → j < (cNK op fr m).2 → s1 579 j = (vmR op vl (s 578) fr m).2 j) → mm_wp (mm_Ev mm_ct mm_CM (d + 1)) 7 (10, [some (.ref 577), some (.ref u), some (.int (iI slot)), some (.int (iI tp)), some (.int (iI (fr + m))), q5], [], MX L t s1 l) (fun res => ∃ s1, res = (some (.int (iI (if z then (vmR op vl (s 578) fr N).1 0 else (vmR op vl (s 578) fr N).2 0))), MX L t s1 l) ∧ (∀ c, c ≠ 579 → s1 c = s c)) := by
    refine up_indN ?_
    intro m hm ih tp s1 q5 htp hF hV hT
    have hvr := vmR_r (nm := s 578) hok hnm m hm
    have h4 := okC_r hok m hm
    obtain ⟨n, hn⟩ : ∃ n, n = (cNK op fr m).1 := ⟨_, rfl⟩
    obtain ⟨k, hkk⟩ : ∃ k, k = (cNK op fr m).2 := ⟨_, rfl⟩
    obtain ⟨vs, hvs⟩ : ∃ vs, vs = (vmR op vl (s 578) fr m).1 := ⟨_, rfl⟩
    obtain ⟨ts, hts⟩ : ∃ ts, ts = (vmR op vl (s 578) fr m).2 := ⟨_, rfl⟩
    rw [← hn, ← hkk] at htp h4
    rw [← hn, ← hkk, ← hvs] at hV
    rw [← hkk, ← hts] at hT
    rw [← hvs, ← hts] at hvr
    obtain ⟨hvb, htb⟩ := hvr
    have hsb := rlS (w := s1 579) hV hT hvb htb
    refine wi_i2 hc rfl rfl ?_
    refine wi_a1 hc rfl rfl ?_
    refine wi_grs (w := u + 5) hk.2.1 hc rfl (by have := hk.1; omega) (by decide) rfl ?_
    refine wi_i1 hc rfl rfl ?_
    refine wi_ildv (N := 8) hc rfl hk.2.2.2.2.2.2 (by have := hk.1; omega) (by decide) (by omega) (by omega) (v := fr + N) ((congrFun (hF (u + 5) (by omega)) _).trans (hto)) ?_
    refine wi_cge hc rfl ⟨by omega, by omega⟩ ⟨by omega, by omega⟩ (fun h1_ => ?_) (fun h1_ => ?_)
    · have eM : (m : Int) = N := by first | omega | (exfalso; omega)
      have eM2 : m = N := by omega
      have hz2 := hz
      rw [← eM2] at hz2
      have hz3 : n = (if z then 1 else 0) ∧ k = (if z then 0 else 1) := by rw [hn, hkk, hz2]; cases z <;> exact ⟨rfl, rfl⟩
      have hz4 : tp = 1 := by cases z <;> simp at hz3 <;> omega
      refine wi_i1 hc rfl rfl ?_
      refine wi_zle hc rfl ⟨by omega, by omega⟩ (fun h2_ => (by exfalso; omega)) (fun h2_ => ?_)
      refine wi_a1 hc rfl rfl ?_
      refine wi_gr (w := 579) hc rfl rfl (by decide) (Nat.le_of_ble_eq_true rfl) rfl ?_
      refine wi_i1 hc rfl rfl ?_
      refine wi_ic hc rfl ?_
      refine wi_sub hc rfl ?_
      refine wi_ild (N := 64) hc rfl rfl (by decide) (by decide) (by omega) (by omega) ?_
      refine wi_go hc rfl ?_
      refine wi_ri hc rfl (by rw [cm_7]; rfl) ?_
      refine ⟨s1, ?_, hF⟩
      rw [← eM2, ← hvs, ← hts]
      cases z
      · simp at hz3
        rw [show s1 579 (tp - 1) = ts 0 from by rw [show tp - 1 = 0 by omega]; exact hT 0 (by decide) (by omega)]
        rfl
      · simp at hz3
        rw [show s1 579 (tp - 1) = vs 0 from by rw [show tp - 1 = k + 0 by omega]; exact hV 0 (by decide) (by omega)]
        rfl
    · refine wi_i1 hc rfl rfl ?_
      refine wi_bi hc rfl rfl ?_
      refine wi_cge hc rfl ⟨by omega, by omega⟩ ⟨by decide, by decide⟩ (fun h3_ => ?_) (fun h3_ => ?_)
      · have eM : (m : Int) = N := by first | omega | (exfalso; omega)
        have eM2 : m = N := by omega
        have hz2 := hz
        rw [← eM2] at hz2
        have hz3 : n = (if z then 1 else 0) ∧ k = (if z then 0 else 1) := by rw [hn, hkk, hz2]; cases z <;> exact ⟨rfl, rfl⟩
        have hz4 : tp = 1 := by cases z <;> simp at hz3 <;> omega
        refine wi_i1 hc rfl rfl ?_
        refine wi_zle hc rfl ⟨by omega, by omega⟩ (fun h4_ => (by exfalso; omega)) (fun h4_ => ?_)
        refine wi_a1 hc rfl rfl ?_
        refine wi_gr (w := 579) hc rfl rfl (by decide) (Nat.le_of_ble_eq_true rfl) rfl ?_
        refine wi_i1 hc rfl rfl ?_
        refine wi_ic hc rfl ?_
        refine wi_sub hc rfl ?_
        refine wi_ild (N := 64) hc rfl rfl (by decide) (by decide) (by omega) (by omega) ?_
        refine wi_go hc rfl ?_
        refine wi_ri hc rfl (by rw [cm_7]; rfl) ?_
        refine ⟨s1, ?_, hF⟩
        rw [← eM2, ← hvs, ← hts]
        cases z
        · simp at hz3
          rw [show s1 579 (tp - 1) = ts 0 from by rw [show tp - 1 = 0 by omega]; exact hT 0 (by decide) (by omega)]
          rfl
        · simp at hz3
          rw [show s1 579 (tp - 1) = vs 0 from by rw [show tp - 1 = k + 0 by omega]; exact hV 0 (by decide) (by omega)]
          rfl
      · obtain ⟨o, ho⟩ : ∃ o, o = op (fr + m) := ⟨_, rfl⟩
        obtain ⟨v, hv⟩ : ∃ v, v = vl (fr + m) := ⟨_, rfl⟩
        obtain ⟨st, hst9⟩ : ∃ st, st = encC (op (fr + m)) (vl (fr + m)) := ⟨_, rfl⟩
        have h3 := hok m (by omega)
        rw [← hn, ← hkk, ← ho, ← hv] at h3
        have hst := encC_cases h3 (by omega)
        rw [ho, hv, ← hst9, ← ho, ← hv] at hst
        skip
        have hst2 := hst
        unfold opW at hst2
        have hst8 : st < 20000 ∧ 0 ≤ st := by omega
        refine wi_a1 hc rfl rfl ?_
        refine wi_grs (w := u + 3) hk.2.1 hc rfl (by have := hk.1; omega) (by decide) rfl ?_
        refine wi_i2 hc rfl rfl ?_
        refine wi_ildv (N := 300) hc rfl hk.2.2.2.2.1 (by have := hk.1; omega) (by decide) (by omega) (by omega) (v := st) ((congrFun (hF (u + 3) (by omega)) _).trans ((hcode m (by omega)).trans hst9.symm)) ?_
        refine wi_is2 (L' := [some (.ref 577), some (.ref u), some (.int (iI slot)), some (.int (iI tp)), some (.int (iI (fr + m))), some (.int (iI st))]) hc rfl (Nat.le_of_ble_eq_true rfl) rfl ?_
        refine wi_i2 hc rfl rfl ?_
        refine wi_si hc rfl rfl ?_
        refine wi_cge hc rfl ⟨by omega, by omega⟩ ⟨by decide, by decide⟩ (fun h5_ => ?_) (fun h5_ => ?_)
        · refine wi_i2 hc rfl rfl ?_
          refine wi_si hc rfl rfl ?_
          refine wi_cge hc rfl ⟨by omega, by omega⟩ ⟨by decide, by decide⟩ (fun h6_ => ?_) (fun h6_ => ?_)
          · refine wi_i2 hc rfl rfl ?_
            refine wi_si hc rfl rfl ?_
            refine wi_cne hc rfl ⟨by omega, by omega⟩ ⟨by decide, by decide⟩ (fun h7_ => ?_) (fun h7_ => ?_)
            · refine wi_i2 hc rfl rfl ?_
              refine wi_si hc rfl rfl ?_
              refine wi_cne hc rfl ⟨by omega, by omega⟩ ⟨by decide, by decide⟩ (fun h8_ => ?_) (fun h8_ => ?_)
              · refine wi_i1 hc rfl rfl ?_
                refine wi_ic hc rfl ?_
                refine wi_cle hc rfl ⟨by omega, by omega⟩ ⟨by decide, by decide⟩ (fun h9_ => (by exfalso; omega)) (fun h9_ => ?_)
                refine wi_inc (L' := [some (.ref 577), some (.ref u), some (.int (iI slot)), some (.int (iI (tp + (-1)))), some (.int (iI (fr + m))), some (.int (iI st))]) hc rfl rfl rfl ?_
                refine wi_a1 hc rfl rfl ?_
                refine wi_gr (w := 579) hc rfl rfl (by decide) (Nat.le_of_ble_eq_true rfl) rfl ?_
                refine wi_i1 hc rfl rfl ?_
                refine wi_ic hc rfl ?_
                refine wi_sub hc rfl ?_
                refine wi_i2 hc rfl rfl ?_
                refine wi_si hc rfl rfl ?_
                refine wi_sub hc rfl ?_
                refine wi_a1 hc rfl rfl ?_
                refine wi_gr (w := 579) hc rfl rfl (by decide) (Nat.le_of_ble_eq_true rfl) rfl ?_
                refine wi_i1 hc rfl rfl ?_
                refine wi_ic hc rfl ?_
                refine wi_sub hc rfl ?_
                refine wi_ild (N := 64) hc rfl rfl (by decide) (by decide) (by omega) (by omega) ?_
                refine wi_a1 hc rfl rfl ?_
                refine wi_gr (w := 579) hc rfl rfl (by decide) (Nat.le_of_ble_eq_true rfl) rfl ?_
                refine wi_i1 hc rfl rfl ?_
                refine wi_ild (N := 64) hc rfl rfl (by decide) (by decide) (by omega) (by omega) ?_
                have hx9 := hsb (tp + (-1) - 1) (by omega) (by omega)
                have hy9 := hsb (tp + (-1)) (by omega) (by omega)
                have h019 : 21 ≤ o → (s1 579 ((tp + (-1)) - 1) = 0 ∨ s1 579 ((tp + (-1)) - 1) = 1) ∧ (s1 579 (tp + (-1)) = 0 ∨ s1 579 (tp + (-1)) = 1) := fun q => by
                  rw [hT _ (by omega) (by omega), hT _ (by omega) (by omega)]
                  exact ⟨htb _ (by omega), htb _ (by omega)⟩
                refine wp_cs (As := [.int (iI (st - 10000)), .int (iI (s1 579 ((tp + (-1)) - 1))), .int (iI (s1 579 (tp + (-1))))]) (r := [.int (iI ((tp + (-1)) - 1)), .ref 579]) hc rfl (by rw [cm_8]; rfl) rfl (Nat.le_of_ble_eq_true rfl) (ev_mono (sp_8 (d := 0) (o := o) (by rcases hst with q | q | q | q | q; exact absurd q (by omega); exact absurd q (by omega); exact absurd q (by omega); exact absurd q (by omega); exact q.1) hx9 hy9 h019) (by omega)) ?_
                show mm_wp _ _ (192, [some (.ref 577), some (.ref u), some (.int (iI slot)), some (.int (iI (tp + (-1)))), some (.int (iI (fr + m))), some (.int (iI st))], [.int (iI (combI o (s1 579 ((tp + (-1)) - 1)) (s1 579 (tp + (-1))))), .int (iI ((tp + (-1)) - 1)), .ref 579], MX L t s1 l) _
                refine wi_ist (N := 64) hc rfl rfl (by decide) (by decide) (by omega) (by omega) ?_
                obtain ⟨s1_, es1_⟩ : ∃ q, q = up s1 579 ((tp + (-1)) - 1) (combI o (s1 579 ((tp + (-1)) - 1)) (s1 579 (tp + (-1)))) := ⟨_, rfl⟩
                rw [← es1_]
                refine wi_inc (L' := [some (.ref 577), some (.ref u), some (.int (iI slot)), some (.int (iI (tp + (-1)))), some (.int (iI (fr + m + 1))), some (.int (iI st))]) hc rfl rfl rfl ?_
                refine wi_go hc rfl ?_
                have hoo : (3 ≤ o ∧ o ≤ 6 ∧ 2 ≤ n) ∨ (10 ≤ o ∧ o ≤ 15 ∧ n = 2) ∨ (21 ≤ o ∧ o ≤ 22 ∧ n = 0 ∧ 2 ≤ k) := by omega
                clear hst hst2
                have eN : (cNK op fr (m + 1)).1 = cN1 o n := by show cN1 (op (fr + m)) (cNK op fr m).1 = _; rw [← hn, ← ho]
                have eK : (cNK op fr (m + 1)).2 = cK1 o k := by show cK1 (op (fr + m)) (cNK op fr m).2 = _; rw [← hkk, ← ho]
                have eV : (vmR op vl (s 578) fr (m + 1)).1 = vs1 o v n (s 578) vs := by show vs1 (op (fr + m)) (vl (fr + m)) (cNK op fr m).1 (s 578) (vmR op vl (s 578) fr m).1 = _; rw [← hn, ← ho, ← hv, ← hvs]
                have eT : (vmR op vl (s 578) fr (m + 1)).2 = ts1 o n k vs ts := by show ts1 (op (fr + m)) (cNK op fr m).1 (cNK op fr m).2 (vmR op vl (s 578) fr m).1 (vmR op vl (s 578) fr m).2 = _; rw [← hn, ← hkk, ← ho, ← hvs, ← hts]
                rcases (by omega : (3 ≤ o ∧ o ≤ 6 ∧ 2 ≤ n) ∨ (10 ≤ o ∧ o ≤ 15 ∧ n = 2) ∨ (21 ≤ o ∧ o ≤ 22 ∧ n = 0 ∧ 2 ≤ k)) with qq | qq | qq
                · have cn : cN1 o n = n - 1 := by unfold cN1; (repeat' split) <;> omega
                  have ck : cK1 o k = k := by unfold cK1; (repeat' split) <;> omega
                  have cv : vs1 o v n (s 578) vs = fun j => if j = n - 2 then twoI o (vs (n - 2)) (vs (n - 1)) else vs j := by funext j; unfold vs1; (repeat' split) <;> first | rfl | omega
                  have ct : ts1 o n k vs ts = ts := by funext j; unfold ts1; (repeat' split) <;> first | rfl | omega
                  have hV2 : ∀ j, 0 ≤ j → j < n - 1 → s1_ 579 (k + j) = (fun j => if j = n - 2 then twoI o (vs (n - 2)) (vs (n - 1)) else vs j) j := by
                    intro j hj0 hj1
                    try dsimp only
                    have hVj := hV j hj0
                    rw [es1_]
                    by_cases q : j = n - 2
                    · rw [if_pos q, up_e (by omega), show tp + -1 - 1 = k + (n - 2) by omega, show tp + -1 = k + (n - 1) by omega, hV (n - 2) (by omega) (by omega), hV (n - 1) (by omega) (by omega)]
                      unfold combI
                      rw [if_pos (by omega)]
                    · rw [if_neg q, up_k (by omega)]; exact hVj (by omega)
                  have hT2 : ∀ j, 0 ≤ j → j < k → s1_ 579 j = (ts) j := by
                    intro j hj0 hj1
                    try dsimp only
                    have hTj := hT j hj0
                    rw [es1_]
                    rw [up_k (by omega)]
                    exact hTj (by omega)
                  have g := ih (by omega) (tp + (-1)) s1_ (some (.int (iI st))) ?_ (fun c hc9_ => ((congrFun es1_ c).trans (up_cc (by omega))).trans (hF c (by omega))) ?_ ?_
                  · rw [show fr + ((m + 1 : Nat) : Int) = fr + m + 1 by omega] at g
                    exact g
                  · rw [eN, eK, cn, ck]; omega
                  · rw [eN, eK, eV, cn, ck, cv]; exact hV2
                  · rw [eK, eT, ck, ct]; exact hT2
                · have cn : cN1 o n = 0 := by unfold cN1; (repeat' split) <;> omega
                  have ck : cK1 o k = k + 1 := by unfold cK1; (repeat' split) <;> omega
                  have cv : vs1 o v n (s 578) vs = vs := by funext j; unfold vs1; (repeat' split) <;> first | rfl | omega
                  have ct : ts1 o n k vs ts = fun j => if j = k then bI (askB o (vs (n - 2)) (vs (n - 1)) = true) else ts j := by funext j; unfold ts1; (repeat' split) <;> first | rfl | omega
                  have hV2 : ∀ j, 0 ≤ j → j < 0 → s1_ 579 (k + 1 + j) = (vs) j := by
                    intro j hj0 hj1
                    try dsimp only
                    have hVj := hV j hj0
                    rw [es1_]
                    exact absurd hj1 (by omega)
                  have hT2 : ∀ j, 0 ≤ j → j < k + 1 → s1_ 579 j = (fun j => if j = k then bI (askB o (vs (n - 2)) (vs (n - 1)) = true) else ts j) j := by
                    intro j hj0 hj1
                    try dsimp only
                    have hTj := hT j hj0
                    rw [es1_]
                    by_cases q : j = k
                    · rw [if_pos q, up_e (by omega), show tp + -1 - 1 = k + (n - 2) by omega, show tp + -1 = k + (n - 1) by omega, hV (n - 2) (by omega) (by omega), hV (n - 1) (by omega) (by omega)]
                      unfold combI
                      rw [if_neg (by omega), if_pos (by omega)]
                    · rw [if_neg q, up_k (by omega)]; exact hTj (by omega)
                  have g := ih (by omega) (tp + (-1)) s1_ (some (.int (iI st))) ?_ (fun c hc9_ => ((congrFun es1_ c).trans (up_cc (by omega))).trans (hF c (by omega))) ?_ ?_
                  · rw [show fr + ((m + 1 : Nat) : Int) = fr + m + 1 by omega] at g
                    exact g
                  · rw [eN, eK, cn, ck]; omega
                  · rw [eN, eK, eV, cn, ck, cv]; exact hV2
                  · rw [eK, eT, ck, ct]; exact hT2
                · have cn : cN1 o n = 0 := by unfold cN1; (repeat' split) <;> omega
                  have ck : cK1 o k = k - 1 := by unfold cK1; (repeat' split) <;> omega
                  have cv : vs1 o v n (s 578) vs = vs := by funext j; unfold vs1; (repeat' split) <;> first | rfl | omega
                  have ct : ts1 o n k vs ts = fun j => if j = k - 2 then combI o (ts (k - 2)) (ts (k - 1)) else ts j := by funext j; unfold ts1 combI; (repeat' split) <;> first | rfl | omega
                  have hV2 : ∀ j, 0 ≤ j → j < 0 → s1_ 579 (k - 1 + j) = (vs) j := by
                    intro j hj0 hj1
                    try dsimp only
                    have hVj := hV j hj0
                    rw [es1_]
                    exact absurd hj1 (by omega)
                  have hT2 : ∀ j, 0 ≤ j → j < k - 1 → s1_ 579 j = (fun j => if j = k - 2 then combI o (ts (k - 2)) (ts (k - 1)) else ts j) j := by
                    intro j hj0 hj1
                    try dsimp only
                    have hTj := hT j hj0
                    rw [es1_]
                    by_cases q : j = k - 2
                    · rw [if_pos q, up_e (by omega), show tp + -1 - 1 = k - 2 by omega, show tp + -1 = k - 1 by omega, hT (k - 2) (by omega) (by omega), hT (k - 1) (by omega) (by omega)]
                    · rw [if_neg q, up_k (by omega)]; exact hTj (by omega)
                  have g := ih (by omega) (tp + (-1)) s1_ (some (.int (iI st))) ?_ (fun c hc9_ => ((congrFun es1_ c).trans (up_cc (by omega))).trans (hF c (by omega))) ?_ ?_
                  · rw [show fr + ((m + 1 : Nat) : Int) = fr + m + 1 by omega] at g
                    exact g
                  · rw [eN, eK, cn, ck]; omega
                  · rw [eN, eK, eV, cn, ck, cv]; exact hV2
                  · rw [eK, eT, ck, ct]; exact hT2
              · refine wi_i1 hc rfl rfl ?_
                refine wi_zle hc rfl ⟨by omega, by omega⟩ (fun h10_ => (by exfalso; omega)) (fun h10_ => ?_)
                refine wi_a1 hc rfl rfl ?_
                refine wi_gr (w := 579) hc rfl rfl (by decide) (Nat.le_of_ble_eq_true rfl) rfl ?_
                refine wi_i1 hc rfl rfl ?_
                refine wi_ic hc rfl ?_
                refine wi_sub hc rfl ?_
                refine wi_a1 hc rfl rfl ?_
                refine wi_gr (w := 579) hc rfl rfl (by decide) (Nat.le_of_ble_eq_true rfl) rfl ?_
                refine wi_i1 hc rfl rfl ?_
                refine wi_ic hc rfl ?_
                refine wi_sub hc rfl ?_
                refine wi_ild (N := 64) hc rfl rfl (by decide) (by decide) (by omega) (by omega) ?_
                refine wi_neg hc rfl ?_
                refine wi_ist (N := 64) hc rfl rfl (by decide) (by decide) (by omega) (by omega) ?_
                obtain ⟨s2_, es2_⟩ : ∃ q, q = up s1 579 (tp - 1) (-(s1 579 (tp - 1))) := ⟨_, rfl⟩
                rw [← es2_]
                refine wi_go hc rfl ?_
                refine wi_inc (L' := [some (.ref 577), some (.ref u), some (.int (iI slot)), some (.int (iI tp)), some (.int (iI (fr + m + 1))), some (.int (iI st))]) hc rfl rfl rfl ?_
                refine wi_go hc rfl ?_
                have hoo : o = 2 ∧ 1 ≤ n := by omega
                clear hst hst2
                have eN : (cNK op fr (m + 1)).1 = cN1 o n := by show cN1 (op (fr + m)) (cNK op fr m).1 = _; rw [← hn, ← ho]
                have eK : (cNK op fr (m + 1)).2 = cK1 o k := by show cK1 (op (fr + m)) (cNK op fr m).2 = _; rw [← hkk, ← ho]
                have eV : (vmR op vl (s 578) fr (m + 1)).1 = vs1 o v n (s 578) vs := by show vs1 (op (fr + m)) (vl (fr + m)) (cNK op fr m).1 (s 578) (vmR op vl (s 578) fr m).1 = _; rw [← hn, ← ho, ← hv, ← hvs]
                have eT : (vmR op vl (s 578) fr (m + 1)).2 = ts1 o n k vs ts := by show ts1 (op (fr + m)) (cNK op fr m).1 (cNK op fr m).2 (vmR op vl (s 578) fr m).1 (vmR op vl (s 578) fr m).2 = _; rw [← hn, ← hkk, ← ho, ← hvs, ← hts]
                have cn : cN1 o n = n := by unfold cN1; (repeat' split) <;> omega
                have ck : cK1 o k = k := by unfold cK1; (repeat' split) <;> omega
                have cv : vs1 o v n (s 578) vs = fun j => if j = n - 1 then - vs (n - 1) else vs j := by funext j; unfold vs1; (repeat' split) <;> first | rfl | omega
                have ct : ts1 o n k vs ts = ts := by funext j; unfold ts1; (repeat' split) <;> first | rfl | omega
                have hV2 : ∀ j, 0 ≤ j → j < n → s2_ 579 (k + j) = (fun j => if j = n - 1 then - vs (n - 1) else vs j) j := by
                  intro j hj0 hj1
                  try dsimp only
                  have hVj := hV j hj0
                  rw [es2_]
                  by_cases q : j = n - 1
                  · rw [if_pos q, up_e (by omega), show tp - 1 = k + (n - 1) by omega, hV (n - 1) (by omega) (by omega)]
                  · rw [if_neg q, up_k (by omega)]; exact hVj (by omega)
                have hT2 : ∀ j, 0 ≤ j → j < k → s2_ 579 j = (ts) j := by
                  intro j hj0 hj1
                  try dsimp only
                  have hTj := hT j hj0
                  rw [es2_]
                  rw [up_k (by omega)]
                  exact hTj (by omega)
                have g := ih (by omega) (tp) s2_ (some (.int (iI st))) ?_ (fun c hc9_ => ((congrFun es2_ c).trans (up_cc (by omega))).trans (hF c (by omega))) ?_ ?_
                · rw [show fr + ((m + 1 : Nat) : Int) = fr + m + 1 by omega] at g
                  exact g
                · rw [eN, eK, cn, ck]; omega
                · rw [eN, eK, eV, cn, ck, cv]; exact hV2
                · rw [eK, eT, ck, ct]; exact hT2
            · refine wi_i1 hc rfl rfl ?_
              refine wi_zle hc rfl ⟨by omega, by omega⟩ (fun h11_ => (by exfalso; omega)) (fun h11_ => ?_)
              refine wi_a1 hc rfl rfl ?_
              refine wi_gr (w := 579) hc rfl rfl (by decide) (Nat.le_of_ble_eq_true rfl) rfl ?_
              refine wi_i1 hc rfl rfl ?_
              refine wi_ic hc rfl ?_
              refine wi_sub hc rfl ?_
              refine wi_ic hc rfl ?_
              refine wi_a1 hc rfl rfl ?_
              refine wi_gr (w := 579) hc rfl rfl (by decide) (Nat.le_of_ble_eq_true rfl) rfl ?_
              refine wi_i1 hc rfl rfl ?_
              refine wi_ic hc rfl ?_
              refine wi_sub hc rfl ?_
              refine wi_ild (N := 64) hc rfl rfl (by decide) (by decide) (by omega) (by omega) ?_
              refine wi_sub hc rfl ?_
              refine wi_ist (N := 64) hc rfl rfl (by decide) (by decide) (by omega) (by omega) ?_
              obtain ⟨s3_, es3_⟩ : ∃ q, q = up s1 579 (tp - 1) (1 - (s1 579 (tp - 1))) := ⟨_, rfl⟩
              rw [← es3_]
              refine wi_go hc rfl ?_
              refine wi_inc (L' := [some (.ref 577), some (.ref u), some (.int (iI slot)), some (.int (iI tp)), some (.int (iI (fr + m + 1))), some (.int (iI st))]) hc rfl rfl rfl ?_
              refine wi_go hc rfl ?_
              have hoo : o = 20 ∧ n = 0 ∧ 1 ≤ k := by omega
              clear hst hst2
              have eN : (cNK op fr (m + 1)).1 = cN1 o n := by show cN1 (op (fr + m)) (cNK op fr m).1 = _; rw [← hn, ← ho]
              have eK : (cNK op fr (m + 1)).2 = cK1 o k := by show cK1 (op (fr + m)) (cNK op fr m).2 = _; rw [← hkk, ← ho]
              have eV : (vmR op vl (s 578) fr (m + 1)).1 = vs1 o v n (s 578) vs := by show vs1 (op (fr + m)) (vl (fr + m)) (cNK op fr m).1 (s 578) (vmR op vl (s 578) fr m).1 = _; rw [← hn, ← ho, ← hv, ← hvs]
              have eT : (vmR op vl (s 578) fr (m + 1)).2 = ts1 o n k vs ts := by show ts1 (op (fr + m)) (cNK op fr m).1 (cNK op fr m).2 (vmR op vl (s 578) fr m).1 (vmR op vl (s 578) fr m).2 = _; rw [← hn, ← hkk, ← ho, ← hvs, ← hts]
              have cn : cN1 o n = n := by unfold cN1; (repeat' split) <;> omega
              have ck : cK1 o k = k := by unfold cK1; (repeat' split) <;> omega
              have cv : vs1 o v n (s 578) vs = vs := by funext j; unfold vs1; (repeat' split) <;> first | rfl | omega
              have ct : ts1 o n k vs ts = fun j => if j = k - 1 then 1 - ts (k - 1) else ts j := by funext j; unfold ts1; (repeat' split) <;> first | rfl | omega
              have hV2 : ∀ j, 0 ≤ j → j < n → s3_ 579 (k + j) = (vs) j := by
                intro j hj0 hj1
                try dsimp only
                have hVj := hV j hj0
                rw [es3_]
                exact absurd hj1 (by omega)
              have hT2 : ∀ j, 0 ≤ j → j < k → s3_ 579 j = (fun j => if j = k - 1 then 1 - ts (k - 1) else ts j) j := by
                intro j hj0 hj1
                try dsimp only
                have hTj := hT j hj0
                rw [es3_]
                by_cases q : j = k - 1
                · rw [if_pos q, up_e (by omega), show tp - 1 = k - 1 by omega, hT (k - 1) (by omega) (by omega)]
                · rw [if_neg q, up_k (by omega)]; exact hTj (by omega)
              have g := ih (by omega) (tp) s3_ (some (.int (iI st))) ?_ (fun c hc9_ => ((congrFun es3_ c).trans (up_cc (by omega))).trans (hF c (by omega))) ?_ ?_
              · rw [show fr + ((m + 1 : Nat) : Int) = fr + m + 1 by omega] at g
                exact g
              · rw [eN, eK, cn, ck]; omega
              · rw [eN, eK, eV, cn, ck, cv]; exact hV2
              · rw [eK, eT, ck, ct]; exact hT2
          · refine wi_a1 hc rfl rfl ?_
            refine wi_gr (w := 579) hc rfl rfl (by decide) (Nat.le_of_ble_eq_true rfl) rfl ?_
            refine wi_i1 hc rfl rfl ?_
            refine wi_a1 hc rfl rfl ?_
            refine wi_gr (w := 578) hc rfl rfl (by decide) (Nat.le_of_ble_eq_true rfl) rfl ?_
            refine wi_i2 hc rfl rfl ?_
            refine wi_si hc rfl rfl ?_
            refine wi_sub hc rfl ?_
            refine wi_ildv (N := 15) hc rfl rfl (by decide) (by decide) (by omega) (by omega) (v := s 578 (st - 10000)) (congrFun (hF 578 (by decide)) _) ?_
            refine wi_ist (N := 64) hc rfl rfl (by decide) (by decide) (by omega) (by omega) ?_
            obtain ⟨s4_, es4_⟩ : ∃ q, q = up s1 579 tp (s 578 (st - 10000)) := ⟨_, rfl⟩
            rw [← es4_]
            refine wi_inc (L' := [some (.ref 577), some (.ref u), some (.int (iI slot)), some (.int (iI (tp + 1))), some (.int (iI (fr + m))), some (.int (iI st))]) hc rfl rfl rfl ?_
            refine wi_go hc rfl ?_
            refine wi_inc (L' := [some (.ref 577), some (.ref u), some (.int (iI slot)), some (.int (iI (tp + 1))), some (.int (iI (fr + m + 1))), some (.int (iI st))]) hc rfl rfl rfl ?_
            refine wi_go hc rfl ?_
            have hoo : o = 1 := by omega
            have hsv : st - 10000 = v := by omega
            clear hst hst2
            have eN : (cNK op fr (m + 1)).1 = cN1 o n := by show cN1 (op (fr + m)) (cNK op fr m).1 = _; rw [← hn, ← ho]
            have eK : (cNK op fr (m + 1)).2 = cK1 o k := by show cK1 (op (fr + m)) (cNK op fr m).2 = _; rw [← hkk, ← ho]
            have eV : (vmR op vl (s 578) fr (m + 1)).1 = vs1 o v n (s 578) vs := by show vs1 (op (fr + m)) (vl (fr + m)) (cNK op fr m).1 (s 578) (vmR op vl (s 578) fr m).1 = _; rw [← hn, ← ho, ← hv, ← hvs]
            have eT : (vmR op vl (s 578) fr (m + 1)).2 = ts1 o n k vs ts := by show ts1 (op (fr + m)) (cNK op fr m).1 (cNK op fr m).2 (vmR op vl (s 578) fr m).1 (vmR op vl (s 578) fr m).2 = _; rw [← hn, ← hkk, ← ho, ← hvs, ← hts]
            have cn : cN1 o n = n + 1 := by unfold cN1; (repeat' split) <;> omega
            have ck : cK1 o k = k := by unfold cK1; (repeat' split) <;> omega
            have cv : vs1 o v n (s 578) vs = fun j => if j = n then s 578 v else vs j := by funext j; unfold vs1; (repeat' split) <;> first | rfl | omega
            have ct : ts1 o n k vs ts = ts := by funext j; unfold ts1; (repeat' split) <;> first | rfl | omega
            have hV2 : ∀ j, 0 ≤ j → j < n + 1 → s4_ 579 (k + j) = (fun j => if j = n then s 578 v else vs j) j := by
              intro j hj0 hj1
              try dsimp only
              have hVj := hV j hj0
              rw [es4_]
              by_cases q : j = n
              · rw [if_pos q, up_e (by omega), hsv]
              · rw [if_neg q, up_k (by omega)]; exact hVj (by omega)
            have hT2 : ∀ j, 0 ≤ j → j < k → s4_ 579 j = (ts) j := by
              intro j hj0 hj1
              try dsimp only
              have hTj := hT j hj0
              rw [es4_]
              rw [up_k (by omega)]
              exact hTj (by omega)
            have g := ih (by omega) (tp + 1) s4_ (some (.int (iI st))) ?_ (fun c hc9_ => ((congrFun es4_ c).trans (up_cc (by omega))).trans (hF c (by omega))) ?_ ?_
            · rw [show fr + ((m + 1 : Nat) : Int) = fr + m + 1 by omega] at g
              exact g
            · rw [eN, eK, cn, ck]; omega
            · rw [eN, eK, eV, cn, ck, cv]; exact hV2
            · rw [eK, eT, ck, ct]; exact hT2
        · refine wi_a1 hc rfl rfl ?_
          refine wi_gr (w := 579) hc rfl rfl (by decide) (Nat.le_of_ble_eq_true rfl) rfl ?_
          refine wi_i1 hc rfl rfl ?_
          refine wi_i2 hc rfl rfl ?_
          refine wi_ist (N := 64) hc rfl rfl (by decide) (by decide) (by omega) (by omega) ?_
          obtain ⟨s5_, es5_⟩ : ∃ q, q = up s1 579 tp st := ⟨_, rfl⟩
          rw [← es5_]
          refine wi_inc (L' := [some (.ref 577), some (.ref u), some (.int (iI slot)), some (.int (iI (tp + 1))), some (.int (iI (fr + m))), some (.int (iI st))]) hc rfl rfl rfl ?_
          refine wi_go hc rfl ?_
          refine wi_inc (L' := [some (.ref 577), some (.ref u), some (.int (iI slot)), some (.int (iI (tp + 1))), some (.int (iI (fr + m + 1))), some (.int (iI st))]) hc rfl rfl rfl ?_
          refine wi_go hc rfl ?_
          have hoo : o = 0 := by omega
          have hsv : st = v := by omega
          clear hst hst2
          have eN : (cNK op fr (m + 1)).1 = cN1 o n := by show cN1 (op (fr + m)) (cNK op fr m).1 = _; rw [← hn, ← ho]
          have eK : (cNK op fr (m + 1)).2 = cK1 o k := by show cK1 (op (fr + m)) (cNK op fr m).2 = _; rw [← hkk, ← ho]
          have eV : (vmR op vl (s 578) fr (m + 1)).1 = vs1 o v n (s 578) vs := by show vs1 (op (fr + m)) (vl (fr + m)) (cNK op fr m).1 (s 578) (vmR op vl (s 578) fr m).1 = _; rw [← hn, ← ho, ← hv, ← hvs]
          have eT : (vmR op vl (s 578) fr (m + 1)).2 = ts1 o n k vs ts := by show ts1 (op (fr + m)) (cNK op fr m).1 (cNK op fr m).2 (vmR op vl (s 578) fr m).1 (vmR op vl (s 578) fr m).2 = _; rw [← hn, ← hkk, ← ho, ← hvs, ← hts]
          have cn : cN1 o n = n + 1 := by unfold cN1; (repeat' split) <;> omega
          have ck : cK1 o k = k := by unfold cK1; (repeat' split) <;> omega
          have cv : vs1 o v n (s 578) vs = fun j => if j = n then v else vs j := by funext j; unfold vs1; (repeat' split) <;> first | rfl | omega
          have ct : ts1 o n k vs ts = ts := by funext j; unfold ts1; (repeat' split) <;> first | rfl | omega
          have hV2 : ∀ j, 0 ≤ j → j < n + 1 → s5_ 579 (k + j) = (fun j => if j = n then v else vs j) j := by
            intro j hj0 hj1
            try dsimp only
            have hVj := hV j hj0
            rw [es5_]
            by_cases q : j = n
            · rw [if_pos q, up_e (by omega), hsv]
            · rw [if_neg q, up_k (by omega)]; exact hVj (by omega)
          have hT2 : ∀ j, 0 ≤ j → j < k → s5_ 579 j = (ts) j := by
            intro j hj0 hj1
            try dsimp only
            have hTj := hT j hj0
            rw [es5_]
            rw [up_k (by omega)]
            exact hTj (by omega)
          have g := ih (by omega) (tp + 1) s5_ (some (.int (iI st))) ?_ (fun c hc9_ => ((congrFun es5_ c).trans (up_cc (by omega))).trans (hF c (by omega))) ?_ ?_
          · rw [show fr + ((m + 1 : Nat) : Int) = fr + m + 1 by omega] at g
            exact g
          · rw [eN, eK, cn, ck]; omega
          · rw [eN, eK, eV, cn, ck, cv]; exact hV2
          · rw [eK, eT, ck, ct]; exact hT2
  have g := loop10_ 0 (Nat.zero_le _) 0 s none rfl (fun c _ => rfl) (fun j h1 h2 => absurd (show j < 0 from h2) (by omega)) (fun j h1 h2 => absurd (show j < 0 from h2) (by omega))
  rw [show fr + ((0 : Nat) : Int) = fr by omega] at g
  exact g
