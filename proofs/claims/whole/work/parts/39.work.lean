/-! The model works a clause. -/
theorem up_indN {n : Nat} {P : Nat → Prop} (h : ∀ i, i ≤ n → (i + 1 ≤ n → P (i + 1)) → P i) : ∀ i, i ≤ n → P i := by
  have key : ∀ (m i : Nat), i ≤ n → n - i ≤ m → P i := by
    intro m
    induction m with
    | zero => exact fun i hi hm => h i hi (fun q => absurd q (by omega))
    | succ m ih => exact fun i hi hm => h i hi (fun q => ih (i + 1) q (by omega))
  exact fun i hi => key (n - i) i hi (by omega)
def opM (s : Nat → Int → Int) (j : Int) : Int := s 601 (705 * s 599 6 + 97 + 2 * j)
def vlM (s : Nat → Int → Int) (j : Int) : Int := s 601 (705 * s 599 6 + 97 + 2 * j + 1)
def rlV (w : Int → Int) (n : Int) (vs : Int → Int) : Prop := ∀ j, 0 ≤ j → j < n → w j = vs j
theorem up_cc {s : Nat → Int → Int} {a c : Nat} {k v : Int} (h : c ≠ a) : up s a k v c = s c := by
  funext j
  exact up_c h
set_option maxHeartbeats 4000000 in
theorem sp_203 {d L t : Nat} {s l : Nat → Int → Int} {c fr : Int} {N : Nat} (ht0 : 0 ≤ s 599 6) (ht1 : s 599 6 ≤ 3) (hc0 : 0 ≤ c) (hc1 : c < 24) (hf0 : 0 ≤ fr) (hfN : fr + N ≤ 304) (hfr : s 601 (705 * s 599 6 + 1 + 4 * c + 2) = fr) (hto : s 601 (705 * s 599 6 + 1 + 4 * c + 3) = fr + N) (hok : okC (opM s) (vlM s) fr N) (hnm : ∀ j, 0 ≤ j → j < 15 → -1000000 ≤ s 604 j ∧ s 604 j ≤ 1000000) : ∃ res, mm_Ev mm_ct mm_CM (d + 3) 203 [.ref 598, .int (iI c)] (MX L t s l) res ∧ ∃ s1 l1, res = (none, MX L t s1 l1) ∧ (∀ c, c ≠ 606 → s1 c = s c) ∧ (∀ c, c ≠ 605 → l1 c = l c) ∧ rlV (l1 605) (cNK (opM s) fr N).1 (vmR (opM s) (vlM s) (s 604) fr N).1 ∧ rlV (s1 606) (cNK (opM s) fr N).2 (vmR (opM s) (vlM s) (s 604) fr N).2 := by
  have hc : (mm_CM 203).2.2.2.2.2.2.2 = mm_cf cd_203 := by rw [cm_203]; rfl
  refine ev_to (mx := 9) (by rw [cm_203]; decide) (by rw [cm_203]; rfl) (by show 2 ≤ _; decide) ?_
  show mm_wp _ _ (0, [some (.ref 598), some (.int (iI c)), none, none, none, none, none, none, none], [], MX L t s l) _
  refine wi_si hc rfl rfl ?_
  refine wi_a1 hc rfl rfl ?_
  refine wi_gr (w := 599) hc rfl rfl (by decide) (Nat.le_of_ble_eq_true rfl) rfl ?_
  refine wi_bi hc rfl rfl ?_
  refine wi_ild (N := 3642) hc rfl rfl (by decide) (by decide) (by omega) (by omega) ?_
  refine wi_mul hc rfl ?_
  refine wi_ic hc rfl ?_
  refine wi_add hc rfl ?_
  refine wi_ic hc rfl ?_
  refine wi_i1 hc rfl rfl ?_
  refine wi_mul hc rfl ?_
  refine wi_add hc rfl ?_
  refine wi_is1 (L' := [some (.ref 598), some (.int (iI c)), some (.int (iI (((705 * (s 599 6)) + 1) + (4 * c)))), none, none, none, none, none, none]) hc rfl (Nat.le_of_ble_eq_true rfl) rfl ?_
  refine wi_si hc rfl rfl ?_
  refine wi_a1 hc rfl rfl ?_
  refine wi_gr (w := 599) hc rfl rfl (by decide) (Nat.le_of_ble_eq_true rfl) rfl ?_
  refine wi_bi hc rfl rfl ?_
  refine wi_ild (N := 3642) hc rfl rfl (by decide) (by decide) (by omega) (by omega) ?_
  refine wi_mul hc rfl ?_
  refine wi_bi hc rfl rfl ?_
  refine wi_add hc rfl ?_
  refine wi_is1 (L' := [some (.ref 598), some (.int (iI c)), some (.int (iI (((705 * (s 599 6)) + 1) + (4 * c)))), some (.int (iI ((705 * (s 599 6)) + 97))), none, none, none, none, none]) hc rfl (Nat.le_of_ble_eq_true rfl) rfl ?_
  refine wi_ic hc rfl ?_
  refine wi_is2 (L' := [some (.ref 598), some (.int (iI c)), some (.int (iI (((705 * (s 599 6)) + 1) + (4 * c)))), some (.int (iI ((705 * (s 599 6)) + 97))), some (.int (iI 0)), none, none, none, none]) hc rfl (Nat.le_of_ble_eq_true rfl) rfl ?_
  refine wi_ic hc rfl ?_
  refine wi_is2 (L' := [some (.ref 598), some (.int (iI c)), some (.int (iI (((705 * (s 599 6)) + 1) + (4 * c)))), some (.int (iI ((705 * (s 599 6)) + 97))), some (.int (iI 0)), some (.int (iI 0)), none, none, none]) hc rfl (Nat.le_of_ble_eq_true rfl) rfl ?_
  refine wi_a1 hc rfl rfl ?_
  refine wi_gr (w := 601) hc rfl rfl (by decide) (Nat.le_of_ble_eq_true rfl) rfl ?_
  refine wi_i1 hc rfl rfl ?_
  refine wi_ic hc rfl ?_
  refine wi_add hc rfl ?_
  refine wi_ild (N := 2820) hc rfl rfl (by decide) (by decide) (by omega) (by omega) ?_
  rw [hfr]
  refine wi_is2 (L' := [some (.ref 598), some (.int (iI c)), some (.int (iI (((705 * (s 599 6)) + 1) + (4 * c)))), some (.int (iI ((705 * (s 599 6)) + 97))), some (.int (iI 0)), some (.int (iI 0)), some (.int (iI fr)), none, none]) hc rfl (Nat.le_of_ble_eq_true rfl) rfl ?_
  have loop49_ : ∀ m : Nat, m ≤ N → ∀ (s1 l1 : Nat → Int → Int) (q7 q8 : Option Value), (∀ c, c ≠ 606 → s1 c = s c) → (∀ c, c ≠ 605 → l1 c = l c) → rlV (l1 605) (cNK (opM s) fr m).1 (vmR (opM s) (vlM s) (s 604) fr m).1 → rlV (s1 606) (cNK (opM s) fr m).2 (vmR (opM s) (vlM s) (s 604) fr m).2 → mm_wp (mm_Ev mm_ct mm_CM (d + 2)) 203 (49, [some (.ref 598), some (.int (iI c)), some (.int (iI (((705 * (s 599 6)) + 1) + (4 * c)))), some (.int (iI ((705 * (s 599 6)) + 97))), some (.int (iI ((cNK (opM s) fr m).1))), some (.int (iI ((cNK (opM s) fr m).2))), some (.int (iI (fr + m))), q7, q8], [], MX L t s1 l1) (fun res => ∃ s1 l1, res = (none, MX L t s1 l1) ∧ (∀ c, c ≠ 606 → s1 c = s c) ∧ (∀ c, c ≠ 605 → l1 c = l c) ∧ rlV (l1 605) (cNK (opM s) fr N).1 (vmR (opM s) (vlM s) (s 604) fr N).1 ∧ rlV (s1 606) (cNK (opM s) fr N).2 (vmR (opM s) (vlM s) (s 604) fr N).2) := by
    refine up_indN ?_
    intro m hm ih s1 l1 q7 q8 hs hl hV hT
    have hvr := vmR_r (nm := s 604) hok hnm m hm
    obtain ⟨n, hn⟩ : ∃ n, n = (cNK (opM s) fr m).1 := ⟨_, rfl⟩
    obtain ⟨k, hk⟩ : ∃ k, k = (cNK (opM s) fr m).2 := ⟨_, rfl⟩
    obtain ⟨vs, hvs⟩ : ∃ vs, vs = (vmR (opM s) (vlM s) (s 604) fr m).1 := ⟨_, rfl⟩
    obtain ⟨ts, hts⟩ : ∃ ts, ts = (vmR (opM s) (vlM s) (s 604) fr m).2 := ⟨_, rfl⟩
    rw [← hn, ← hvs] at hV
    rw [← hk, ← hts] at hT
    rw [← hvs, ← hts] at hvr
    obtain ⟨hvb, htb⟩ := hvr
    rw [← hn, ← hk]
    refine wi_i2 hc rfl rfl ?_
    refine wi_a1 hc rfl rfl ?_
    refine wi_gr (w := 601) hc rfl rfl (by decide) (Nat.le_of_ble_eq_true rfl) rfl ?_
    refine wi_i1 hc rfl rfl ?_
    refine wi_ic hc rfl ?_
    refine wi_add hc rfl ?_
    refine wi_ild (N := 2820) hc rfl rfl (by decide) (by decide) (by omega) (by omega) ?_
    rw [hs 601 (by decide), hto]
    refine wi_cge hc rfl ⟨by omega, by omega⟩ ⟨by omega, by omega⟩ (fun h1_ => ?_) (fun h1_ => ?_)
    · refine wi_rv hc rfl (by rw [cm_203]; rfl) ?_
      have eM : m = N := by omega
      rw [hn, hvs, eM] at hV
      rw [hk, hts, eM] at hT
      exact ⟨s1, l1, rfl, hs, hl, hV, hT⟩
    · refine wi_a1 hc rfl rfl ?_
      refine wi_gr (w := 601) hc rfl rfl (by decide) (Nat.le_of_ble_eq_true rfl) rfl ?_
      refine wi_i1 hc rfl rfl ?_
      refine wi_ic hc rfl ?_
      refine wi_i2 hc rfl rfl ?_
      refine wi_mul hc rfl ?_
      refine wi_add hc rfl ?_
      refine wi_ild (N := 2820) hc rfl rfl (by decide) (by decide) (by omega) (by omega) ?_
      obtain ⟨o, ho⟩ : ∃ o, o = opM s (fr + m) := ⟨_, rfl⟩
      obtain ⟨v, hv⟩ : ∃ v, v = vlM s (fr + m) := ⟨_, rfl⟩
      have h3 := hok m (by omega)
      have h4 := okC_r hok m (by omega)
      rw [← hn, ← hk, ← ho, ← hv] at h3
      rw [← hn, ← hk] at h4
      unfold okO at h3
      have ho2 : s 601 (705 * s 599 6 + 97 + 2 * (fr + m)) = o := ho.symm
      have hv2 : s 601 (705 * s 599 6 + 97 + 2 * (fr + m) + 1) = v := hv.symm
      have hor : rI o := ⟨by omega, by omega⟩
      rw [hs 601 (by decide), ho2]
      refine wi_is2 (L' := [some (.ref 598), some (.int (iI c)), some (.int (iI (((705 * (s 599 6)) + 1) + (4 * c)))), some (.int (iI ((705 * (s 599 6)) + 97))), some (.int (iI n)), some (.int (iI k)), some (.int (iI (fr + m))), some (.int (iI o)), q8]) hc rfl (Nat.le_of_ble_eq_true rfl) rfl ?_
      refine wi_a1 hc rfl rfl ?_
      refine wi_gr (w := 601) hc rfl rfl (by decide) (Nat.le_of_ble_eq_true rfl) rfl ?_
      refine wi_i1 hc rfl rfl ?_
      refine wi_ic hc rfl ?_
      refine wi_i2 hc rfl rfl ?_
      refine wi_mul hc rfl ?_
      refine wi_add hc rfl ?_
      refine wi_ic hc rfl ?_
      refine wi_add hc rfl ?_
      refine wi_ild (N := 2820) hc rfl rfl (by decide) (by decide) (by omega) (by omega) ?_
      rw [hs 601 (by decide), hv2]
      refine wi_is2 (L' := [some (.ref 598), some (.int (iI c)), some (.int (iI (((705 * (s 599 6)) + 1) + (4 * c)))), some (.int (iI ((705 * (s 599 6)) + 97))), some (.int (iI n)), some (.int (iI k)), some (.int (iI (fr + m))), some (.int (iI o)), some (.int (iI v))]) hc rfl (Nat.le_of_ble_eq_true rfl) rfl ?_
      refine wi_i2 hc rfl rfl ?_
      refine wi_ic hc rfl ?_
      refine wi_cgt hc rfl hor ⟨by decide, by decide⟩ (fun h2_ => ?_) (fun h2_ => ?_)
      · refine wi_i2 hc rfl rfl ?_
        refine wi_ic hc rfl ?_
        refine wi_cne hc rfl hor ⟨by decide, by decide⟩ (fun h3_ => ?_) (fun h3_ => ?_)
        · refine wi_i2 hc rfl rfl ?_
          refine wi_bi hc rfl rfl ?_
          refine wi_cge hc rfl hor ⟨by decide, by decide⟩ (fun h4_ => ?_) (fun h4_ => ?_)
          · refine wi_i2 hc rfl rfl ?_
            refine wi_bi hc rfl rfl ?_
            refine wi_cge hc rfl hor ⟨by decide, by decide⟩ (fun h5_ => ?_) (fun h5_ => ?_)
            · refine wi_i2 hc rfl rfl ?_
              refine wi_bi hc rfl rfl ?_
              refine wi_cne hc rfl hor ⟨by decide, by decide⟩ (fun h6_ => ?_) (fun h6_ => ?_)
              · refine wi_inc (L' := [some (.ref 598), some (.int (iI c)), some (.int (iI (((705 * (s 599 6)) + 1) + (4 * c)))), some (.int (iI ((705 * (s 599 6)) + 97))), some (.int (iI n)), some (.int (iI (k + (-1)))), some (.int (iI (fr + m))), some (.int (iI o)), some (.int (iI v))]) hc rfl rfl rfl ?_
                refine wi_a1 hc rfl rfl ?_
                refine wi_gr (w := 606) hc rfl rfl (by decide) (Nat.le_of_ble_eq_true rfl) rfl ?_
                refine wi_i2 hc rfl rfl ?_
                refine wi_ic hc rfl ?_
                refine wi_sub hc rfl ?_
                refine wi_i2 hc rfl rfl ?_
                refine wi_bi hc rfl rfl ?_
                refine wi_cne hc rfl hor ⟨by decide, by decide⟩ (fun h7_ => ?_) (fun h7_ => ?_)
                · refine wi_a1 hc rfl rfl ?_
                  refine wi_gr (w := 606) hc rfl rfl (by decide) (Nat.le_of_ble_eq_true rfl) rfl ?_
                  refine wi_i2 hc rfl rfl ?_
                  refine wi_ic hc rfl ?_
                  refine wi_sub hc rfl ?_
                  refine wi_bld (N := 330) hc rfl rfl (by decide) (by decide) (by omega) (by omega) ?_
                  rw [hT (k + (-1) - 1) (by omega) (by omega)]
                  have t1 := htb (k + (-1) - 1) (by omega)
                  refine wi_zne hc rfl ⟨by omega, by omega⟩ (fun h8_ => ?_) (fun h8_ => ?_)
                  · refine wi_ic hc rfl ?_
                    refine wi_go hc rfl ?_
                    refine wi_bst (N := 330) hc rfl rfl (by decide) (by decide) (by omega) (by omega) (by omega) ?_
                    obtain ⟨s1_, es1_⟩ : ∃ q, q = up s1 606 ((k + (-1)) - 1) 1 := ⟨_, rfl⟩
                    rw [← es1_]
                    refine wi_inc (L' := [some (.ref 598), some (.int (iI c)), some (.int (iI (((705 * (s 599 6)) + 1) + (4 * c)))), some (.int (iI ((705 * (s 599 6)) + 97))), some (.int (iI n)), some (.int (iI (k + (-1)))), some (.int (iI (fr + m + 1))), some (.int (iI o)), some (.int (iI v))]) hc rfl rfl rfl ?_
                    refine wi_go hc rfl ?_
                    have eN : (cNK (opM s) fr (m + 1)).1 = n := by
                      show cN1 (opM s (fr + m)) (cNK (opM s) fr m).1 = _
                      rw [← hn, ← ho]
                      unfold cN1
                      (repeat' split) <;> omega
                    have eK : (cNK (opM s) fr (m + 1)).2 = k + (-1) := by
                      show cK1 (opM s (fr + m)) (cNK (opM s) fr m).2 = _
                      rw [← hk, ← ho]
                      unfold cK1
                      (repeat' split) <;> omega
                    have eV : (vmR (opM s) (vlM s) (s 604) fr (m + 1)).1 = vs1 o v n (s 604) vs := by
                      show vs1 (opM s (fr + m)) (vlM s (fr + m)) (cNK (opM s) fr m).1 (s 604) (vmR (opM s) (vlM s) (s 604) fr m).1 = _
                      rw [← hn, ← ho, ← hv, ← hvs]
                    have eT : (vmR (opM s) (vlM s) (s 604) fr (m + 1)).2 = ts1 o n k vs ts := by
                      show ts1 (opM s (fr + m)) (cNK (opM s) fr m).1 (cNK (opM s) fr m).2 (vmR (opM s) (vlM s) (s 604) fr m).1 (vmR (opM s) (vlM s) (s 604) fr m).2 = _
                      rw [← hn, ← hk, ← ho, ← hvs, ← hts]
                    have g := ih (by omega) s1_ l1 (some (.int (iI o))) (some (.int (iI v))) ?_ ?_ ?_ ?_
                    · rw [eN, eK, show fr + ((m + 1 : Nat) : Int) = fr + m + 1 by omega] at g
                      exact g
                    · intro c hc9
                      rw [es1_]; show up _ _ _ _ c = _; rw [up_cc hc9]; exact hs c hc9
                    · intro c hc9
                      exact hl c hc9
                    · rw [eN, eV]
                      intro j hj0 hj1
                      have hVj := hV j hj0
                      unfold vs1
                      (repeat' split) <;> first | omega | (subst_vars; omega) | (exact hVj (by omega)) | (rw [show n + -1 - 1 = n - 2 by omega, show n + -1 = n - 1 by omega]) | (rw [show n + -2 + 1 = n - 1 by omega, show n + -2 = n - 2 by omega]) | (simp_all; done) | skip
                    · rw [eK, eT]
                      intro j hj0 hj1
                      have hTj := hT j hj0
                      rw [es1_]
                      unfold up
                      unfold ts1
                      (repeat' split) <;> first | omega | (subst_vars; omega) | (exact hTj (by omega)) | (rw [show n + -1 - 1 = n - 2 by omega, show n + -1 = n - 1 by omega]) | (rw [show n + -2 + 1 = n - 1 by omega, show n + -2 = n - 2 by omega]) | (rw [show k - 2 = k + -1 - 1 by omega, show k - 1 = k + -1 by omega]; unfold bI; split <;> omega) | (simp_all; done) | skip
                  · refine wi_a1 hc rfl rfl ?_
                    refine wi_gr (w := 606) hc rfl rfl (by decide) (Nat.le_of_ble_eq_true rfl) rfl ?_
                    refine wi_i2 hc rfl rfl ?_
                    refine wi_bld (N := 330) hc rfl rfl (by decide) (by decide) (by omega) (by omega) ?_
                    rw [hT (k + (-1)) (by omega) (by omega)]
                    have t2 := htb (k + (-1)) (by omega)
                    refine wi_zeq hc rfl ⟨by omega, by omega⟩ (fun h9_ => ?_) (fun h9_ => ?_)
                    · refine wi_ic hc rfl ?_
                      refine wi_bst (N := 330) hc rfl rfl (by decide) (by decide) (by omega) (by omega) (by omega) ?_
                      obtain ⟨s2_, es2_⟩ : ∃ q, q = up s1 606 ((k + (-1)) - 1) 0 := ⟨_, rfl⟩
                      rw [← es2_]
                      refine wi_inc (L' := [some (.ref 598), some (.int (iI c)), some (.int (iI (((705 * (s 599 6)) + 1) + (4 * c)))), some (.int (iI ((705 * (s 599 6)) + 97))), some (.int (iI n)), some (.int (iI (k + (-1)))), some (.int (iI (fr + m + 1))), some (.int (iI o)), some (.int (iI v))]) hc rfl rfl rfl ?_
                      refine wi_go hc rfl ?_
                      have eN : (cNK (opM s) fr (m + 1)).1 = n := by
                        show cN1 (opM s (fr + m)) (cNK (opM s) fr m).1 = _
                        rw [← hn, ← ho]
                        unfold cN1
                        (repeat' split) <;> omega
                      have eK : (cNK (opM s) fr (m + 1)).2 = k + (-1) := by
                        show cK1 (opM s (fr + m)) (cNK (opM s) fr m).2 = _
                        rw [← hk, ← ho]
                        unfold cK1
                        (repeat' split) <;> omega
                      have eV : (vmR (opM s) (vlM s) (s 604) fr (m + 1)).1 = vs1 o v n (s 604) vs := by
                        show vs1 (opM s (fr + m)) (vlM s (fr + m)) (cNK (opM s) fr m).1 (s 604) (vmR (opM s) (vlM s) (s 604) fr m).1 = _
                        rw [← hn, ← ho, ← hv, ← hvs]
                      have eT : (vmR (opM s) (vlM s) (s 604) fr (m + 1)).2 = ts1 o n k vs ts := by
                        show ts1 (opM s (fr + m)) (cNK (opM s) fr m).1 (cNK (opM s) fr m).2 (vmR (opM s) (vlM s) (s 604) fr m).1 (vmR (opM s) (vlM s) (s 604) fr m).2 = _
                        rw [← hn, ← hk, ← ho, ← hvs, ← hts]
                      have g := ih (by omega) s2_ l1 (some (.int (iI o))) (some (.int (iI v))) ?_ ?_ ?_ ?_
                      · rw [eN, eK, show fr + ((m + 1 : Nat) : Int) = fr + m + 1 by omega] at g
                        exact g
                      · intro c hc9
                        rw [es2_]; show up _ _ _ _ c = _; rw [up_cc hc9]; exact hs c hc9
                      · intro c hc9
                        exact hl c hc9
                      · rw [eN, eV]
                        intro j hj0 hj1
                        have hVj := hV j hj0
                        unfold vs1
                        (repeat' split) <;> first | omega | (subst_vars; omega) | (exact hVj (by omega)) | (rw [show n + -1 - 1 = n - 2 by omega, show n + -1 = n - 1 by omega]) | (rw [show n + -2 + 1 = n - 1 by omega, show n + -2 = n - 2 by omega]) | (simp_all; done) | skip
                      · rw [eK, eT]
                        intro j hj0 hj1
                        have hTj := hT j hj0
                        rw [es2_]
                        unfold up
                        unfold ts1
                        (repeat' split) <;> first | omega | (subst_vars; omega) | (exact hTj (by omega)) | (rw [show n + -1 - 1 = n - 2 by omega, show n + -1 = n - 1 by omega]) | (rw [show n + -2 + 1 = n - 1 by omega, show n + -2 = n - 2 by omega]) | (rw [show k - 2 = k + -1 - 1 by omega, show k - 1 = k + -1 by omega]; unfold bI; split <;> omega) | (simp_all; done) | skip
                    · refine wi_ic hc rfl ?_
                      refine wi_go hc rfl ?_
                      refine wi_bst (N := 330) hc rfl rfl (by decide) (by decide) (by omega) (by omega) (by omega) ?_
                      obtain ⟨s3_, es3_⟩ : ∃ q, q = up s1 606 ((k + (-1)) - 1) 1 := ⟨_, rfl⟩
                      rw [← es3_]
                      refine wi_inc (L' := [some (.ref 598), some (.int (iI c)), some (.int (iI (((705 * (s 599 6)) + 1) + (4 * c)))), some (.int (iI ((705 * (s 599 6)) + 97))), some (.int (iI n)), some (.int (iI (k + (-1)))), some (.int (iI (fr + m + 1))), some (.int (iI o)), some (.int (iI v))]) hc rfl rfl rfl ?_
                      refine wi_go hc rfl ?_
                      have eN : (cNK (opM s) fr (m + 1)).1 = n := by
                        show cN1 (opM s (fr + m)) (cNK (opM s) fr m).1 = _
                        rw [← hn, ← ho]
                        unfold cN1
                        (repeat' split) <;> omega
                      have eK : (cNK (opM s) fr (m + 1)).2 = k + (-1) := by
                        show cK1 (opM s (fr + m)) (cNK (opM s) fr m).2 = _
                        rw [← hk, ← ho]
                        unfold cK1
                        (repeat' split) <;> omega
                      have eV : (vmR (opM s) (vlM s) (s 604) fr (m + 1)).1 = vs1 o v n (s 604) vs := by
                        show vs1 (opM s (fr + m)) (vlM s (fr + m)) (cNK (opM s) fr m).1 (s 604) (vmR (opM s) (vlM s) (s 604) fr m).1 = _
                        rw [← hn, ← ho, ← hv, ← hvs]
                      have eT : (vmR (opM s) (vlM s) (s 604) fr (m + 1)).2 = ts1 o n k vs ts := by
                        show ts1 (opM s (fr + m)) (cNK (opM s) fr m).1 (cNK (opM s) fr m).2 (vmR (opM s) (vlM s) (s 604) fr m).1 (vmR (opM s) (vlM s) (s 604) fr m).2 = _
                        rw [← hn, ← hk, ← ho, ← hvs, ← hts]
                      have g := ih (by omega) s3_ l1 (some (.int (iI o))) (some (.int (iI v))) ?_ ?_ ?_ ?_
                      · rw [eN, eK, show fr + ((m + 1 : Nat) : Int) = fr + m + 1 by omega] at g
                        exact g
                      · intro c hc9
                        rw [es3_]; show up _ _ _ _ c = _; rw [up_cc hc9]; exact hs c hc9
                      · intro c hc9
                        exact hl c hc9
                      · rw [eN, eV]
                        intro j hj0 hj1
                        have hVj := hV j hj0
                        unfold vs1
                        (repeat' split) <;> first | omega | (subst_vars; omega) | (exact hVj (by omega)) | (rw [show n + -1 - 1 = n - 2 by omega, show n + -1 = n - 1 by omega]) | (rw [show n + -2 + 1 = n - 1 by omega, show n + -2 = n - 2 by omega]) | (simp_all; done) | skip
                      · rw [eK, eT]
                        intro j hj0 hj1
                        have hTj := hT j hj0
                        rw [es3_]
                        unfold up
                        unfold ts1
                        (repeat' split) <;> first | omega | (subst_vars; omega) | (exact hTj (by omega)) | (rw [show n + -1 - 1 = n - 2 by omega, show n + -1 = n - 1 by omega]) | (rw [show n + -2 + 1 = n - 1 by omega, show n + -2 = n - 2 by omega]) | (rw [show k - 2 = k + -1 - 1 by omega, show k - 1 = k + -1 by omega]; unfold bI; split <;> omega) | (simp_all; done) | skip
                · refine wi_a1 hc rfl rfl ?_
                  refine wi_gr (w := 606) hc rfl rfl (by decide) (Nat.le_of_ble_eq_true rfl) rfl ?_
                  refine wi_i2 hc rfl rfl ?_
                  refine wi_ic hc rfl ?_
                  refine wi_sub hc rfl ?_
                  refine wi_bld (N := 330) hc rfl rfl (by decide) (by decide) (by omega) (by omega) ?_
                  rw [hT (k + (-1) - 1) (by omega) (by omega)]
                  have t1 := htb (k + (-1) - 1) (by omega)
                  refine wi_zeq hc rfl ⟨by omega, by omega⟩ (fun h10_ => ?_) (fun h10_ => ?_)
                  · refine wi_ic hc rfl ?_
                    refine wi_go hc rfl ?_
                    refine wi_bst (N := 330) hc rfl rfl (by decide) (by decide) (by omega) (by omega) (by omega) ?_
                    obtain ⟨s4_, es4_⟩ : ∃ q, q = up s1 606 ((k + (-1)) - 1) 0 := ⟨_, rfl⟩
                    rw [← es4_]
                    refine wi_inc (L' := [some (.ref 598), some (.int (iI c)), some (.int (iI (((705 * (s 599 6)) + 1) + (4 * c)))), some (.int (iI ((705 * (s 599 6)) + 97))), some (.int (iI n)), some (.int (iI (k + (-1)))), some (.int (iI (fr + m + 1))), some (.int (iI o)), some (.int (iI v))]) hc rfl rfl rfl ?_
                    refine wi_go hc rfl ?_
                    have eN : (cNK (opM s) fr (m + 1)).1 = n := by
                      show cN1 (opM s (fr + m)) (cNK (opM s) fr m).1 = _
                      rw [← hn, ← ho]
                      unfold cN1
                      (repeat' split) <;> omega
                    have eK : (cNK (opM s) fr (m + 1)).2 = k + (-1) := by
                      show cK1 (opM s (fr + m)) (cNK (opM s) fr m).2 = _
                      rw [← hk, ← ho]
                      unfold cK1
                      (repeat' split) <;> omega
                    have eV : (vmR (opM s) (vlM s) (s 604) fr (m + 1)).1 = vs1 o v n (s 604) vs := by
                      show vs1 (opM s (fr + m)) (vlM s (fr + m)) (cNK (opM s) fr m).1 (s 604) (vmR (opM s) (vlM s) (s 604) fr m).1 = _
                      rw [← hn, ← ho, ← hv, ← hvs]
                    have eT : (vmR (opM s) (vlM s) (s 604) fr (m + 1)).2 = ts1 o n k vs ts := by
                      show ts1 (opM s (fr + m)) (cNK (opM s) fr m).1 (cNK (opM s) fr m).2 (vmR (opM s) (vlM s) (s 604) fr m).1 (vmR (opM s) (vlM s) (s 604) fr m).2 = _
                      rw [← hn, ← hk, ← ho, ← hvs, ← hts]
                    have g := ih (by omega) s4_ l1 (some (.int (iI o))) (some (.int (iI v))) ?_ ?_ ?_ ?_
                    · rw [eN, eK, show fr + ((m + 1 : Nat) : Int) = fr + m + 1 by omega] at g
                      exact g
                    · intro c hc9
                      rw [es4_]; show up _ _ _ _ c = _; rw [up_cc hc9]; exact hs c hc9
                    · intro c hc9
                      exact hl c hc9
                    · rw [eN, eV]
                      intro j hj0 hj1
                      have hVj := hV j hj0
                      unfold vs1
                      (repeat' split) <;> first | omega | (subst_vars; omega) | (exact hVj (by omega)) | (rw [show n + -1 - 1 = n - 2 by omega, show n + -1 = n - 1 by omega]) | (rw [show n + -2 + 1 = n - 1 by omega, show n + -2 = n - 2 by omega]) | (simp_all; done) | skip
                    · rw [eK, eT]
                      intro j hj0 hj1
                      have hTj := hT j hj0
                      rw [es4_]
                      unfold up
                      unfold ts1
                      (repeat' split) <;> first | omega | (subst_vars; omega) | (exact hTj (by omega)) | (rw [show n + -1 - 1 = n - 2 by omega, show n + -1 = n - 1 by omega]) | (rw [show n + -2 + 1 = n - 1 by omega, show n + -2 = n - 2 by omega]) | (rw [show k - 2 = k + -1 - 1 by omega, show k - 1 = k + -1 by omega]; unfold bI; split <;> omega) | (simp_all; done) | skip
                  · refine wi_a1 hc rfl rfl ?_
                    refine wi_gr (w := 606) hc rfl rfl (by decide) (Nat.le_of_ble_eq_true rfl) rfl ?_
                    refine wi_i2 hc rfl rfl ?_
                    refine wi_bld (N := 330) hc rfl rfl (by decide) (by decide) (by omega) (by omega) ?_
                    rw [hT (k + (-1)) (by omega) (by omega)]
                    have t2 := htb (k + (-1)) (by omega)
                    refine wi_zeq hc rfl ⟨by omega, by omega⟩ (fun h11_ => ?_) (fun h11_ => ?_)
                    · refine wi_ic hc rfl ?_
                      refine wi_go hc rfl ?_
                      refine wi_bst (N := 330) hc rfl rfl (by decide) (by decide) (by omega) (by omega) (by omega) ?_
                      obtain ⟨s5_, es5_⟩ : ∃ q, q = up s1 606 ((k + (-1)) - 1) 0 := ⟨_, rfl⟩
                      rw [← es5_]
                      refine wi_inc (L' := [some (.ref 598), some (.int (iI c)), some (.int (iI (((705 * (s 599 6)) + 1) + (4 * c)))), some (.int (iI ((705 * (s 599 6)) + 97))), some (.int (iI n)), some (.int (iI (k + (-1)))), some (.int (iI (fr + m + 1))), some (.int (iI o)), some (.int (iI v))]) hc rfl rfl rfl ?_
                      refine wi_go hc rfl ?_
                      have eN : (cNK (opM s) fr (m + 1)).1 = n := by
                        show cN1 (opM s (fr + m)) (cNK (opM s) fr m).1 = _
                        rw [← hn, ← ho]
                        unfold cN1
                        (repeat' split) <;> omega
                      have eK : (cNK (opM s) fr (m + 1)).2 = k + (-1) := by
                        show cK1 (opM s (fr + m)) (cNK (opM s) fr m).2 = _
                        rw [← hk, ← ho]
                        unfold cK1
                        (repeat' split) <;> omega
                      have eV : (vmR (opM s) (vlM s) (s 604) fr (m + 1)).1 = vs1 o v n (s 604) vs := by
                        show vs1 (opM s (fr + m)) (vlM s (fr + m)) (cNK (opM s) fr m).1 (s 604) (vmR (opM s) (vlM s) (s 604) fr m).1 = _
                        rw [← hn, ← ho, ← hv, ← hvs]
                      have eT : (vmR (opM s) (vlM s) (s 604) fr (m + 1)).2 = ts1 o n k vs ts := by
                        show ts1 (opM s (fr + m)) (cNK (opM s) fr m).1 (cNK (opM s) fr m).2 (vmR (opM s) (vlM s) (s 604) fr m).1 (vmR (opM s) (vlM s) (s 604) fr m).2 = _
                        rw [← hn, ← hk, ← ho, ← hvs, ← hts]
                      have g := ih (by omega) s5_ l1 (some (.int (iI o))) (some (.int (iI v))) ?_ ?_ ?_ ?_
                      · rw [eN, eK, show fr + ((m + 1 : Nat) : Int) = fr + m + 1 by omega] at g
                        exact g
                      · intro c hc9
                        rw [es5_]; show up _ _ _ _ c = _; rw [up_cc hc9]; exact hs c hc9
                      · intro c hc9
                        exact hl c hc9
                      · rw [eN, eV]
                        intro j hj0 hj1
                        have hVj := hV j hj0
                        unfold vs1
                        (repeat' split) <;> first | omega | (subst_vars; omega) | (exact hVj (by omega)) | (rw [show n + -1 - 1 = n - 2 by omega, show n + -1 = n - 1 by omega]) | (rw [show n + -2 + 1 = n - 1 by omega, show n + -2 = n - 2 by omega]) | (simp_all; done) | skip
                      · rw [eK, eT]
                        intro j hj0 hj1
                        have hTj := hT j hj0
                        rw [es5_]
                        unfold up
                        unfold ts1
                        (repeat' split) <;> first | omega | (subst_vars; omega) | (exact hTj (by omega)) | (rw [show n + -1 - 1 = n - 2 by omega, show n + -1 = n - 1 by omega]) | (rw [show n + -2 + 1 = n - 1 by omega, show n + -2 = n - 2 by omega]) | (rw [show k - 2 = k + -1 - 1 by omega, show k - 1 = k + -1 by omega]; unfold bI; split <;> omega) | (simp_all; done) | skip
                    · refine wi_ic hc rfl ?_
                      refine wi_go hc rfl ?_
                      refine wi_bst (N := 330) hc rfl rfl (by decide) (by decide) (by omega) (by omega) (by omega) ?_
                      obtain ⟨s6_, es6_⟩ : ∃ q, q = up s1 606 ((k + (-1)) - 1) 1 := ⟨_, rfl⟩
                      rw [← es6_]
                      refine wi_inc (L' := [some (.ref 598), some (.int (iI c)), some (.int (iI (((705 * (s 599 6)) + 1) + (4 * c)))), some (.int (iI ((705 * (s 599 6)) + 97))), some (.int (iI n)), some (.int (iI (k + (-1)))), some (.int (iI (fr + m + 1))), some (.int (iI o)), some (.int (iI v))]) hc rfl rfl rfl ?_
                      refine wi_go hc rfl ?_
                      have eN : (cNK (opM s) fr (m + 1)).1 = n := by
                        show cN1 (opM s (fr + m)) (cNK (opM s) fr m).1 = _
                        rw [← hn, ← ho]
                        unfold cN1
                        (repeat' split) <;> omega
                      have eK : (cNK (opM s) fr (m + 1)).2 = k + (-1) := by
                        show cK1 (opM s (fr + m)) (cNK (opM s) fr m).2 = _
                        rw [← hk, ← ho]
                        unfold cK1
                        (repeat' split) <;> omega
                      have eV : (vmR (opM s) (vlM s) (s 604) fr (m + 1)).1 = vs1 o v n (s 604) vs := by
                        show vs1 (opM s (fr + m)) (vlM s (fr + m)) (cNK (opM s) fr m).1 (s 604) (vmR (opM s) (vlM s) (s 604) fr m).1 = _
                        rw [← hn, ← ho, ← hv, ← hvs]
                      have eT : (vmR (opM s) (vlM s) (s 604) fr (m + 1)).2 = ts1 o n k vs ts := by
                        show ts1 (opM s (fr + m)) (cNK (opM s) fr m).1 (cNK (opM s) fr m).2 (vmR (opM s) (vlM s) (s 604) fr m).1 (vmR (opM s) (vlM s) (s 604) fr m).2 = _
                        rw [← hn, ← hk, ← ho, ← hvs, ← hts]
                      have g := ih (by omega) s6_ l1 (some (.int (iI o))) (some (.int (iI v))) ?_ ?_ ?_ ?_
                      · rw [eN, eK, show fr + ((m + 1 : Nat) : Int) = fr + m + 1 by omega] at g
                        exact g
                      · intro c hc9
                        rw [es6_]; show up _ _ _ _ c = _; rw [up_cc hc9]; exact hs c hc9
                      · intro c hc9
                        exact hl c hc9
                      · rw [eN, eV]
                        intro j hj0 hj1
                        have hVj := hV j hj0
                        unfold vs1
                        (repeat' split) <;> first | omega | (subst_vars; omega) | (exact hVj (by omega)) | (rw [show n + -1 - 1 = n - 2 by omega, show n + -1 = n - 1 by omega]) | (rw [show n + -2 + 1 = n - 1 by omega, show n + -2 = n - 2 by omega]) | (simp_all; done) | skip
                      · rw [eK, eT]
                        intro j hj0 hj1
                        have hTj := hT j hj0
                        rw [es6_]
                        unfold up
                        unfold ts1
                        (repeat' split) <;> first | omega | (subst_vars; omega) | (exact hTj (by omega)) | (rw [show n + -1 - 1 = n - 2 by omega, show n + -1 = n - 1 by omega]) | (rw [show n + -2 + 1 = n - 1 by omega, show n + -2 = n - 2 by omega]) | (rw [show k - 2 = k + -1 - 1 by omega, show k - 1 = k + -1 by omega]; unfold bI; split <;> omega) | (simp_all; done) | skip
              · refine wi_a1 hc rfl rfl ?_
                refine wi_gr (w := 606) hc rfl rfl (by decide) (Nat.le_of_ble_eq_true rfl) rfl ?_
                refine wi_i2 hc rfl rfl ?_
                refine wi_ic hc rfl ?_
                refine wi_sub hc rfl ?_
                refine wi_a1 hc rfl rfl ?_
                refine wi_gr (w := 606) hc rfl rfl (by decide) (Nat.le_of_ble_eq_true rfl) rfl ?_
                refine wi_i2 hc rfl rfl ?_
                refine wi_ic hc rfl ?_
                refine wi_sub hc rfl ?_
                refine wi_bld (N := 330) hc rfl rfl (by decide) (by decide) (by omega) (by omega) ?_
                rw [hT (k - 1) (by omega) (by omega)]
                have t1 := htb (k - 1) (by omega)
                refine wi_zne hc rfl ⟨by omega, by omega⟩ (fun h12_ => ?_) (fun h12_ => ?_)
                · refine wi_ic hc rfl ?_
                  refine wi_bst (N := 330) hc rfl rfl (by decide) (by decide) (by omega) (by omega) (by omega) ?_
                  obtain ⟨s7_, es7_⟩ : ∃ q, q = up s1 606 (k - 1) 0 := ⟨_, rfl⟩
                  rw [← es7_]
                  refine wi_go hc rfl ?_
                  refine wi_inc (L' := [some (.ref 598), some (.int (iI c)), some (.int (iI (((705 * (s 599 6)) + 1) + (4 * c)))), some (.int (iI ((705 * (s 599 6)) + 97))), some (.int (iI n)), some (.int (iI k)), some (.int (iI (fr + m + 1))), some (.int (iI o)), some (.int (iI v))]) hc rfl rfl rfl ?_
                  refine wi_go hc rfl ?_
                  have eN : (cNK (opM s) fr (m + 1)).1 = n := by
                    show cN1 (opM s (fr + m)) (cNK (opM s) fr m).1 = _
                    rw [← hn, ← ho]
                    unfold cN1
                    (repeat' split) <;> omega
                  have eK : (cNK (opM s) fr (m + 1)).2 = k := by
                    show cK1 (opM s (fr + m)) (cNK (opM s) fr m).2 = _
                    rw [← hk, ← ho]
                    unfold cK1
                    (repeat' split) <;> omega
                  have eV : (vmR (opM s) (vlM s) (s 604) fr (m + 1)).1 = vs1 o v n (s 604) vs := by
                    show vs1 (opM s (fr + m)) (vlM s (fr + m)) (cNK (opM s) fr m).1 (s 604) (vmR (opM s) (vlM s) (s 604) fr m).1 = _
                    rw [← hn, ← ho, ← hv, ← hvs]
                  have eT : (vmR (opM s) (vlM s) (s 604) fr (m + 1)).2 = ts1 o n k vs ts := by
                    show ts1 (opM s (fr + m)) (cNK (opM s) fr m).1 (cNK (opM s) fr m).2 (vmR (opM s) (vlM s) (s 604) fr m).1 (vmR (opM s) (vlM s) (s 604) fr m).2 = _
                    rw [← hn, ← hk, ← ho, ← hvs, ← hts]
                  have g := ih (by omega) s7_ l1 (some (.int (iI o))) (some (.int (iI v))) ?_ ?_ ?_ ?_
                  · rw [eN, eK, show fr + ((m + 1 : Nat) : Int) = fr + m + 1 by omega] at g
                    exact g
                  · intro c hc9
                    rw [es7_]; show up _ _ _ _ c = _; rw [up_cc hc9]; exact hs c hc9
                  · intro c hc9
                    exact hl c hc9
                  · rw [eN, eV]
                    intro j hj0 hj1
                    have hVj := hV j hj0
                    unfold vs1
                    (repeat' split) <;> first | omega | (subst_vars; omega) | (exact hVj (by omega)) | (rw [show n + -1 - 1 = n - 2 by omega, show n + -1 = n - 1 by omega]) | (rw [show n + -2 + 1 = n - 1 by omega, show n + -2 = n - 2 by omega]) | (simp_all; done) | skip
                  · rw [eK, eT]
                    intro j hj0 hj1
                    have hTj := hT j hj0
                    rw [es7_]
                    unfold up
                    unfold ts1
                    (repeat' split) <;> first | omega | (subst_vars; omega) | (exact hTj (by omega)) | (rw [show n + -1 - 1 = n - 2 by omega, show n + -1 = n - 1 by omega]) | (rw [show n + -2 + 1 = n - 1 by omega, show n + -2 = n - 2 by omega]) | (rw [show k - 2 = k + -1 - 1 by omega, show k - 1 = k + -1 by omega]; unfold bI; split <;> omega) | (simp_all; done) | skip
                · refine wi_ic hc rfl ?_
                  refine wi_go hc rfl ?_
                  refine wi_bst (N := 330) hc rfl rfl (by decide) (by decide) (by omega) (by omega) (by omega) ?_
                  obtain ⟨s8_, es8_⟩ : ∃ q, q = up s1 606 (k - 1) 1 := ⟨_, rfl⟩
                  rw [← es8_]
                  refine wi_go hc rfl ?_
                  refine wi_inc (L' := [some (.ref 598), some (.int (iI c)), some (.int (iI (((705 * (s 599 6)) + 1) + (4 * c)))), some (.int (iI ((705 * (s 599 6)) + 97))), some (.int (iI n)), some (.int (iI k)), some (.int (iI (fr + m + 1))), some (.int (iI o)), some (.int (iI v))]) hc rfl rfl rfl ?_
                  refine wi_go hc rfl ?_
                  have eN : (cNK (opM s) fr (m + 1)).1 = n := by
                    show cN1 (opM s (fr + m)) (cNK (opM s) fr m).1 = _
                    rw [← hn, ← ho]
                    unfold cN1
                    (repeat' split) <;> omega
                  have eK : (cNK (opM s) fr (m + 1)).2 = k := by
                    show cK1 (opM s (fr + m)) (cNK (opM s) fr m).2 = _
                    rw [← hk, ← ho]
                    unfold cK1
                    (repeat' split) <;> omega
                  have eV : (vmR (opM s) (vlM s) (s 604) fr (m + 1)).1 = vs1 o v n (s 604) vs := by
                    show vs1 (opM s (fr + m)) (vlM s (fr + m)) (cNK (opM s) fr m).1 (s 604) (vmR (opM s) (vlM s) (s 604) fr m).1 = _
                    rw [← hn, ← ho, ← hv, ← hvs]
                  have eT : (vmR (opM s) (vlM s) (s 604) fr (m + 1)).2 = ts1 o n k vs ts := by
                    show ts1 (opM s (fr + m)) (cNK (opM s) fr m).1 (cNK (opM s) fr m).2 (vmR (opM s) (vlM s) (s 604) fr m).1 (vmR (opM s) (vlM s) (s 604) fr m).2 = _
                    rw [← hn, ← hk, ← ho, ← hvs, ← hts]
                  have g := ih (by omega) s8_ l1 (some (.int (iI o))) (some (.int (iI v))) ?_ ?_ ?_ ?_
                  · rw [eN, eK, show fr + ((m + 1 : Nat) : Int) = fr + m + 1 by omega] at g
                    exact g
                  · intro c hc9
                    rw [es8_]; show up _ _ _ _ c = _; rw [up_cc hc9]; exact hs c hc9
                  · intro c hc9
                    exact hl c hc9
                  · rw [eN, eV]
                    intro j hj0 hj1
                    have hVj := hV j hj0
                    unfold vs1
                    (repeat' split) <;> first | omega | (subst_vars; omega) | (exact hVj (by omega)) | (rw [show n + -1 - 1 = n - 2 by omega, show n + -1 = n - 1 by omega]) | (rw [show n + -2 + 1 = n - 1 by omega, show n + -2 = n - 2 by omega]) | (simp_all; done) | skip
                  · rw [eK, eT]
                    intro j hj0 hj1
                    have hTj := hT j hj0
                    rw [es8_]
                    unfold up
                    unfold ts1
                    (repeat' split) <;> first | omega | (subst_vars; omega) | (exact hTj (by omega)) | (rw [show n + -1 - 1 = n - 2 by omega, show n + -1 = n - 1 by omega]) | (rw [show n + -2 + 1 = n - 1 by omega, show n + -2 = n - 2 by omega]) | (rw [show k - 2 = k + -1 - 1 by omega, show k - 1 = k + -1 by omega]; unfold bI; split <;> omega) | (simp_all; done) | skip
            · refine wi_inc (L' := [some (.ref 598), some (.int (iI c)), some (.int (iI (((705 * (s 599 6)) + 1) + (4 * c)))), some (.int (iI ((705 * (s 599 6)) + 97))), some (.int (iI (n + (-2)))), some (.int (iI k)), some (.int (iI (fr + m))), some (.int (iI o)), some (.int (iI v))]) hc rfl rfl rfl ?_
              refine wi_a1 hc rfl rfl ?_
              refine wi_gr (w := 606) hc rfl rfl (by decide) (Nat.le_of_ble_eq_true rfl) rfl ?_
              refine wi_i2 hc rfl rfl ?_
              refine wi_i2 hc rfl rfl ?_
              refine wi_a1 hc rfl rfl ?_
              refine wi_gr (w := 605) hc rfl rfl (by decide) (Nat.le_of_ble_eq_true rfl) rfl ?_
              refine wi_i2 hc rfl rfl ?_
              refine wi_lld (N := 330) hc rfl rfl (by decide) (by decide) (by omega) (by omega) ?_
              rw [hV (n + (-2)) (by omega) (by omega)]
              have b1 := hvb (n + (-2)) (by omega)
              refine wi_a1 hc rfl rfl ?_
              refine wi_gr (w := 605) hc rfl rfl (by decide) (Nat.le_of_ble_eq_true rfl) rfl ?_
              refine wi_i2 hc rfl rfl ?_
              refine wi_ic hc rfl ?_
              refine wi_add hc rfl ?_
              refine wi_lld (N := 330) hc rfl rfl (by decide) (by decide) (by omega) (by omega) ?_
              rw [hV (n + (-2) + 1) (by omega) (by omega)]
              have b2 := hvb (n + (-2) + 1) (by omega)
              refine wp_cs (As := [.int (iI o), .long (lI (vs (n + (-2)))), .long (lI (vs (n + (-2) + 1)))]) (r := [.int (iI k), .ref 606]) hc rfl (by rw [cm_202]; rfl) rfl (Nat.le_of_ble_eq_true rfl) (ev_mono (sp_202 (d := 0) hor ⟨by omega, by omega⟩ ⟨by omega, by omega⟩) (by omega)) ?_
              show mm_wp _ _ (236, [some (.ref 598), some (.int (iI c)), some (.int (iI (((705 * (s 599 6)) + 1) + (4 * c)))), some (.int (iI ((705 * (s 599 6)) + 97))), some (.int (iI (n + (-2)))), some (.int (iI k)), some (.int (iI (fr + m))), some (.int (iI o)), some (.int (iI v))], [.int (iI (bI (askB o (vs (n + (-2))) (vs (n + (-2) + 1)) = true))), .int (iI k), .ref 606], MX L t s1 l1) _
              refine wi_bst (N := 330) hc rfl rfl (by decide) (by decide) (by omega) (by omega) (bI_01 _) ?_
              obtain ⟨s9_, es9_⟩ : ∃ q, q = up s1 606 k (bI (askB o (vs (n + (-2))) (vs (n + (-2) + 1)) = true)) := ⟨_, rfl⟩
              rw [← es9_]
              refine wi_inc (L' := [some (.ref 598), some (.int (iI c)), some (.int (iI (((705 * (s 599 6)) + 1) + (4 * c)))), some (.int (iI ((705 * (s 599 6)) + 97))), some (.int (iI (n + (-2)))), some (.int (iI (k + 1))), some (.int (iI (fr + m))), some (.int (iI o)), some (.int (iI v))]) hc rfl rfl rfl ?_
              refine wi_go hc rfl ?_
              refine wi_inc (L' := [some (.ref 598), some (.int (iI c)), some (.int (iI (((705 * (s 599 6)) + 1) + (4 * c)))), some (.int (iI ((705 * (s 599 6)) + 97))), some (.int (iI (n + (-2)))), some (.int (iI (k + 1))), some (.int (iI (fr + m + 1))), some (.int (iI o)), some (.int (iI v))]) hc rfl rfl rfl ?_
              refine wi_go hc rfl ?_
              have eN : (cNK (opM s) fr (m + 1)).1 = n + (-2) := by
                show cN1 (opM s (fr + m)) (cNK (opM s) fr m).1 = _
                rw [← hn, ← ho]
                unfold cN1
                (repeat' split) <;> omega
              have eK : (cNK (opM s) fr (m + 1)).2 = k + 1 := by
                show cK1 (opM s (fr + m)) (cNK (opM s) fr m).2 = _
                rw [← hk, ← ho]
                unfold cK1
                (repeat' split) <;> omega
              have eV : (vmR (opM s) (vlM s) (s 604) fr (m + 1)).1 = vs1 o v n (s 604) vs := by
                show vs1 (opM s (fr + m)) (vlM s (fr + m)) (cNK (opM s) fr m).1 (s 604) (vmR (opM s) (vlM s) (s 604) fr m).1 = _
                rw [← hn, ← ho, ← hv, ← hvs]
              have eT : (vmR (opM s) (vlM s) (s 604) fr (m + 1)).2 = ts1 o n k vs ts := by
                show ts1 (opM s (fr + m)) (cNK (opM s) fr m).1 (cNK (opM s) fr m).2 (vmR (opM s) (vlM s) (s 604) fr m).1 (vmR (opM s) (vlM s) (s 604) fr m).2 = _
                rw [← hn, ← hk, ← ho, ← hvs, ← hts]
              have g := ih (by omega) s9_ l1 (some (.int (iI o))) (some (.int (iI v))) ?_ ?_ ?_ ?_
              · rw [eN, eK, show fr + ((m + 1 : Nat) : Int) = fr + m + 1 by omega] at g
                exact g
              · intro c hc9
                rw [es9_]; show up _ _ _ _ c = _; rw [up_cc hc9]; exact hs c hc9
              · intro c hc9
                exact hl c hc9
              · rw [eN, eV]
                intro j hj0 hj1
                have hVj := hV j hj0
                unfold vs1
                (repeat' split) <;> first | omega | (subst_vars; omega) | (exact hVj (by omega)) | (rw [show n + -1 - 1 = n - 2 by omega, show n + -1 = n - 1 by omega]) | (rw [show n + -2 + 1 = n - 1 by omega, show n + -2 = n - 2 by omega]) | (simp_all; done) | skip
              · rw [eK, eT]
                intro j hj0 hj1
                have hTj := hT j hj0
                rw [es9_]
                unfold up
                unfold ts1
                (repeat' split) <;> first | omega | (subst_vars; omega) | (exact hTj (by omega)) | (rw [show n + -1 - 1 = n - 2 by omega, show n + -1 = n - 1 by omega]) | (rw [show n + -2 + 1 = n - 1 by omega, show n + -2 = n - 2 by omega]) | (rw [show k - 2 = k + -1 - 1 by omega, show k - 1 = k + -1 by omega]; unfold bI; split <;> omega) | (simp_all; done) | skip
          · refine wi_inc (L' := [some (.ref 598), some (.int (iI c)), some (.int (iI (((705 * (s 599 6)) + 1) + (4 * c)))), some (.int (iI ((705 * (s 599 6)) + 97))), some (.int (iI (n + (-1)))), some (.int (iI k)), some (.int (iI (fr + m))), some (.int (iI o)), some (.int (iI v))]) hc rfl rfl rfl ?_
            refine wi_a1 hc rfl rfl ?_
            refine wi_gr (w := 605) hc rfl rfl (by decide) (Nat.le_of_ble_eq_true rfl) rfl ?_
            refine wi_i2 hc rfl rfl ?_
            refine wi_ic hc rfl ?_
            refine wi_sub hc rfl ?_
            refine wi_i2 hc rfl rfl ?_
            refine wi_a1 hc rfl rfl ?_
            refine wi_gr (w := 605) hc rfl rfl (by decide) (Nat.le_of_ble_eq_true rfl) rfl ?_
            refine wi_i2 hc rfl rfl ?_
            refine wi_ic hc rfl ?_
            refine wi_sub hc rfl ?_
            refine wi_lld (N := 330) hc rfl rfl (by decide) (by decide) (by omega) (by omega) ?_
            rw [hV (n + (-1) - 1) (by omega) (by omega)]
            have b1 := hvb (n + (-1) - 1) (by omega)
            refine wi_a1 hc rfl rfl ?_
            refine wi_gr (w := 605) hc rfl rfl (by decide) (Nat.le_of_ble_eq_true rfl) rfl ?_
            refine wi_i2 hc rfl rfl ?_
            refine wi_lld (N := 330) hc rfl rfl (by decide) (by decide) (by omega) (by omega) ?_
            rw [hV (n + (-1)) (by omega) (by omega)]
            have b2 := hvb (n + (-1)) (by omega)
            refine wp_cs (As := [.int (iI o), .long (lI (vs (n + (-1) - 1))), .long (lI (vs (n + (-1))))]) (r := [.int (iI ((n + (-1)) - 1)), .ref 605]) hc rfl (by rw [cm_201]; rfl) rfl (Nat.le_of_ble_eq_true rfl) (ev_mono (sp_201 (d := 0) hor (by omega) (by omega) (by omega) (by omega)) (by omega)) ?_
            show mm_wp _ _ (195, [some (.ref 598), some (.int (iI c)), some (.int (iI (((705 * (s 599 6)) + 1) + (4 * c)))), some (.int (iI ((705 * (s 599 6)) + 97))), some (.int (iI (n + (-1)))), some (.int (iI k)), some (.int (iI (fr + m))), some (.int (iI o)), some (.int (iI v))], [.long (lI (twoI o (vs (n + (-1) - 1)) (vs (n + (-1))))), .int (iI ((n + (-1)) - 1)), .ref 605], MX L t s1 l1) _
            refine wi_lst (N := 330) hc rfl rfl (by decide) (by decide) (by omega) (by omega) ?_
            obtain ⟨s10_, es10_⟩ : ∃ q, q = up l1 605 ((n + (-1)) - 1) (twoI o (vs (n + (-1) - 1)) (vs (n + (-1)))) := ⟨_, rfl⟩
            rw [← es10_]
            refine wi_go hc rfl ?_
            refine wi_inc (L' := [some (.ref 598), some (.int (iI c)), some (.int (iI (((705 * (s 599 6)) + 1) + (4 * c)))), some (.int (iI ((705 * (s 599 6)) + 97))), some (.int (iI (n + (-1)))), some (.int (iI k)), some (.int (iI (fr + m + 1))), some (.int (iI o)), some (.int (iI v))]) hc rfl rfl rfl ?_
            refine wi_go hc rfl ?_
            have eN : (cNK (opM s) fr (m + 1)).1 = n + (-1) := by
              show cN1 (opM s (fr + m)) (cNK (opM s) fr m).1 = _
              rw [← hn, ← ho]
              unfold cN1
              (repeat' split) <;> omega
            have eK : (cNK (opM s) fr (m + 1)).2 = k := by
              show cK1 (opM s (fr + m)) (cNK (opM s) fr m).2 = _
              rw [← hk, ← ho]
              unfold cK1
              (repeat' split) <;> omega
            have eV : (vmR (opM s) (vlM s) (s 604) fr (m + 1)).1 = vs1 o v n (s 604) vs := by
              show vs1 (opM s (fr + m)) (vlM s (fr + m)) (cNK (opM s) fr m).1 (s 604) (vmR (opM s) (vlM s) (s 604) fr m).1 = _
              rw [← hn, ← ho, ← hv, ← hvs]
            have eT : (vmR (opM s) (vlM s) (s 604) fr (m + 1)).2 = ts1 o n k vs ts := by
              show ts1 (opM s (fr + m)) (cNK (opM s) fr m).1 (cNK (opM s) fr m).2 (vmR (opM s) (vlM s) (s 604) fr m).1 (vmR (opM s) (vlM s) (s 604) fr m).2 = _
              rw [← hn, ← hk, ← ho, ← hvs, ← hts]
            have g := ih (by omega) s1 s10_ (some (.int (iI o))) (some (.int (iI v))) ?_ ?_ ?_ ?_
            · rw [eN, eK, show fr + ((m + 1 : Nat) : Int) = fr + m + 1 by omega] at g
              exact g
            · intro c hc9
              exact hs c hc9
            · intro c hc9
              rw [es10_]; show up _ _ _ _ c = _; rw [up_cc hc9]; exact hl c hc9
            · rw [eN, eV]
              intro j hj0 hj1
              have hVj := hV j hj0
              rw [es10_]
              unfold up
              unfold vs1
              (repeat' split) <;> first | omega | (subst_vars; omega) | (exact hVj (by omega)) | (rw [show n + -1 - 1 = n - 2 by omega, show n + -1 = n - 1 by omega]) | (rw [show n + -2 + 1 = n - 1 by omega, show n + -2 = n - 2 by omega]) | (simp_all; done) | skip
            · rw [eK, eT]
              intro j hj0 hj1
              have hTj := hT j hj0
              unfold ts1
              (repeat' split) <;> first | omega | (subst_vars; omega) | (exact hTj (by omega)) | (rw [show n + -1 - 1 = n - 2 by omega, show n + -1 = n - 1 by omega]) | (rw [show n + -2 + 1 = n - 1 by omega, show n + -2 = n - 2 by omega]) | (rw [show k - 2 = k + -1 - 1 by omega, show k - 1 = k + -1 by omega]; unfold bI; split <;> omega) | (simp_all; done) | skip
        · refine wi_a1 hc rfl rfl ?_
          refine wi_gr (w := 605) hc rfl rfl (by decide) (Nat.le_of_ble_eq_true rfl) rfl ?_
          refine wi_i2 hc rfl rfl ?_
          refine wi_ic hc rfl ?_
          refine wi_sub hc rfl ?_
          refine wi_a1 hc rfl rfl ?_
          refine wi_gr (w := 605) hc rfl rfl (by decide) (Nat.le_of_ble_eq_true rfl) rfl ?_
          refine wi_i2 hc rfl rfl ?_
          refine wi_ic hc rfl ?_
          refine wi_sub hc rfl ?_
          refine wi_lld (N := 330) hc rfl rfl (by decide) (by decide) (by omega) (by omega) ?_
          rw [hV (n - 1) (by omega) (by omega)]
          have b1 := hvb (n - 1) (by omega)
          refine wl_neg hc rfl ?_
          refine wi_lst (N := 330) hc rfl rfl (by decide) (by decide) (by omega) (by omega) ?_
          obtain ⟨s11_, es11_⟩ : ∃ q, q = up l1 605 (n - 1) (-(vs (n - 1))) := ⟨_, rfl⟩
          rw [← es11_]
          refine wi_go hc rfl ?_
          refine wi_inc (L' := [some (.ref 598), some (.int (iI c)), some (.int (iI (((705 * (s 599 6)) + 1) + (4 * c)))), some (.int (iI ((705 * (s 599 6)) + 97))), some (.int (iI n)), some (.int (iI k)), some (.int (iI (fr + m + 1))), some (.int (iI o)), some (.int (iI v))]) hc rfl rfl rfl ?_
          refine wi_go hc rfl ?_
          have eN : (cNK (opM s) fr (m + 1)).1 = n := by
            show cN1 (opM s (fr + m)) (cNK (opM s) fr m).1 = _
            rw [← hn, ← ho]
            unfold cN1
            (repeat' split) <;> omega
          have eK : (cNK (opM s) fr (m + 1)).2 = k := by
            show cK1 (opM s (fr + m)) (cNK (opM s) fr m).2 = _
            rw [← hk, ← ho]
            unfold cK1
            (repeat' split) <;> omega
          have eV : (vmR (opM s) (vlM s) (s 604) fr (m + 1)).1 = vs1 o v n (s 604) vs := by
            show vs1 (opM s (fr + m)) (vlM s (fr + m)) (cNK (opM s) fr m).1 (s 604) (vmR (opM s) (vlM s) (s 604) fr m).1 = _
            rw [← hn, ← ho, ← hv, ← hvs]
          have eT : (vmR (opM s) (vlM s) (s 604) fr (m + 1)).2 = ts1 o n k vs ts := by
            show ts1 (opM s (fr + m)) (cNK (opM s) fr m).1 (cNK (opM s) fr m).2 (vmR (opM s) (vlM s) (s 604) fr m).1 (vmR (opM s) (vlM s) (s 604) fr m).2 = _
            rw [← hn, ← hk, ← ho, ← hvs, ← hts]
          have g := ih (by omega) s1 s11_ (some (.int (iI o))) (some (.int (iI v))) ?_ ?_ ?_ ?_
          · rw [eN, eK, show fr + ((m + 1 : Nat) : Int) = fr + m + 1 by omega] at g
            exact g
          · intro c hc9
            exact hs c hc9
          · intro c hc9
            rw [es11_]; show up _ _ _ _ c = _; rw [up_cc hc9]; exact hl c hc9
          · rw [eN, eV]
            intro j hj0 hj1
            have hVj := hV j hj0
            rw [es11_]
            unfold up
            unfold vs1
            (repeat' split) <;> first | omega | (subst_vars; omega) | (exact hVj (by omega)) | (rw [show n + -1 - 1 = n - 2 by omega, show n + -1 = n - 1 by omega]) | (rw [show n + -2 + 1 = n - 1 by omega, show n + -2 = n - 2 by omega]) | (simp_all; done) | skip
          · rw [eK, eT]
            intro j hj0 hj1
            have hTj := hT j hj0
            unfold ts1
            (repeat' split) <;> first | omega | (subst_vars; omega) | (exact hTj (by omega)) | (rw [show n + -1 - 1 = n - 2 by omega, show n + -1 = n - 1 by omega]) | (rw [show n + -2 + 1 = n - 1 by omega, show n + -2 = n - 2 by omega]) | (rw [show k - 2 = k + -1 - 1 by omega, show k - 1 = k + -1 by omega]; unfold bI; split <;> omega) | (simp_all; done) | skip
      · refine wi_a1 hc rfl rfl ?_
        refine wi_gr (w := 605) hc rfl rfl (by decide) (Nat.le_of_ble_eq_true rfl) rfl ?_
        refine wi_i2 hc rfl rfl ?_
        refine wi_i2 hc rfl rfl ?_
        refine wi_zne hc rfl hor (fun h13_ => ?_) (fun h13_ => ?_)
        · refine wi_a1 hc rfl rfl ?_
          refine wi_gr (w := 604) hc rfl rfl (by decide) (Nat.le_of_ble_eq_true rfl) rfl ?_
          refine wi_i2 hc rfl rfl ?_
          refine wi_ild (N := 15) hc rfl rfl (by decide) (by decide) (by omega) (by omega) ?_
          rw [hs 604 (by decide)]
          have hn4 := hnm v (by omega) (by omega)
          refine wl_i2l hc rfl ⟨by omega, by omega⟩ ?_
          refine wi_lst (N := 330) hc rfl rfl (by decide) (by decide) (by omega) (by omega) ?_
          obtain ⟨s12_, es12_⟩ : ∃ q, q = up l1 605 n (s 604 v) := ⟨_, rfl⟩
          rw [← es12_]
          refine wi_inc (L' := [some (.ref 598), some (.int (iI c)), some (.int (iI (((705 * (s 599 6)) + 1) + (4 * c)))), some (.int (iI ((705 * (s 599 6)) + 97))), some (.int (iI (n + 1))), some (.int (iI k)), some (.int (iI (fr + m))), some (.int (iI o)), some (.int (iI v))]) hc rfl rfl rfl ?_
          refine wi_go hc rfl ?_
          refine wi_inc (L' := [some (.ref 598), some (.int (iI c)), some (.int (iI (((705 * (s 599 6)) + 1) + (4 * c)))), some (.int (iI ((705 * (s 599 6)) + 97))), some (.int (iI (n + 1))), some (.int (iI k)), some (.int (iI (fr + m + 1))), some (.int (iI o)), some (.int (iI v))]) hc rfl rfl rfl ?_
          refine wi_go hc rfl ?_
          have eN : (cNK (opM s) fr (m + 1)).1 = n + 1 := by
            show cN1 (opM s (fr + m)) (cNK (opM s) fr m).1 = _
            rw [← hn, ← ho]
            unfold cN1
            (repeat' split) <;> omega
          have eK : (cNK (opM s) fr (m + 1)).2 = k := by
            show cK1 (opM s (fr + m)) (cNK (opM s) fr m).2 = _
            rw [← hk, ← ho]
            unfold cK1
            (repeat' split) <;> omega
          have eV : (vmR (opM s) (vlM s) (s 604) fr (m + 1)).1 = vs1 o v n (s 604) vs := by
            show vs1 (opM s (fr + m)) (vlM s (fr + m)) (cNK (opM s) fr m).1 (s 604) (vmR (opM s) (vlM s) (s 604) fr m).1 = _
            rw [← hn, ← ho, ← hv, ← hvs]
          have eT : (vmR (opM s) (vlM s) (s 604) fr (m + 1)).2 = ts1 o n k vs ts := by
            show ts1 (opM s (fr + m)) (cNK (opM s) fr m).1 (cNK (opM s) fr m).2 (vmR (opM s) (vlM s) (s 604) fr m).1 (vmR (opM s) (vlM s) (s 604) fr m).2 = _
            rw [← hn, ← hk, ← ho, ← hvs, ← hts]
          have g := ih (by omega) s1 s12_ (some (.int (iI o))) (some (.int (iI v))) ?_ ?_ ?_ ?_
          · rw [eN, eK, show fr + ((m + 1 : Nat) : Int) = fr + m + 1 by omega] at g
            exact g
          · intro c hc9
            exact hs c hc9
          · intro c hc9
            rw [es12_]; show up _ _ _ _ c = _; rw [up_cc hc9]; exact hl c hc9
          · rw [eN, eV]
            intro j hj0 hj1
            have hVj := hV j hj0
            rw [es12_]
            unfold up
            unfold vs1
            (repeat' split) <;> first | omega | (subst_vars; omega) | (exact hVj (by omega)) | (rw [show n + -1 - 1 = n - 2 by omega, show n + -1 = n - 1 by omega]) | (rw [show n + -2 + 1 = n - 1 by omega, show n + -2 = n - 2 by omega]) | (simp_all; done) | skip
          · rw [eK, eT]
            intro j hj0 hj1
            have hTj := hT j hj0
            unfold ts1
            (repeat' split) <;> first | omega | (subst_vars; omega) | (exact hTj (by omega)) | (rw [show n + -1 - 1 = n - 2 by omega, show n + -1 = n - 1 by omega]) | (rw [show n + -2 + 1 = n - 1 by omega, show n + -2 = n - 2 by omega]) | (rw [show k - 2 = k + -1 - 1 by omega, show k - 1 = k + -1 by omega]; unfold bI; split <;> omega) | (simp_all; done) | skip
        · refine wi_i2 hc rfl rfl ?_
          refine wl_i2l hc rfl ⟨by omega, by omega⟩ ?_
          refine wi_go hc rfl ?_
          refine wi_lst (N := 330) hc rfl rfl (by decide) (by decide) (by omega) (by omega) ?_
          obtain ⟨s13_, es13_⟩ : ∃ q, q = up l1 605 n v := ⟨_, rfl⟩
          rw [← es13_]
          refine wi_inc (L' := [some (.ref 598), some (.int (iI c)), some (.int (iI (((705 * (s 599 6)) + 1) + (4 * c)))), some (.int (iI ((705 * (s 599 6)) + 97))), some (.int (iI (n + 1))), some (.int (iI k)), some (.int (iI (fr + m))), some (.int (iI o)), some (.int (iI v))]) hc rfl rfl rfl ?_
          refine wi_go hc rfl ?_
          refine wi_inc (L' := [some (.ref 598), some (.int (iI c)), some (.int (iI (((705 * (s 599 6)) + 1) + (4 * c)))), some (.int (iI ((705 * (s 599 6)) + 97))), some (.int (iI (n + 1))), some (.int (iI k)), some (.int (iI (fr + m + 1))), some (.int (iI o)), some (.int (iI v))]) hc rfl rfl rfl ?_
          refine wi_go hc rfl ?_
          have eN : (cNK (opM s) fr (m + 1)).1 = n + 1 := by
            show cN1 (opM s (fr + m)) (cNK (opM s) fr m).1 = _
            rw [← hn, ← ho]
            unfold cN1
            (repeat' split) <;> omega
          have eK : (cNK (opM s) fr (m + 1)).2 = k := by
            show cK1 (opM s (fr + m)) (cNK (opM s) fr m).2 = _
            rw [← hk, ← ho]
            unfold cK1
            (repeat' split) <;> omega
          have eV : (vmR (opM s) (vlM s) (s 604) fr (m + 1)).1 = vs1 o v n (s 604) vs := by
            show vs1 (opM s (fr + m)) (vlM s (fr + m)) (cNK (opM s) fr m).1 (s 604) (vmR (opM s) (vlM s) (s 604) fr m).1 = _
            rw [← hn, ← ho, ← hv, ← hvs]
          have eT : (vmR (opM s) (vlM s) (s 604) fr (m + 1)).2 = ts1 o n k vs ts := by
            show ts1 (opM s (fr + m)) (cNK (opM s) fr m).1 (cNK (opM s) fr m).2 (vmR (opM s) (vlM s) (s 604) fr m).1 (vmR (opM s) (vlM s) (s 604) fr m).2 = _
            rw [← hn, ← hk, ← ho, ← hvs, ← hts]
          have g := ih (by omega) s1 s13_ (some (.int (iI o))) (some (.int (iI v))) ?_ ?_ ?_ ?_
          · rw [eN, eK, show fr + ((m + 1 : Nat) : Int) = fr + m + 1 by omega] at g
            exact g
          · intro c hc9
            exact hs c hc9
          · intro c hc9
            rw [es13_]; show up _ _ _ _ c = _; rw [up_cc hc9]; exact hl c hc9
          · rw [eN, eV]
            intro j hj0 hj1
            have hVj := hV j hj0
            rw [es13_]
            unfold up
            unfold vs1
            (repeat' split) <;> first | omega | (subst_vars; omega) | (exact hVj (by omega)) | (rw [show n + -1 - 1 = n - 2 by omega, show n + -1 = n - 1 by omega]) | (rw [show n + -2 + 1 = n - 1 by omega, show n + -2 = n - 2 by omega]) | (simp_all; done) | skip
          · rw [eK, eT]
            intro j hj0 hj1
            have hTj := hT j hj0
            unfold ts1
            (repeat' split) <;> first | omega | (subst_vars; omega) | (exact hTj (by omega)) | (rw [show n + -1 - 1 = n - 2 by omega, show n + -1 = n - 1 by omega]) | (rw [show n + -2 + 1 = n - 1 by omega, show n + -2 = n - 2 by omega]) | (rw [show k - 2 = k + -1 - 1 by omega, show k - 1 = k + -1 by omega]; unfold bI; split <;> omega) | (simp_all; done) | skip
  have g := loop49_ 0 (Nat.zero_le _) s l none none (fun c _ => rfl) (fun c _ => rfl) (fun j h1 h2 => absurd (show j < 0 from h2) (by omega)) (fun j h1 h2 => absurd (show j < 0 from h2) (by omega))
  rw [show fr + ((0 : Nat) : Int) = fr by omega] at g
  exact g
