/-! LAWS and TELLS on both sides. -/
theorem lawS_64 (A T : Int → Int) (b : Int) (n : Nat) : 0 ≤ lawS A T b n ∧ lawS A T b n < 64 := lwB_64 _
theorem pshS_64 (A T : Int → Int) (b x r : Int) : 0 ≤ pshS A T b x r ∧ pshS A T b x r < 64 := lwB_64 _
theorem tl_in {A T : Int → Int} {b f x sd : Int} (x0 : 0 ≤ x) (h0 : 0 ≤ sd) (h1 : sd < 2) : tlN A T b f (2 * x + (sd + 1)).toNat = if x ≠ b ∧ alV A T b f x sd < (tlN A T b f (2 * x + sd).toNat).2 then (2 * x + sd, alV A T b f x sd) else tlN A T b f (2 * x + sd).toNat := by
  have h := tlN_s (A := A) (T := T) (b := b) (f := f) (k := 2 * x + sd) (by omega)
  rw [show (2 * x + sd) / 2 = x by omega, show (2 * x + sd) % 2 = sd by omega] at h
  rw [show 2 * x + (sd + 1) = 2 * x + sd + 1 by omega]
  exact h
theorem tl_out {A T : Int → Int} {b f x sd : Int} (x0 : 0 ≤ x) (h0 : 0 ≤ sd) (h1 : sd ≤ 2) (h : sd = 2 ∨ x = b) : tlN A T b f (2 * x + sd).toNat = tlN A T b f (2 * (x + 1)).toNat := by
  rcases h with q | q
  · rw [q, show 2 * x + 2 = 2 * (x + 1) by omega]
  · have s := fun (u : Int) (a : 0 ≤ u) (c : u < 2) => (tl_in (A := A) (T := T) (b := b) (f := f) (x := x) (sd := u) x0 a c).trans (if_neg (fun w => w.1 q))
    have e1 := s 0 (by omega) (by omega)
    have e2 := s 1 (by omega) (by omega)
    rw [show 2 * (x + 1) = 2 * x + (1 + 1) by omega, e2]
    rcases (by omega : sd = 0 ∨ sd = 1 ∨ sd = 2) with z | z | z
    · rw [z, show (1 : Int) = 0 + 1 by omega, e1]
    · rw [z]
    · rw [z]; exact e2
theorem alV_eq {A T : Int → Int} {b f x r : Int} (f0 : 0 ≤ f) (f1 : f < 64) : alV A T b f x r = maxI (ctB f (fun la => pushP A T la b x r) 6) (popI f - ctB f (fun la => pushP A T la b x r) 6) := by
  have h := pop_and f0 f1 (fun la => pushP A T la b x r)
  unfold alV pshS
  rw [h]
theorem sp_143 {d L t : Nat} {s l : Nat → Int → Int} {A T : Int → Int} (hJ : JC s A T) (hK : KA A T) {b o r : Int} (hb : 0 ≤ b ∧ b < A 0) (ho : 0 ≤ o ∧ o < A 0) (hr : r = 0 ∨ r = 1) : ∃ s1, mm_Ev mm_ct mm_CM (d + 4) 143 [.ref 0, .int (iI b), .int (iI o), .int (iI r)] (MX L t s l) (some (.int (iI (pshS A T b o r))), MX L t s1 l) ∧ (∀ c, c ≠ 578 ∧ c ≠ 579 → s1 c = s c) ∧ JC s1 A T := by
  have hc : (mm_CM 143).2.2.2.2.2.2.2 = mm_cf cd_143 := by rw [cm_143]; rfl
  refine ev_xs ?_
  refine ev_to (mx := 6) (by rw [cm_143]; decide) (by rw [cm_143]; rfl) (by show 4 ≤ _; decide) ?_
  show mm_wp _ _ (0, [some (.ref 0), some (.int (iI b)), some (.int (iI o)), some (.int (iI r)), none, none], [], MX L t s l) (fun res => ∃ s1, res = (some (.int (iI (pshS A T b o r))), MX L t s1 l) ∧ (∀ c, c ≠ 578 ∧ c ≠ 579 → s1 c = s c) ∧ JC s1 A T)
  have hV := hK.1
  have hB := hK.2.1
  have g0 := hB.1
  refine wi_ic hc rfl ?_
  refine wi_is2 (L' := [some (.ref 0), some (.int (iI b)), some (.int (iI o)), some (.int (iI r)), some (.int (iI 0)), none]) hc rfl (Nat.le_of_ble_eq_true rfl) rfl ?_
  refine wi_ic hc rfl ?_
  refine wi_is2 (L' := [some (.ref 0), some (.int (iI b)), some (.int (iI o)), some (.int (iI r)), some (.int (iI 0)), some (.int (iI 0))]) hc rfl (Nat.le_of_ble_eq_true rfl) rfl ?_
  have loop6_ : ∀ la : Int, la ≤ 6 → 0 ≤ la → ∀ (s3 : Nat → Int → Int), (∀ c, c ≠ 578 ∧ c ≠ 579 → s3 c = s c) → JC s3 A T → mm_wp (mm_Ev mm_ct mm_CM (d + 3)) 143 (6, [some (.ref 0), some (.int (iI b)), some (.int (iI o)), some (.int (iI r)), some (.int (iI (lwB (fun la => pushP A T la b o r) la.toNat))), some (.int (iI la))], [], MX L t s3 l) (fun res => ∃ s1, res = (some (.int (iI (pshS A T b o r))), MX L t s1 l) ∧ (∀ c, c ≠ 578 ∧ c ≠ 579 → s1 c = s c) ∧ JC s1 A T) := by
    refine up_ind ?_
    intro la hla ih la0 s3 hF3 hJ3
    have hnn := lwB_nn (fun la => pushP A T la b o r) la.toNat
    have hpp := pw_pos la
    have hp9 := pushP_01 hV (la := la) hb.1 hb.2 ho.1 ho.2 hr
    refine wi_i2 hc rfl rfl ?_
    refine wi_bi hc rfl rfl ?_
    refine wi_cge hc rfl ⟨by omega, by omega⟩ ⟨by decide, by decide⟩ (fun h1_ => ?_) (fun h1_ => ?_)
    · refine wi_i2 hc rfl rfl ?_
      refine wi_ri hc rfl (by rw [cm_143]; rfl) ?_
      have hR : pshS A T b o r = lwB (fun la => pushP A T la b o r) la.toNat := by rw [show la = 6 by omega]; rfl
      rw [hR]
      exact ⟨s3, rfl, fun c hc9_ => hF3 c (by omega), hJ3⟩
    · refine wi_a1 hc rfl rfl ?_
      refine wi_gr (w := 577) hc rfl rfl (by decide) (Nat.le_of_ble_eq_true rfl) rfl ?_
      refine wi_a1 hc rfl rfl ?_
      refine wi_gr (w := 1) hc rfl rfl (by decide) (Nat.le_of_ble_eq_true rfl) rfl ?_
      refine wi_i2 hc rfl rfl ?_
      refine wi_i1 hc rfl rfl ?_
      refine wi_i1 hc rfl rfl ?_
      refine wi_i1 hc rfl rfl ?_
      obtain ⟨s1_, hE1_, hF1_, hJ1_⟩ := sp_1 (d := 0) (L := L) (t := t) (l := l) hJ3 hK.1 (la := la) (b := b) (o := o) (right := r) (by omega) (by omega) (by omega) (by omega) (by omega) (by omega) (by omega)
      refine wp_cv (b := 577) (As := [.ref 1, .int (iI la), .int (iI b), .int (iI o), .int (iI r)]) (r := []) hc rfl (by rw [cm_1]; rfl) rfl (Nat.le_of_ble_eq_true rfl) (show 577 < 621 by decide) (by rw [cm_1]; rfl) (ev_mono hE1_ (by omega)) ?_
      show mm_wp _ _ (29, [some (.ref 0), some (.int (iI b)), some (.int (iI o)), some (.int (iI r)), some (.int (iI (lwB (fun la => pushP A T la b o r) la.toNat))), some (.int (iI la))], [.int (iI (pushP A T la b o r))], MX L t s1_ l) _
      refine wi_zeq hc rfl ⟨by omega, by omega⟩ (fun h2_ => ?_) (fun h2_ => ?_)
      · refine wi_inc (L' := [some (.ref 0), some (.int (iI b)), some (.int (iI o)), some (.int (iI r)), some (.int (iI (lwB (fun la => pushP A T la b o r) la.toNat))), some (.int (iI (la + 1)))]) hc rfl rfl rfl ?_
        refine wi_go hc rfl ?_
        have e9 : lwB (fun la => pushP A T la b o r) la.toNat = lwB (fun la => pushP A T la b o r) (la + 1).toNat := by rw [lwB_s la0]; exact (if_neg (show ¬ pushP A T la b o r = 1 by omega)).symm
        rw [e9]
        exact ih (by omega) (by omega) s1_ (fun c hc9_ => (hF1_ c (by omega)).trans (hF3 c (by omega))) hJ1_
      · refine wi_i2 hc rfl rfl ?_
        refine wi_ic hc rfl ?_
        refine wi_i2 hc rfl rfl ?_
        refine wi_shl (2 ^ la.toNat) rfl hc rfl (by omega) (by omega) ?_
        refine wi_or hc rfl (by omega) (by omega) ?_
        refine wi_is2 (L' := [some (.ref 0), some (.int (iI b)), some (.int (iI o)), some (.int (iI r)), some (.int (iI (orI (lwB (fun la => pushP A T la b o r) la.toNat) (1 * (2 ^ la.toNat))))), some (.int (iI la))]) hc rfl (Nat.le_of_ble_eq_true rfl) rfl ?_
        refine wi_inc (L' := [some (.ref 0), some (.int (iI b)), some (.int (iI o)), some (.int (iI r)), some (.int (iI (orI (lwB (fun la => pushP A T la b o r) la.toNat) (1 * (2 ^ la.toNat))))), some (.int (iI (la + 1)))]) hc rfl rfl rfl ?_
        refine wi_go hc rfl ?_
        have e9 : orI (lwB (fun la => pushP A T la b o r) la.toNat) (1 * (2 ^ la.toNat)) = lwB (fun la => pushP A T la b o r) (la + 1).toNat := by rw [lwB_s la0]; exact (if_pos (show  pushP A T la b o r = 1 by omega)).symm
        rw [e9]
        exact ih (by omega) (by omega) s1_ (fun c hc9_ => (hF1_ c (by omega)).trans (hF3 c (by omega))) hJ1_
  exact loop6_ 0 (by omega) (by omega) s (fun c _ => rfl) hJ
theorem sp_144 {d L t : Nat} {s l : Nat → Int → Int} {A T : Int → Int} (hJ : JC s A T) (hK : KA A T) {b o r : Int} (hb : 0 ≤ b ∧ b < A 0) (ho : 0 ≤ o ∧ o < A 0) (hr : r = 0 ∨ r = 1) {f : Int} (hf : 0 ≤ f ∧ f < 64) : ∃ s1, mm_Ev mm_ct mm_CM (d + 6) 144 [.ref 0, .int (iI b), .int (iI o), .int (iI r), .int (iI f)] (MX L t s l) (some (.int (iI (alV A T b f o r))), MX L t s1 l) ∧ (∀ c, c ≠ 578 ∧ c ≠ 579 → s1 c = s c) ∧ JC s1 A T := by
  have hc : (mm_CM 144).2.2.2.2.2.2.2 = mm_cf cd_144 := by rw [cm_144]; rfl
  refine ev_xs ?_
  refine ev_to (mx := 6) (by rw [cm_144]; decide) (by rw [cm_144]; rfl) (by show 5 ≤ _; decide) ?_
  show mm_wp _ _ (0, [some (.ref 0), some (.int (iI b)), some (.int (iI o)), some (.int (iI r)), some (.int (iI f)), none], [], MX L t s l) (fun res => ∃ s1, res = (some (.int (iI (alV A T b f o r))), MX L t s1 l) ∧ (∀ c, c ≠ 578 ∧ c ≠ 579 → s1 c = s c) ∧ JC s1 A T)
  have hV := hK.1
  have hB := hK.2.1
  have g0 := hB.1
  refine wi_i2 hc rfl rfl ?_
  refine wi_a1 hc rfl rfl ?_
  refine wi_i1 hc rfl rfl ?_
  refine wi_i1 hc rfl rfl ?_
  refine wi_i1 hc rfl rfl ?_
  obtain ⟨s1_, hE1_, hF1_, hJ1_⟩ := sp_143 (d := 0) (L := L) (t := t) (l := l) hJ hK (b := b) (o := o) (r := r) (by omega) (by omega) (by omega)
  refine wp_cv (b := 0) (As := [.int (iI b), .int (iI o), .int (iI r)]) (r := [.int (iI f)]) hc rfl (by rw [cm_143]; rfl) rfl (Nat.le_of_ble_eq_true rfl) (show 0 < 621 by decide) (by rw [cm_143]; rfl) (ev_mono hE1_ (by omega)) ?_
  have hps := pshS_64 A T b o r
  show mm_wp _ _ (9, [some (.ref 0), some (.int (iI b)), some (.int (iI o)), some (.int (iI r)), some (.int (iI f)), none], [.int (iI (pshS A T b o r)), .int (iI f)], MX L t s1_ l) _
  refine wi_and hc rfl (by omega) (by omega) ?_
  have ra := and64 hf.1 hf.2 hps.1 hps.2
  have hq1 := popI_r (andI f (pshS A T b o r))
  have hq2 := popI_r f
  refine wp_cs (As := [.int (iI (andI f (pshS A T b o r)))]) (r := []) hc rfl (by rw [cm_288]; rfl) rfl (Nat.le_of_ble_eq_true rfl) (ev_mono (sp_288 (d := 0) (by omega) (by omega)) (by omega)) ?_
  show mm_wp _ _ (13, [some (.ref 0), some (.int (iI b)), some (.int (iI o)), some (.int (iI r)), some (.int (iI f)), none], [.int (iI (popI (andI f (pshS A T b o r))))], MX L t s1_ l) _
  refine wi_is2 (L' := [some (.ref 0), some (.int (iI b)), some (.int (iI o)), some (.int (iI r)), some (.int (iI f)), some (.int (iI (popI (andI f (pshS A T b o r)))))]) hc rfl (Nat.le_of_ble_eq_true rfl) rfl ?_
  refine wi_i2 hc rfl rfl ?_
  refine wi_i2 hc rfl rfl ?_
  refine wp_cs (As := [.int (iI f)]) (r := [.int (iI (popI (andI f (pshS A T b o r))))]) hc rfl (by rw [cm_288]; rfl) rfl (Nat.le_of_ble_eq_true rfl) (ev_mono (sp_288 (d := 0) (by omega) (by omega)) (by omega)) ?_
  show mm_wp _ _ (22, [some (.ref 0), some (.int (iI b)), some (.int (iI o)), some (.int (iI r)), some (.int (iI f)), some (.int (iI (popI (andI f (pshS A T b o r)))))], [.int (iI (popI f)), .int (iI (popI (andI f (pshS A T b o r))))], MX L t s1_ l) _
  refine wi_i2 hc rfl rfl ?_
  refine wi_sub hc rfl ?_
  refine wi_max (r := []) hc rfl (Nat.le_of_ble_eq_true rfl) ⟨by omega, by omega⟩ ⟨by omega, by omega⟩ ?_
  have h1_ := maxI_spec (popI (andI f (pshS A T b o r))) ((popI f) - (popI (andI f (pshS A T b o r))))
  show mm_wp _ _ (28, [some (.ref 0), some (.int (iI b)), some (.int (iI o)), some (.int (iI r)), some (.int (iI f)), some (.int (iI (popI (andI f (pshS A T b o r)))))], [.int (iI (maxI (popI (andI f (pshS A T b o r))) ((popI f) - (popI (andI f (pshS A T b o r))))))], MX L t s1_ l) _
  refine wi_ri hc rfl (by rw [cm_144]; rfl) ?_
  have hR : alV A T b f o r = maxI (popI (andI f (pshS A T b o r))) ((popI f) - (popI (andI f (pshS A T b o r)))) := rfl
  rw [hR]
  exact ⟨s1_, rfl, fun c hc9_ => hF1_ c (by omega), hJ1_⟩
theorem sp_142 {d L t : Nat} {s l : Nat → Int → Int} {A T : Int → Int} (hJ : JC s A T) (hK : KA A T) {b : Int} (hb : 0 ≤ b ∧ b < A 0) : ∃ s1, mm_Ev mm_ct mm_CM (d + 6) 142 [.ref 0, .int (iI b)] (MX L t s l) (some (.int (iI (lawS A T b (A 8).toNat))), MX L t s1 l) ∧ (∀ c, c ≠ 578 ∧ c ≠ 579 → s1 c = s c) ∧ JC s1 A T := by
  have hc : (mm_CM 142).2.2.2.2.2.2.2 = mm_cf cd_142 := by rw [cm_142]; rfl
  refine ev_xs ?_
  refine ev_to (mx := 6) (by rw [cm_142]; decide) (by rw [cm_142]; rfl) (by show 2 ≤ _; decide) ?_
  show mm_wp _ _ (0, [some (.ref 0), some (.int (iI b)), none, none, none, none], [], MX L t s l) (fun res => ∃ s1, res = (some (.int (iI (lawS A T b (A 8).toNat))), MX L t s1 l) ∧ (∀ c, c ≠ 578 ∧ c ≠ 579 → s1 c = s c) ∧ JC s1 A T)
  have hV := hK.1
  have hB := hK.2.1
  have g0 := hB.1
  have h8 := hK.2.2.1.2.2.2.1
  refine wi_bi hc rfl rfl ?_
  refine wi_is1 (L' := [some (.ref 0), some (.int (iI b)), some (.int (iI 63)), none, none, none]) hc rfl (Nat.le_of_ble_eq_true rfl) rfl ?_
  refine wi_ic hc rfl ?_
  refine wi_is1 (L' := [some (.ref 0), some (.int (iI b)), some (.int (iI 63)), some (.int (iI 0)), none, none]) hc rfl (Nat.le_of_ble_eq_true rfl) rfl ?_
  have loop5_ : ∀ i : Int, i ≤ A 8 → 0 ≤ i → ∀ (o4 o5 : Option Value) (s3 : Nat → Int → Int), (∀ c, c ≠ 578 ∧ c ≠ 579 → s3 c = s c) → JC s3 A T → mm_wp (mm_Ev mm_ct mm_CM (d + 5)) 142 (5, [some (.ref 0), some (.int (iI b)), some (.int (iI (lawS A T b i.toNat))), some (.int (iI i)), o4, o5], [], MX L t s3 l) (fun res => ∃ s1, res = (some (.int (iI (lawS A T b (A 8).toNat))), MX L t s1 l) ∧ (∀ c, c ≠ 578 ∧ c ≠ 579 → s1 c = s c) ∧ JC s1 A T) := by
    refine up_ind ?_
    intro i hi9 ih i0 o4 o5 s3 hF3 hJ3
    have hls := lawS_64 A T b i.toNat
    refine wi_i1 hc rfl rfl ?_
    refine wi_a1 hc rfl rfl ?_
    refine wi_gr (w := 1) hc rfl rfl (by decide) (Nat.le_of_ble_eq_true rfl) rfl ?_
    refine wi_gfv (kz := 12) rfl hc rfl rfl (by decide) (Nat.le_of_ble_eq_true rfl) rfl (v := A 8) (lb_dc hJ3.1) ?_
    refine wi_cge hc rfl ⟨by omega, by omega⟩ ⟨by omega, by omega⟩ (fun h1_ => ?_) (fun h1_ => ?_)
    · refine wi_i1 hc rfl rfl ?_
      refine wi_ri hc rfl (by rw [cm_142]; rfl) ?_
      rw [show A 8 = i by omega]
      exact ⟨s3, rfl, fun c hc9_ => hF3 c (by omega), hJ3⟩
    · have hdu := hK.2.2.1.2.2.2.2.2 i i0 (by omega)
      obtain ⟨dv, hdv⟩ : ∃ z9, z9 = A (106 + 4 * i) + 16 * A (107 + 4 * i) + 256 * A (108 + 4 * i) + 512 * A (109 + 4 * i) := ⟨_, rfl⟩
      have hv0 : dv % 16 = A (106 + 4 * i) ∧ dv / 16 % 16 = A (107 + 4 * i) ∧ dv / 256 % 2 = A (108 + 4 * i) ∧ dv / 512 % 2 = A (109 + 4 * i) := by omega
      refine wi_a1 hc rfl rfl ?_
      refine wi_gr (w := 1) hc rfl rfl (by decide) (Nat.le_of_ble_eq_true rfl) rfl ?_
      refine wi_gr (w := 24) hc rfl rfl (by decide) (Nat.le_of_ble_eq_true rfl) rfl ?_
      refine wi_i1 hc rfl rfl ?_
      refine wi_ildv (N := 12) hc rfl rfl (by decide) (by decide) (by omega) (by omega) (v := dv) (((hJ3.1.2.2.2.1 i i0 (by omega)).trans hdv.symm)) ?_
      refine wi_is2 (L' := [some (.ref 0), some (.int (iI b)), some (.int (iI (lawS A T b i.toNat))), some (.int (iI i)), some (.int (iI dv)), o5]) hc rfl (Nat.le_of_ble_eq_true rfl) rfl ?_
      refine wi_i2 hc rfl rfl ?_
      refine wi_bi hc rfl rfl ?_
      refine wi_msk 4 16 rfl (by decide) (by decide) hc rfl ?_
      refine wi_i1 hc rfl rfl ?_
      refine wi_cne hc rfl ⟨by omega, by omega⟩ ⟨by omega, by omega⟩ (fun h2_ => ?_) (fun h2_ => ?_)
      · refine wi_inc (L' := [some (.ref 0), some (.int (iI b)), some (.int (iI (lawS A T b i.toNat))), some (.int (iI (i + 1))), some (.int (iI dv)), o5]) hc rfl rfl rfl ?_
        refine wi_go hc rfl ?_
        have e9 : lawS A T b i.toNat = lawS A T b (i + 1).toNat := (lawS_no i0 (by omega)).symm
        rw [e9]
        exact ih (by omega) (by omega) _ _ s3 (hF3) hJ3
      · refine wi_a1 hc rfl rfl ?_
        refine wi_i1 hc rfl rfl ?_
        refine wi_i2 hc rfl rfl ?_
        refine wi_ic hc rfl ?_
        refine wi_shr 16 rfl hc rfl ⟨by omega, by omega⟩ (by omega) (by omega) ?_
        refine wi_bi hc rfl rfl ?_
        refine wi_msk 4 16 rfl (by decide) (by decide) hc rfl ?_
        rw [hv0.2.1]
        refine wi_i2 hc rfl rfl ?_
        refine wi_bi hc rfl rfl ?_
        refine wi_shr 256 rfl hc rfl ⟨by omega, by omega⟩ (by omega) (by omega) ?_
        refine wi_ic hc rfl ?_
        refine wi_msk 1 2 rfl (by decide) (by decide) hc rfl ?_
        refine wi_b01 hc rfl rfl rfl rfl (by omega) ?_
        rw [hv0.2.2.1]
        obtain ⟨s1_, hE1_, hF1_, hJ1_⟩ := sp_143 (d := 0) (L := L) (t := t) (l := l) hJ3 hK (b := b) (o := A (107 + 4 * i)) (r := A (108 + 4 * i)) (by omega) (by omega) (by omega)
        refine wp_cv (b := 0) (As := [.int (iI b), .int (iI (A (107 + 4 * i))), .int (iI (A (108 + 4 * i)))]) (r := []) hc rfl (by rw [cm_143]; rfl) rfl (Nat.le_of_ble_eq_true rfl) (show 0 < 621 by decide) (by rw [cm_143]; rfl) (ev_mono hE1_ (by omega)) ?_
        have hps := pshS_64 A T b (A (107 + 4 * i)) (A (108 + 4 * i))
        show mm_wp _ _ (63, [some (.ref 0), some (.int (iI b)), some (.int (iI (lawS A T b i.toNat))), some (.int (iI i)), some (.int (iI dv)), o5], [.int (iI (pshS A T b (A (107 + 4 * i)) (A (108 + 4 * i))))], MX L t s1_ l) _
        refine wi_is2 (L' := [some (.ref 0), some (.int (iI b)), some (.int (iI (lawS A T b i.toNat))), some (.int (iI i)), some (.int (iI dv)), some (.int (iI (pshS A T b (A (107 + 4 * i)) (A (108 + 4 * i)))))]) hc rfl (Nat.le_of_ble_eq_true rfl) rfl ?_
        refine wi_i1 hc rfl rfl ?_
        refine wi_i2 hc rfl rfl ?_
        refine wi_bi hc rfl rfl ?_
        refine wi_shr 512 rfl hc rfl ⟨by omega, by omega⟩ (by omega) (by omega) ?_
        refine wi_ic hc rfl ?_
        refine wi_msk 1 2 rfl (by decide) (by decide) hc rfl ?_
        refine wi_zeq hc rfl ⟨by omega, by omega⟩ (fun h3_ => ?_) (fun h3_ => ?_)
        · refine wi_i2 hc rfl rfl ?_
          refine wi_ic hc rfl ?_
          refine wi_not hc rfl ?_
          refine wi_andn hc rfl (by omega) (by omega) (by omega) (by omega) ?_
          refine wi_is1 (L' := [some (.ref 0), some (.int (iI b)), some (.int (iI ((lawS A T b i.toNat) - andI (lawS A T b i.toNat) (pshS A T b (A (107 + 4 * i)) (A (108 + 4 * i)))))), some (.int (iI i)), some (.int (iI dv)), some (.int (iI (pshS A T b (A (107 + 4 * i)) (A (108 + 4 * i)))))]) hc rfl (Nat.le_of_ble_eq_true rfl) rfl ?_
          refine wi_inc (L' := [some (.ref 0), some (.int (iI b)), some (.int (iI ((lawS A T b i.toNat) - andI (lawS A T b i.toNat) (pshS A T b (A (107 + 4 * i)) (A (108 + 4 * i)))))), some (.int (iI (i + 1))), some (.int (iI dv)), some (.int (iI (pshS A T b (A (107 + 4 * i)) (A (108 + 4 * i)))))]) hc rfl rfl rfl ?_
          refine wi_go hc rfl ?_
          have hy := lawS_yes (A := A) (T := T) (b := b) i0 (by omega) (fun la => pushP_01 hV (la := la) hb.1 hb.2 hdu.2.1.1 hdu.2.1.2 hdu.2.2.2.1)
          have e9 : (lawS A T b i.toNat) - andI (lawS A T b i.toNat) (pshS A T b (A (107 + 4 * i)) (A (108 + 4 * i))) = lawS A T b (i + 1).toNat := (hy.2 (by omega)).symm
          rw [e9]
          exact ih (by omega) (by omega) _ _ s1_ (fun c hc9_ => (hF1_ c (by omega)).trans (hF3 c (by omega))) hJ1_
        · refine wi_i2 hc rfl rfl ?_
          refine wi_go hc rfl ?_
          refine wi_and hc rfl (by omega) (by omega) ?_
          refine wi_is1 (L' := [some (.ref 0), some (.int (iI b)), some (.int (iI (andI (lawS A T b i.toNat) (pshS A T b (A (107 + 4 * i)) (A (108 + 4 * i)))))), some (.int (iI i)), some (.int (iI dv)), some (.int (iI (pshS A T b (A (107 + 4 * i)) (A (108 + 4 * i)))))]) hc rfl (Nat.le_of_ble_eq_true rfl) rfl ?_
          refine wi_inc (L' := [some (.ref 0), some (.int (iI b)), some (.int (iI (andI (lawS A T b i.toNat) (pshS A T b (A (107 + 4 * i)) (A (108 + 4 * i)))))), some (.int (iI (i + 1))), some (.int (iI dv)), some (.int (iI (pshS A T b (A (107 + 4 * i)) (A (108 + 4 * i)))))]) hc rfl rfl rfl ?_
          refine wi_go hc rfl ?_
          have hy := lawS_yes (A := A) (T := T) (b := b) i0 (by omega) (fun la => pushP_01 hV (la := la) hb.1 hb.2 hdu.2.1.1 hdu.2.1.2 hdu.2.2.2.1)
          have e9 : andI (lawS A T b i.toNat) (pshS A T b (A (107 + 4 * i)) (A (108 + 4 * i))) = lawS A T b (i + 1).toNat := (hy.1 (by omega)).symm
          rw [e9]
          exact ih (by omega) (by omega) _ _ s1_ (fun c hc9_ => (hF1_ c (by omega)).trans (hF3 c (by omega))) hJ1_
  have e9 : (63 : Int) = lawS A T b (0 : Int).toNat := by show (63 : Int) = lwB (fun _ => 1) 6; decide
  rw [e9]
  exact loop5_ 0 (by omega) (by omega) _ _ s (fun c _ => rfl) hJ
theorem sp_119 {d L t : Nat} {s l : Nat → Int → Int} {A T : Int → Int} (hJ : JC s A T) (hK : KA A T) {b : Int} (hb : rI b) : ∃ s1, mm_Ev mm_ct mm_CM (d + 7) 119 [.ref 0, .int (iI b)] (MX L t s l) (some (.int (iI (lawsP A T b))), MX L t s1 l) ∧ (∀ c, c ≠ 578 ∧ c ≠ 579 → s1 c = s c) ∧ JC s1 A T := by
  have hc : (mm_CM 119).2.2.2.2.2.2.2 = mm_cf cd_119 := by rw [cm_119]; rfl
  refine ev_xs ?_
  refine ev_to (mx := 2) (by rw [cm_119]; decide) (by rw [cm_119]; rfl) (by show 2 ≤ _; decide) ?_
  show mm_wp _ _ (0, [some (.ref 0), some (.int (iI b))], [], MX L t s l) (fun res => ∃ s1, res = (some (.int (iI (lawsP A T b))), MX L t s1 l) ∧ (∀ c, c ≠ 578 ∧ c ≠ 579 → s1 c = s c) ∧ JC s1 A T)
  have hV := hK.1
  have hB := hK.2.1
  have g0 := hB.1
  have h8 := hK.2.2.1.2.2.2.1
  refine wi_a1 hc rfl rfl ?_
  refine wi_i1 hc rfl rfl ?_
  refine wp_cv (b := 0) (As := [.int (iI b)]) (r := []) hc rfl (by rw [cm_129]; rfl) rfl (Nat.le_of_ble_eq_true rfl) (show 0 < 621 by decide) (by rw [cm_129]; rfl) (ev_mono (sg_129 (d := 0) hJ.1 hb hK.2.1.1) (by omega)) ?_
  show mm_wp _ _ (5, [some (.ref 0), some (.int (iI b))], [.int (iI (bI (0 ≤ b ∧ b < A 0)))], MX L t s l) _
  refine wi_beq hc rfl (fun h1_ => ?_) (fun h1_ => ?_)
  · refine wi_ic hc rfl ?_
    refine wi_ri hc rfl (by rw [cm_119]; rfl) ?_
    have hR : lawsP A T b = (-1) := by unfold lawsP; exact if_neg (by omega)
    rw [hR]
    exact ⟨s, rfl, fun c _ => rfl, hJ⟩
  · refine wi_a1 hc rfl rfl ?_
    refine wi_i1 hc rfl rfl ?_
    obtain ⟨s1_, hE1_, hF1_, hJ1_⟩ := sp_142 (d := 0) (L := L) (t := t) (l := l) hJ hK (b := b) (by omega)
    refine wp_cv (b := 0) (As := [.int (iI b)]) (r := []) hc rfl (by rw [cm_142]; rfl) rfl (Nat.le_of_ble_eq_true rfl) (show 0 < 621 by decide) (by rw [cm_142]; rfl) (ev_mono hE1_ (by omega)) ?_
    have hls := lawS_64 A T b (A 8).toNat
    show mm_wp _ _ (13, [some (.ref 0), some (.int (iI b))], [.int (iI (lawS A T b (A 8).toNat))], MX L t s1_ l) _
    refine wi_go hc rfl ?_
    refine wi_ri hc rfl (by rw [cm_119]; rfl) ?_
    have hR : lawsP A T b = lawS A T b (A 8).toNat := by unfold lawsP; exact if_pos (by omega)
    rw [hR]
    exact ⟨s1_, rfl, fun c hc9_ => hF1_ c (by omega), hJ1_⟩
theorem sp_120 {d L t : Nat} {s l : Nat → Int → Int} {A T : Int → Int} (hJ : JC s A T) (hK : KA A T) {b : Int} (hb : rI b) : ∃ s1, mm_Ev mm_ct mm_CM (d + 7) 120 [.ref 0, .int (iI b)] (MX L t s l) (some (.int (iI (tellsP A T b))), MX L t s1 l) ∧ (∀ c, c ≠ 578 ∧ c ≠ 579 → s1 c = s c) ∧ JC s1 A T := by
  have hc : (mm_CM 120).2.2.2.2.2.2.2 = mm_cf cd_120 := by rw [cm_120]; rfl
  refine ev_xs ?_
  refine ev_to (mx := 8) (by rw [cm_120]; decide) (by rw [cm_120]; rfl) (by show 2 ≤ _; decide) ?_
  show mm_wp _ _ (0, [some (.ref 0), some (.int (iI b)), none, none, none, none, none, none], [], MX L t s l) (fun res => ∃ s1, res = (some (.int (iI (tellsP A T b))), MX L t s1 l) ∧ (∀ c, c ≠ 578 ∧ c ≠ 579 → s1 c = s c) ∧ JC s1 A T)
  have hV := hK.1
  have hB := hK.2.1
  have g0 := hB.1
  have h8 := hK.2.2.1.2.2.2.1
  refine wi_a1 hc rfl rfl ?_
  refine wi_i1 hc rfl rfl ?_
  refine wp_cv (b := 0) (As := [.int (iI b)]) (r := []) hc rfl (by rw [cm_129]; rfl) rfl (Nat.le_of_ble_eq_true rfl) (show 0 < 621 by decide) (by rw [cm_129]; rfl) (ev_mono (sg_129 (d := 0) hJ.1 hb hK.2.1.1) (by omega)) ?_
  show mm_wp _ _ (5, [some (.ref 0), some (.int (iI b)), none, none, none, none, none, none], [.int (iI (bI (0 ≤ b ∧ b < A 0)))], MX L t s l) _
  refine wi_bne hc rfl (fun h1_ => ?_) (fun h1_ => ?_)
  · refine wi_a1 hc rfl rfl ?_
    refine wi_i1 hc rfl rfl ?_
    obtain ⟨s1_, hE1_, hF1_, hJ1_⟩ := sp_142 (d := 0) (L := L) (t := t) (l := l) hJ hK (b := b) (by omega)
    refine wp_cv (b := 0) (As := [.int (iI b)]) (r := []) hc rfl (by rw [cm_142]; rfl) rfl (Nat.le_of_ble_eq_true rfl) (show 0 < 621 by decide) (by rw [cm_142]; rfl) (ev_mono hE1_ (by omega)) ?_
    have hls := lawS_64 A T b (A 8).toNat
    show mm_wp _ _ (15, [some (.ref 0), some (.int (iI b)), none, none, none, none, none, none], [.int (iI (lawS A T b (A 8).toNat))], MX L t s1_ l) _
    obtain ⟨f, hf⟩ : ∃ z9, z9 = (lawS A T b (A 8).toNat) := ⟨_, rfl⟩
    rw [← hf] at hls
    rw [← hf]
    refine wi_is1 (L' := [some (.ref 0), some (.int (iI b)), some (.int (iI f)), none, none, none, none, none]) hc rfl (Nat.le_of_ble_eq_true rfl) rfl ?_
    refine wi_i1 hc rfl rfl ?_
    refine wi_zne hc rfl ⟨by omega, by omega⟩ (fun h2_ => ?_) (fun h2_ => ?_)
    · refine wi_ic hc rfl ?_
      refine wi_is1 (L' := [some (.ref 0), some (.int (iI b)), some (.int (iI f)), some (.int (iI (-1))), none, none, none, none]) hc rfl (Nat.le_of_ble_eq_true rfl) rfl ?_
      refine wi_bi hc rfl rfl ?_
      refine wi_is2 (L' := [some (.ref 0), some (.int (iI b)), some (.int (iI f)), some (.int (iI (-1))), some (.int (iI 7)), none, none, none]) hc rfl (Nat.le_of_ble_eq_true rfl) rfl ?_
      refine wi_ic hc rfl ?_
      refine wi_is2 (L' := [some (.ref 0), some (.int (iI b)), some (.int (iI f)), some (.int (iI (-1))), some (.int (iI 7)), some (.int (iI 0)), none, none]) hc rfl (Nat.le_of_ble_eq_true rfl) rfl ?_
      have loop31_ : ∀ x : Int, x ≤ A 0 → 0 ≤ x → ∀ (o6 o7 : Option Value) (s3 : Nat → Int → Int), (∀ c, c ≠ 578 ∧ c ≠ 579 → s3 c = s c) → JC s3 A T → mm_wp (mm_Ev mm_ct mm_CM (d + 6)) 120 (31, [some (.ref 0), some (.int (iI b)), some (.int (iI f)), some (.int (iI ((tlN A T b f (2 * x).toNat).1))), some (.int (iI ((tlN A T b f (2 * x).toNat).2))), some (.int (iI x)), o6, o7], [], MX L t s3 l) (fun res => ∃ s1, res = (some (.int (iI (tellsP A T b))), MX L t s1 l) ∧ (∀ c, c ≠ 578 ∧ c ≠ 579 → s1 c = s c) ∧ JC s1 A T) := by
        refine up_ind ?_
        intro x hx9 ih x0 o6 o7 s3 hF3 hJ3
        refine wi_i2 hc rfl rfl ?_
        refine wi_a1 hc rfl rfl ?_
        refine wi_gr (w := 1) hc rfl rfl (by decide) (Nat.le_of_ble_eq_true rfl) rfl ?_
        refine wi_gfv (kz := 8) rfl hc rfl rfl (by decide) (Nat.le_of_ble_eq_true rfl) rfl (v := A 0) (lb_books hJ3.1) ?_
        refine wi_cge hc rfl ⟨by omega, by omega⟩ ⟨by omega, by omega⟩ (fun h3_ => ?_) (fun h3_ => ?_)
        · refine wi_i1 hc rfl rfl ?_
          refine wi_ri hc rfl (by rw [cm_120]; rfl) ?_
          have hR : tellsP A T b = (tlN A T b f (2 * x).toNat).1 := by
            unfold tellsP
            rw [← hf, if_pos (by omega), show A 0 = x by omega]
          rw [hR]
          exact ⟨s3, rfl, fun c hc9_ => hF3 c (by omega), hJ3⟩
        · refine wi_ic hc rfl ?_
          refine wi_is2 (L' := [some (.ref 0), some (.int (iI b)), some (.int (iI f)), some (.int (iI ((tlN A T b f (2 * x).toNat).1))), some (.int (iI ((tlN A T b f (2 * x).toNat).2))), some (.int (iI x)), some (.int (iI 0)), o7]) hc rfl (Nat.le_of_ble_eq_true rfl) rfl ?_
          have loop46_ : ∀ sd : Int, sd ≤ 2 → 0 ≤ sd → ∀ (o7 : Option Value) (s4 : Nat → Int → Int), (∀ c, c ≠ 578 ∧ c ≠ 579 → s4 c = s c) → JC s4 A T → mm_wp (mm_Ev mm_ct mm_CM (d + 6)) 120 (46, [some (.ref 0), some (.int (iI b)), some (.int (iI f)), some (.int (iI ((tlN A T b f (2 * x + sd).toNat).1))), some (.int (iI ((tlN A T b f (2 * x + sd).toNat).2))), some (.int (iI x)), some (.int (iI sd)), o7], [], MX L t s4 l) (fun res => ∃ s1, res = (some (.int (iI (tellsP A T b))), MX L t s1 l) ∧ (∀ c, c ≠ 578 ∧ c ≠ 579 → s1 c = s c) ∧ JC s1 A T) := by
            refine up_ind ?_
            intro sd hsd9 ihs sd0 o7 s4 hF4 hJ4
            have htr := tlN_r (A := A) (T := T) (b := b) hls.1 hls.2 (2 * x + sd).toNat
            refine wi_i2 hc rfl rfl ?_
            refine wi_ic hc rfl ?_
            refine wi_cge hc rfl ⟨by omega, by omega⟩ ⟨by decide, by decide⟩ (fun h4_ => ?_) (fun h4_ => ?_)
            · refine wi_inc (L' := [some (.ref 0), some (.int (iI b)), some (.int (iI f)), some (.int (iI ((tlN A T b f (2 * x + sd).toNat).1))), some (.int (iI ((tlN A T b f (2 * x + sd).toNat).2))), some (.int (iI (x + 1))), some (.int (iI sd)), o7]) hc rfl rfl rfl ?_
              refine wi_go hc rfl ?_
              have e9 := tl_out (A := A) (T := T) (b := b) (f := f) x0 sd0 hsd9 (by omega)
              rw [e9]
              exact ih (by omega) (by omega) _ _ s4 hF4 hJ4
            · refine wi_i2 hc rfl rfl ?_
              refine wi_i1 hc rfl rfl ?_
              refine wi_ceq hc rfl ⟨by omega, by omega⟩ hb (fun h5_ => ?_) (fun h5_ => ?_)
              · refine wi_inc (L' := [some (.ref 0), some (.int (iI b)), some (.int (iI f)), some (.int (iI ((tlN A T b f (2 * x + sd).toNat).1))), some (.int (iI ((tlN A T b f (2 * x + sd).toNat).2))), some (.int (iI (x + 1))), some (.int (iI sd)), o7]) hc rfl rfl rfl ?_
                refine wi_go hc rfl ?_
                have e9 := tl_out (A := A) (T := T) (b := b) (f := f) x0 sd0 hsd9 (by omega)
                rw [e9]
                exact ih (by omega) (by omega) _ _ s4 hF4 hJ4
              · refine wi_a1 hc rfl rfl ?_
                refine wi_i1 hc rfl rfl ?_
                refine wi_i2 hc rfl rfl ?_
                have join73_ : ∀ v9 : Int, v9 = sd → mm_wp (mm_Ev mm_ct mm_CM (d + 6)) 120 (73, [some (.ref 0), some (.int (iI b)), some (.int (iI f)), some (.int (iI ((tlN A T b f (2 * x + sd).toNat).1))), some (.int (iI ((tlN A T b f (2 * x + sd).toNat).2))), some (.int (iI x)), some (.int (iI sd)), o7], [.int (iI v9), .int (iI x), .int (iI b), .ref 0], MX L t s4 l) (fun res => ∃ s1, res = (some (.int (iI (tellsP A T b))), MX L t s1 l) ∧ (∀ c, c ≠ 578 ∧ c ≠ 579 → s1 c = s c) ∧ JC s1 A T) := by
                  intro v9 hv9
                  refine wi_i1 hc rfl rfl ?_
                  obtain ⟨s2_, hE2_, hF2_, hJ2_⟩ := sp_144 (d := 0) (L := L) (t := t) (l := l) hJ4 hK (b := b) (o := x) (r := v9) (f := f) (by omega) (by omega) (by omega) hls
                  refine wp_cv (b := 0) (As := [.int (iI b), .int (iI x), .int (iI v9), .int (iI f)]) (r := []) hc rfl (by rw [cm_144]; rfl) rfl (Nat.le_of_ble_eq_true rfl) (show 0 < 621 by decide) (by rw [cm_144]; rfl) (ev_mono hE2_ (by omega)) ?_
                  have har := alV_r (A := A) (T := T) (b := b) hls.1 hls.2 x v9
                  show mm_wp _ _ (77, [some (.ref 0), some (.int (iI b)), some (.int (iI f)), some (.int (iI ((tlN A T b f (2 * x + sd).toNat).1))), some (.int (iI ((tlN A T b f (2 * x + sd).toNat).2))), some (.int (iI x)), some (.int (iI sd)), o7], [.int (iI (alV A T b f x v9))], MX L t s2_ l) _
                  rw [hv9] at har
                  rw [hv9]
                  refine wi_is2 (L' := [some (.ref 0), some (.int (iI b)), some (.int (iI f)), some (.int (iI ((tlN A T b f (2 * x + sd).toNat).1))), some (.int (iI ((tlN A T b f (2 * x + sd).toNat).2))), some (.int (iI x)), some (.int (iI sd)), some (.int (iI (alV A T b f x sd)))]) hc rfl (Nat.le_of_ble_eq_true rfl) rfl ?_
                  refine wi_i2 hc rfl rfl ?_
                  refine wi_i2 hc rfl rfl ?_
                  refine wi_cge hc rfl ⟨by omega, by omega⟩ ⟨by omega, by omega⟩ (fun h6_ => ?_) (fun h6_ => ?_)
                  · refine wi_inc (L' := [some (.ref 0), some (.int (iI b)), some (.int (iI f)), some (.int (iI ((tlN A T b f (2 * x + sd).toNat).1))), some (.int (iI ((tlN A T b f (2 * x + sd).toNat).2))), some (.int (iI x)), some (.int (iI (sd + 1))), some (.int (iI (alV A T b f x sd)))]) hc rfl rfl rfl ?_
                    refine wi_go hc rfl ?_
                    have e8 := tl_in (A := A) (T := T) (b := b) (f := f) x0 sd0 (by omega)
                    rw [if_neg (by omega)] at e8
                    rw [← e8]
                    exact ihs (by omega) (by omega) _ s2_ (fun c hc9_ => (hF2_ c (by omega)).trans (hF4 c (by omega))) hJ2_
                  · refine wi_i2 hc rfl rfl ?_
                    refine wi_is2 (L' := [some (.ref 0), some (.int (iI b)), some (.int (iI f)), some (.int (iI ((tlN A T b f (2 * x + sd).toNat).1))), some (.int (iI (alV A T b f x sd))), some (.int (iI x)), some (.int (iI sd)), some (.int (iI (alV A T b f x sd)))]) hc rfl (Nat.le_of_ble_eq_true rfl) rfl ?_
                    refine wi_ic hc rfl ?_
                    refine wi_i2 hc rfl rfl ?_
                    refine wi_mul hc rfl ?_
                    refine wi_i2 hc rfl rfl ?_
                    refine wi_add hc rfl ?_
                    refine wi_is1 (L' := [some (.ref 0), some (.int (iI b)), some (.int (iI f)), some (.int (iI ((2 * x) + sd))), some (.int (iI (alV A T b f x sd))), some (.int (iI x)), some (.int (iI sd)), some (.int (iI (alV A T b f x sd)))]) hc rfl (Nat.le_of_ble_eq_true rfl) rfl ?_
                    refine wi_inc (L' := [some (.ref 0), some (.int (iI b)), some (.int (iI f)), some (.int (iI ((2 * x) + sd))), some (.int (iI (alV A T b f x sd))), some (.int (iI x)), some (.int (iI (sd + 1))), some (.int (iI (alV A T b f x sd)))]) hc rfl rfl rfl ?_
                    refine wi_go hc rfl ?_
                    have e8 := tl_in (A := A) (T := T) (b := b) (f := f) x0 sd0 (by omega)
                    rw [if_pos ⟨by omega, by omega⟩] at e8
                    have e1 : 2 * x + sd = (tlN A T b f (2 * x + (sd + 1)).toNat).1 := by rw [e8]
                    have e2 : alV A T b f x sd = (tlN A T b f (2 * x + (sd + 1)).toNat).2 := by rw [e8]
                    rw [e1, e2]
                    exact ihs (by omega) (by omega) _ s2_ (fun c hc9_ => (hF2_ c (by omega)).trans (hF4 c (by omega))) hJ2_
                refine wi_i2 hc rfl rfl ?_
                refine wi_ic hc rfl ?_
                refine wi_cne hc rfl ⟨by omega, by omega⟩ ⟨by decide, by decide⟩ (fun h7_ => ?_) (fun h7_ => ?_)
                · refine wi_ic hc rfl ?_
                  exact join73_ _ (by omega)
                · refine wi_ic hc rfl ?_
                  refine wi_go hc rfl ?_
                  exact join73_ _ (by omega)
          have e9 := loop46_ 0 (by omega) (by omega) o7 s3 hF3 hJ3
          rw [show 2 * x + 0 = 2 * x by omega] at e9
          exact e9
      exact loop31_ 0 (by omega) (by omega) _ _ s1_ (fun c hc9_ => hF1_ c (by omega)) hJ1_
    · refine wi_ic hc rfl ?_
      refine wi_ri hc rfl (by rw [cm_120]; rfl) ?_
      have hR : tellsP A T b = -1 := by unfold tellsP; rw [if_neg (by omega)]
      rw [hR]
      exact ⟨s1_, rfl, fun c hc9_ => hF1_ c (by omega), hJ1_⟩
  · refine wi_ic hc rfl ?_
    refine wi_ri hc rfl (by rw [cm_120]; rfl) ?_
    have hR : tellsP A T b = -1 := by unfold tellsP; rw [if_neg (by omega)]
    rw [hR]
    exact ⟨s, rfl, fun c _ => rfl, hJ⟩
