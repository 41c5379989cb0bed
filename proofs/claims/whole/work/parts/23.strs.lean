/-! The String constants at the law's entry. -/
def zs_tm (i : Nat) : Term := .string "SelfSorting$Reader" (if i = 0 then 93 else 85)
def zs_ln : List Nat := [150, 11]
def zs_by : List (List Int32) := [mm_wl, mm_gl]
def zs_fl : List Jvm.Cond := flatC (Jvm.Cond.and given_1 narrow_1)
set_option maxRecDepth 100000 in
theorem zs_k0 : ∀ i, i < 2 → mm_nth zs_fl (37 + 154 * i) = some (Jvm.Cond.exactly (zs_tm i) "java/lang/String") := by decide +kernel
set_option maxRecDepth 100000 in
theorem zs_k1 : ∀ i, i < 2 → mm_nth zs_fl (38 + 154 * i) = some (Jvm.Cond.eq (.field (zs_tm i) "java/lang/String" "coder" "B") (.int 0)) := by decide +kernel
set_option maxRecDepth 100000 in
theorem zs_k2 : ∀ i, i < 2 → mm_nth zs_fl (39 + 154 * i) = some (Jvm.Cond.arrayOf (.field (zs_tm i) "java/lang/String" "value" "[B") .byte) := by decide +kernel
set_option maxRecDepth 100000 in
theorem zs_k3 : ∀ i, i < 2 → mm_nth zs_fl (40 + 154 * i) = some (Jvm.Cond.eq (.length (.field (zs_tm i) "java/lang/String" "value" "[B")) (.int (Int32.ofNat (zs_ln.getD i 0)))) := by decide +kernel
set_option maxRecDepth 100000 in
theorem zs_k4 : ∀ i, i < 2 → ∀ j, j < zs_ln.getD i 0 → mm_nth zs_fl (41 + 154 * i + j) = some (Jvm.Cond.eq (.elem (.field (zs_tm i) "java/lang/String" "value" "[B") (.int (Int32.ofNat j))) (.int ((zs_by.getD i []).getD j 0))) := by decide +kernel
set_option maxRecDepth 100000 in
theorem zs_k5 : mm_nth zs_fl 206 = some (Jvm.Cond.not (Jvm.Cond.eq (zs_tm 0) (zs_tm 1))) := by decide +kernel
set_option maxRecDepth 100000 in
theorem zs_k6 : mm_nth zs_fl 4 = some (Jvm.Cond.eq (.static "java/lang/String" "COMPACT_STRINGS" "Z") (.int 1)) := by decide +kernel
set_option maxRecDepth 100000 in
theorem zs_k7 : mm_nth zs_fl 5 = some (Jvm.Cond.isRef (.static "jdk/internal/util/Preconditions" "SIOOBE_FORMATTER" "Ljava/util/function/BiFunction;")) := by decide +kernel
theorem zs_b : ∀ a, a = 1000002 ∨ a = 1000003 → ∀ j, j < mm_sl a → ∃ z, z < 128 ∧ mm_sb a j = nI z := by
  have h1 : ∀ j : Fin 150, (mm_wl.getD j.val 0).toInt.toNat < 128 ∧ mm_wl.getD j.val 0 = nI (mm_wl.getD j.val 0).toInt.toNat := by decide +kernel
  have h2 : ∀ j : Fin 11, (mm_gl.getD j.val 0).toInt.toNat < 128 ∧ mm_gl.getD j.val 0 = nI (mm_gl.getD j.val 0).toInt.toNat := by decide +kernel
  intro a ha j hj
  rcases ha with rfl | rfl
  · exact ⟨_, h1 ⟨j, hj⟩⟩
  · exact ⟨_, h2 ⟨j, hj⟩⟩
theorem zs_start {s : State} {b : Nat} (hts : ∀ w ∈ lw_tbl, w.before #[Value.ref b] s = true) (hgv : (Jvm.Cond.and given_1 narrow_1).before #[Value.ref b] s = true) : ∃ q : Nat → Nat, ∀ a, a = 1000002 ∨ a = 1000003 → mm_Fz s.heap.size a (q a) (mm_sl a) (mm_sb a) s s.heap := by
  have hat : ∀ (k : Nat) (w : Jvm.Cond), mm_nth zs_fl k = some w → w.before #[Value.ref b] s = true := fun k w h => flat_of_before _ hgv w (by rw [mm_nth_eq] at h; exact List.mem_of_getElem? h)
  have hA : ∀ a : Nat, a < s.heap.size → ¬ (fun q : Nat => s.heap.size ≤ q) a := fun a h g => by
    have g : s.heap.size ≤ a := g
    omega
  obtain ⟨adK, adV, ⟨hS, -⟩, hK⟩ := vk_Sof (args := #[Value.ref b]) (s := s) (N := 2) (tm := zs_tm) (len := zs_ln) (byt := zs_by) (A := fun q => s.heap.size ≤ q) (by decide) (fun i hi => hat _ _ (zs_k0 i hi)) (fun i hi => hat _ _ (zs_k1 i hi)) (fun i hi => hat _ _ (zs_k2 i hi)) (fun i hi => hat _ _ (zs_k3 i hi)) (fun i hi j hj => hat _ _ (zs_k4 i hi j hj)) (fun i j hi hj hij => by
      rcases (by omega : (i = 0 ∧ j = 1) ∨ (i = 1 ∧ j = 0)) with ⟨rfl, rfl⟩ | ⟨rfl, rfl⟩
      · exact Or.inl (hat _ _ zs_k5)
      · exact Or.inr (hat _ _ zs_k5)) hA
  have hZ := va_Zof (C := "java/lang/String") (n := "COMPACT_STRINGS") (d := "Z") (v := .int 1) (A := fun q => s.heap.size ≤ q) (hts _ (tm_2 (mm_mem (i := 162) rfl))) (hts _ (tm_1 (mm_mem (i := 10) rfl))) (va_eqt (hat _ _ zs_k6)) hA
  have hG := va_Zqof (C := "jdk/internal/util/Preconditions") (n := "SIOOBE_FORMATTER") (d := "Ljava/util/function/BiFunction;") (A := fun q => s.heap.size ≤ q) (hts _ (tm_2 (mm_mem (i := 178) rfl))) (hts _ (tm_1 (mm_mem (i := 12) rfl))) (hat _ _ zs_k7) hA
  refine ⟨fun a => if a = 1000002 then adK 0 else adK 1, fun a ha => ?_⟩
  rcases ha with rfl | rfl
  · obtain ⟨g1, g2, g3, g4⟩ := hS 0 (by decide)
    exact ⟨vk_R.of (hts (Jvm.Cond.stringRef "SelfSorting$Reader" 93 "book hue creed thick author wet right other ohue ocreed othick oauthor shelf place many law falls swell need night nudge take put dry at on or and not") (tm_2 (mm_mem (i := 152) rfl))) (hK 0 (by decide)), ⟨adV 0, g1, g2, g3, g4, hZ, hG⟩, ⟨by decide, by decide⟩, zs_b _ (Or.inl rfl)⟩
  · obtain ⟨g1, g2, g3, g4⟩ := hS 1 (by decide)
    exact ⟨vk_R.of (hts (Jvm.Cond.stringRef "SelfSorting$Reader" 85 "<>=#+-*/();") (tm_2 (mm_mem (i := 201) rfl))) (hK 1 (by decide)), ⟨adV 1, g1, g2, g3, g4, hZ, hG⟩, ⟨by decide, by decide⟩, zs_b _ (Or.inr rfl)⟩
