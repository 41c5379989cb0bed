/-! The model's words. -/
/-- a token's sort against its kind -/
def tkA (q kd : Int) : Prop := (q = 0 ∧ kd = 43) ∨ (q = 1 ∧ kd = 42) ∨ (q = 2 ∧ ((0 ≤ kd ∧ kd ≤ 28) ∨ kd = 44)) ∨ (q = 3 ∧ kd = 44) ∨ (q = 60 ∧ kd = 29) ∨ (q = 62 ∧ kd = 30) ∨ (q = 61 ∧ kd = 31) ∨ (q = 35 ∧ kd = 32) ∨ (q = 43 ∧ kd = 33) ∨ (q = 45 ∧ kd = 34) ∨ (q = 42 ∧ kd = 35) ∨ (q = 47 ∧ kd = 36) ∨ (q = 40 ∧ kd = 37) ∨ (q = 41 ∧ kd = 38) ∨ (q = 59 ∧ kd = 39) ∨ (q = 4 ∧ kd = 40) ∨ (q = 5 ∧ kd = 41)
theorem tkR_a {q u w kd nm : Int} (h : tkR q u w kd nm) : tkA q kd := by
  unfold tkR at h
  unfold tkA
  rcases h with h | h | h | h | h | h | h | h | h | h | h | h | h | h | h | h | h
  · exact Or.inl h
  · exact Or.inr (Or.inl ⟨h.1, h.2.1⟩)
  · exact Or.inr (Or.inr (Or.inl ⟨h.1, h.2.1⟩))
  · exact Or.inr (Or.inr (Or.inr (Or.inl h)))
  · exact Or.inr (Or.inr (Or.inr (Or.inr (Or.inl h))))
  · exact Or.inr (Or.inr (Or.inr (Or.inr (Or.inr (Or.inl h)))))
  · exact Or.inr (Or.inr (Or.inr (Or.inr (Or.inr (Or.inr (Or.inl h))))))
  · exact Or.inr (Or.inr (Or.inr (Or.inr (Or.inr (Or.inr (Or.inr (Or.inl h)))))))
  · exact Or.inr (Or.inr (Or.inr (Or.inr (Or.inr (Or.inr (Or.inr (Or.inr (Or.inl h))))))))
  · exact Or.inr (Or.inr (Or.inr (Or.inr (Or.inr (Or.inr (Or.inr (Or.inr (Or.inr (Or.inl h)))))))))
  · exact Or.inr (Or.inr (Or.inr (Or.inr (Or.inr (Or.inr (Or.inr (Or.inr (Or.inr (Or.inr (Or.inl h))))))))))
  · exact Or.inr (Or.inr (Or.inr (Or.inr (Or.inr (Or.inr (Or.inr (Or.inr (Or.inr (Or.inr (Or.inr (Or.inl h)))))))))))
  · exact Or.inr (Or.inr (Or.inr (Or.inr (Or.inr (Or.inr (Or.inr (Or.inr (Or.inr (Or.inr (Or.inr (Or.inr (Or.inl h))))))))))))
  · exact Or.inr (Or.inr (Or.inr (Or.inr (Or.inr (Or.inr (Or.inr (Or.inr (Or.inr (Or.inr (Or.inr (Or.inr (Or.inr (Or.inl h)))))))))))))
  · exact Or.inr (Or.inr (Or.inr (Or.inr (Or.inr (Or.inr (Or.inr (Or.inr (Or.inr (Or.inr (Or.inr (Or.inr (Or.inr (Or.inr (Or.inl h))))))))))))))
  · exact Or.inr (Or.inr (Or.inr (Or.inr (Or.inr (Or.inr (Or.inr (Or.inr (Or.inr (Or.inr (Or.inr (Or.inr (Or.inr (Or.inr (Or.inr (Or.inl h)))))))))))))))
  · exact Or.inr (Or.inr (Or.inr (Or.inr (Or.inr (Or.inr (Or.inr (Or.inr (Or.inr (Or.inr (Or.inr (Or.inr (Or.inr (Or.inr (Or.inr (Or.inr (h))))))))))))))))
theorem tkR_n {q u w kd nm : Int} (h : tkR q u w kd nm) (hk : kd = 42) : q = 1 ∧ (0 ≤ u ∧ u ≤ 2000000) ∧ minI u 10000 = nm := by
  unfold tkR at h
  rcases h with h | h | h | h | h | h | h | h | h | h | h | h | h | h | h | h | h
  · exfalso; omega
  · exact ⟨h.1, h.2.2⟩
  · exfalso; obtain ⟨h1, h2, -⟩ := h; omega
  all_goals (exfalso; omega)
theorem tkR_w {q u w kd nm : Int} (h : tkR q u w kd nm) (hq : q = 2) : (0 ≤ w ∧ w < 72057594037927936) ∧ ∀ (j : Nat) (v : List Int), wKW[j]? = some v → (w = wPk v 0 ↔ kd = j) := by
  unfold tkR at h
  rcases h with h | h | h | h | h | h | h | h | h | h | h | h | h | h | h | h | h
  · exfalso; omega
  · exfalso; obtain ⟨h1, -⟩ := h; omega
  · exact h.2.2
  all_goals (exfalso; omega)
theorem tkW_0 {q u w kd nm : Int} (h : tkR q u w kd nm) (hq : q = 2) : w = 1651470187 ↔ kd = 0 := (tkR_w h hq).2 0 _ rfl
theorem tkW_1 {q u w kd nm : Int} (h : tkR q u w kd nm) (hq : q = 2) : w = 6845797 ↔ kd = 1 := (tkR_w h hq).2 1 _ rfl
theorem tkW_2 {q u w kd nm : Int} (h : tkR q u w kd nm) (hq : q = 2) : w = 427121010020 ↔ kd = 2 := (tkR_w h hq).2 2 _ rfl
theorem tkW_3 {q u w kd nm : Int} (h : tkR q u w kd nm) (hq : q = 2) : w = 499967943531 ↔ kd = 3 := (tkR_w h hq).2 3 _ rfl
theorem tkW_4 {q u w kd nm : Int} (h : tkR q u w kd nm) (hq : q = 2) : w = 107157092069234 ↔ kd = 4 := (tkR_w h hq).2 4 _ rfl
theorem tkW_5 {q u w kd nm : Int} (h : tkR q u w kd nm) (hq : q = 2) : w = 7824756 ↔ kd = 5 := (tkR_w h hq).2 5 _ rfl
theorem tkW_6 {q u w kd nm : Int} (h : tkR q u w kd nm) (hq : q = 2) : w = 491394656372 ↔ kd = 6 := (tkR_w h hq).2 6 _ rfl
theorem tkW_7 {q u w kd nm : Int} (h : tkR q u w kd nm) (hq : q = 2) : w = 478694368626 ↔ kd = 7 := (tkR_w h hq).2 7 _ rfl
theorem tkW_8 {q u w kd nm : Int} (h : tkR q u w kd nm) (hq : q = 2) : w = 1869116773 ↔ kd = 8 := (tkR_w h hq).2 8 _ rfl
theorem tkW_9 {q u w kd nm : Int} (h : tkR q u w kd nm) (hq : q = 2) : w = 122472911693156 ↔ kd = 9 := (tkR_w h hq).2 9 _ rfl
theorem tkW_10 {q u w kd nm : Int} (h : tkR q u w kd nm) (hq : q = 2) : w = 122545758626667 ↔ kd = 10 := (tkR_w h hq).2 10 _ rfl
theorem tkW_11 {q u w kd nm : Int} (h : tkR q u w kd nm) (hq : q = 2) : w = 31350879506952050 ↔ kd = 11 := (tkR_w h hq).2 11 _ rfl
theorem tkW_12 {q u w kd nm : Int} (h : tkR q u w kd nm) (hq : q = 2) : w = 495672716390 ↔ kd = 12 := (tkR_w h hq).2 12 _ rfl
theorem tkW_13 {q u w kd nm : Int} (h : tkR q u w kd nm) (hq : q = 2) : w = 482854658917 ↔ kd = 13 := (tkR_w h hq).2 13 _ rfl
theorem tkW_14 {q u w kd nm : Int} (h : tkR q u w kd nm) (hq : q = 2) : w = 1835101817 ↔ kd = 14 := (tkR_w h hq).2 14 _ rfl
theorem tkW_15 {q u w kd nm : Int} (h : tkR q u w kd nm) (hq : q = 2) : w = 7102839 ↔ kd = 15 := (tkR_w h hq).2 15 _ rfl
theorem tkW_16 {q u w kd nm : Int} (h : tkR q u w kd nm) (hq : q = 2) : w = 439721159795 ↔ kd = 16 := (tkR_w h hq).2 16 _ rfl
theorem tkW_17 {q u w kd nm : Int} (h : tkR q u w kd nm) (hq : q = 2) : w = 495924374636 ↔ kd = 17 := (tkR_w h hq).2 17 _ rfl
theorem tkW_18 {q u w kd nm : Int} (h : tkR q u w kd nm) (hq : q = 2) : w = 1852138852 ↔ kd = 18 := (tkR_w h hq).2 18 _ rfl
theorem tkW_19 {q u w kd nm : Int} (h : tkR q u w kd nm) (hq : q = 2) : w = 474214787188 ↔ kd = 19 := (tkR_w h hq).2 19 _ rfl
theorem tkW_20 {q u w kd nm : Int} (h : tkR q u w kd nm) (hq : q = 2) : w = 474415916901 ↔ kd = 20 := (tkR_w h hq).2 20 _ rfl
theorem tkW_21 {q u w kd nm : Int} (h : tkR q u w kd nm) (hq : q = 2) : w = 1952541541 ↔ kd = 21 := (tkR_w h hq).2 21 _ rfl
theorem tkW_22 {q u w kd nm : Int} (h : tkR q u w kd nm) (hq : q = 2) : w = 7370100 ↔ kd = 22 := (tkR_w h hq).2 22 _ rfl
theorem tkW_23 {q u w kd nm : Int} (h : tkR q u w kd nm) (hq : q = 2) : w = 6582905 ↔ kd = 23 := (tkR_w h hq).2 23 _ rfl
theorem tkW_24 {q u w kd nm : Int} (h : tkR q u w kd nm) (hq : q = 2) : w = 24948 ↔ kd = 24 := (tkR_w h hq).2 24 _ rfl
theorem tkW_25 {q u w kd nm : Int} (h : tkR q u w kd nm) (hq : q = 2) : w = 28526 ↔ kd = 25 := (tkR_w h hq).2 25 _ rfl
theorem tkW_26 {q u w kd nm : Int} (h : tkR q u w kd nm) (hq : q = 2) : w = 28530 ↔ kd = 26 := (tkR_w h hq).2 26 _ rfl
theorem tkW_27 {q u w kd nm : Int} (h : tkR q u w kd nm) (hq : q = 2) : w = 6385252 ↔ kd = 27 := (tkR_w h hq).2 27 _ rfl
theorem tkW_28 {q u w kd nm : Int} (h : tkR q u w kd nm) (hq : q = 2) : w = 7237492 ↔ kd = 28 := (tkR_w h hq).2 28 _ rfl
theorem sp_167 {d L t : Nat} {s l : Nat → Int → Int} {a9 b9 c9 : Int} (ha9 : (0 ≤ a9 ∧ a9 < 256)) (hb9 : (0 ≤ b9 ∧ b9 < 256)) (hc9 : (0 ≤ c9 ∧ c9 < 256)) : mm_Ev mm_ct mm_CM (d + 1) 167 [.int (iI a9), .int (iI b9), .int (iI c9)] (MX L t s l) (some (.long (lI (256 * (256 * a9 + b9) + c9))), MX L t s l) := by
  have hc : (mm_CM 167).2.2.2.2.2.2.2 = mm_cf cd_167 := by rw [cm_167]; rfl
  refine ev_of (mx := 3) (by rw [cm_167]; decide) (by rw [cm_167]; rfl) (by show 3 ≤ _; decide) ?_
  show mm_wp _ _ (0, [some (.int (iI a9)), some (.int (iI b9)), some (.int (iI c9))], [], MX L t s l) (fun r => r = (some (.long (lI (256 * (256 * a9 + b9) + c9))), MX L t s l))
  refine wi_i1 hc rfl rfl ?_
  refine wl_i2l hc rfl ⟨by omega, by omega⟩ ?_
  refine wi_bi hc rfl rfl ?_
  refine wl_shl 256 rfl hc rfl (by omega) (by omega) ?_
  refine wi_i1 hc rfl rfl ?_
  refine wl_i2l hc rfl ⟨by omega, by omega⟩ ?_
  refine wl_or hc rfl (by omega) (by omega) ?_
  rw [orI_8 (by omega) (by omega) (by omega)]
  refine wi_bi hc rfl rfl ?_
  refine wl_shl 256 rfl hc rfl (by omega) (by omega) ?_
  refine wi_i1 hc rfl rfl ?_
  refine wl_i2l hc rfl ⟨by omega, by omega⟩ ?_
  refine wl_or hc rfl (by omega) (by omega) ?_
  rw [orI_8 (by omega) (by omega) (by omega)]
  refine wi_rl hc rfl (by rw [cm_167]; rfl) ?_
  rfl
theorem sp_169 {d L t : Nat} {s l : Nat → Int → Int} {a9 b9 c9 d9 : Int} (ha9 : (0 ≤ a9 ∧ a9 < 256)) (hb9 : (0 ≤ b9 ∧ b9 < 256)) (hc9 : (0 ≤ c9 ∧ c9 < 256)) (hd9 : (0 ≤ d9 ∧ d9 < 256)) : mm_Ev mm_ct mm_CM (d + 2) 169 [.int (iI a9), .int (iI b9), .int (iI c9), .int (iI d9)] (MX L t s l) (some (.long (lI (256 * (256 * (256 * a9 + b9) + c9) + d9))), MX L t s l) := by
  have hc : (mm_CM 169).2.2.2.2.2.2.2 = mm_cf cd_169 := by rw [cm_169]; rfl
  refine ev_of (mx := 4) (by rw [cm_169]; decide) (by rw [cm_169]; rfl) (by show 4 ≤ _; decide) ?_
  show mm_wp _ _ (0, [some (.int (iI a9)), some (.int (iI b9)), some (.int (iI c9)), some (.int (iI d9))], [], MX L t s l) (fun r => r = (some (.long (lI (256 * (256 * (256 * a9 + b9) + c9) + d9))), MX L t s l))
  refine wi_i1 hc rfl rfl ?_
  refine wi_i1 hc rfl rfl ?_
  refine wi_i1 hc rfl rfl ?_
  refine wp_cs (As := [.int (iI a9), .int (iI b9), .int (iI c9)]) (r := []) hc rfl (by rw [cm_167]; rfl) rfl (Nat.le_of_ble_eq_true rfl) (ev_mono (sp_167 (d := 0) ⟨by omega, by omega⟩ ⟨by omega, by omega⟩ ⟨by omega, by omega⟩) (by omega)) ?_
  show mm_wp _ _ (6, [some (.int (iI a9)), some (.int (iI b9)), some (.int (iI c9)), some (.int (iI d9))], [.long (lI (256 * (256 * a9 + b9) + c9))], MX L t s l) _
  refine wi_bi hc rfl rfl ?_
  refine wl_shl 256 rfl hc rfl (by omega) (by omega) ?_
  refine wi_i1 hc rfl rfl ?_
  refine wl_i2l hc rfl ⟨by omega, by omega⟩ ?_
  refine wl_or hc rfl (by omega) (by omega) ?_
  rw [orI_8 (by omega) (by omega) (by omega)]
  refine wi_rl hc rfl (by rw [cm_169]; rfl) ?_
  rfl
theorem sp_168 {d L t : Nat} {s l : Nat → Int → Int} {a9 b9 c9 d9 e9 : Int} (ha9 : (0 ≤ a9 ∧ a9 < 256)) (hb9 : (0 ≤ b9 ∧ b9 < 256)) (hc9 : (0 ≤ c9 ∧ c9 < 256)) (hd9 : (0 ≤ d9 ∧ d9 < 256)) (he9 : (0 ≤ e9 ∧ e9 < 256)) : mm_Ev mm_ct mm_CM (d + 2) 168 [.int (iI a9), .int (iI b9), .int (iI c9), .int (iI d9), .int (iI e9)] (MX L t s l) (some (.long (lI (256 * (256 * (256 * (256 * a9 + b9) + c9) + d9) + e9))), MX L t s l) := by
  have hc : (mm_CM 168).2.2.2.2.2.2.2 = mm_cf cd_168 := by rw [cm_168]; rfl
  refine ev_of (mx := 5) (by rw [cm_168]; decide) (by rw [cm_168]; rfl) (by show 5 ≤ _; decide) ?_
  show mm_wp _ _ (0, [some (.int (iI a9)), some (.int (iI b9)), some (.int (iI c9)), some (.int (iI d9)), some (.int (iI e9))], [], MX L t s l) (fun r => r = (some (.long (lI (256 * (256 * (256 * (256 * a9 + b9) + c9) + d9) + e9))), MX L t s l))
  refine wi_i1 hc rfl rfl ?_
  refine wi_i1 hc rfl rfl ?_
  refine wi_i1 hc rfl rfl ?_
  refine wp_cs (As := [.int (iI a9), .int (iI b9), .int (iI c9)]) (r := []) hc rfl (by rw [cm_167]; rfl) rfl (Nat.le_of_ble_eq_true rfl) (ev_mono (sp_167 (d := 0) ⟨by omega, by omega⟩ ⟨by omega, by omega⟩ ⟨by omega, by omega⟩) (by omega)) ?_
  show mm_wp _ _ (6, [some (.int (iI a9)), some (.int (iI b9)), some (.int (iI c9)), some (.int (iI d9)), some (.int (iI e9))], [.long (lI (256 * (256 * a9 + b9) + c9))], MX L t s l) _
  refine wi_bi hc rfl rfl ?_
  refine wl_shl 256 rfl hc rfl (by omega) (by omega) ?_
  refine wi_i1 hc rfl rfl ?_
  refine wl_i2l hc rfl ⟨by omega, by omega⟩ ?_
  refine wl_or hc rfl (by omega) (by omega) ?_
  rw [orI_8 (by omega) (by omega) (by omega)]
  refine wi_bi hc rfl rfl ?_
  refine wl_shl 256 rfl hc rfl (by omega) (by omega) ?_
  refine wi_i2 hc rfl rfl ?_
  refine wl_i2l hc rfl ⟨by omega, by omega⟩ ?_
  refine wl_or hc rfl (by omega) (by omega) ?_
  rw [orI_8 (by omega) (by omega) (by omega)]
  refine wi_rl hc rfl (by rw [cm_168]; rfl) ?_
  rfl
theorem sp_170 {d L t : Nat} {s l : Nat → Int → Int} {a9 b9 c9 d9 e9 g9 : Int} (ha9 : (0 ≤ a9 ∧ a9 < 256)) (hb9 : (0 ≤ b9 ∧ b9 < 256)) (hc9 : (0 ≤ c9 ∧ c9 < 256)) (hd9 : (0 ≤ d9 ∧ d9 < 256)) (he9 : (0 ≤ e9 ∧ e9 < 256)) (hg9 : (0 ≤ g9 ∧ g9 < 256)) : mm_Ev mm_ct mm_CM (d + 3) 170 [.int (iI a9), .int (iI b9), .int (iI c9), .int (iI d9), .int (iI e9), .int (iI g9)] (MX L t s l) (some (.long (lI (256 * (256 * (256 * (256 * (256 * a9 + b9) + c9) + d9) + e9) + g9))), MX L t s l) := by
  have hc : (mm_CM 170).2.2.2.2.2.2.2 = mm_cf cd_170 := by rw [cm_170]; rfl
  refine ev_of (mx := 6) (by rw [cm_170]; decide) (by rw [cm_170]; rfl) (by show 6 ≤ _; decide) ?_
  show mm_wp _ _ (0, [some (.int (iI a9)), some (.int (iI b9)), some (.int (iI c9)), some (.int (iI d9)), some (.int (iI e9)), some (.int (iI g9))], [], MX L t s l) (fun r => r = (some (.long (lI (256 * (256 * (256 * (256 * (256 * a9 + b9) + c9) + d9) + e9) + g9))), MX L t s l))
  refine wi_i1 hc rfl rfl ?_
  refine wi_i1 hc rfl rfl ?_
  refine wi_i1 hc rfl rfl ?_
  refine wi_i1 hc rfl rfl ?_
  refine wi_i2 hc rfl rfl ?_
  refine wp_cs (As := [.int (iI a9), .int (iI b9), .int (iI c9), .int (iI d9), .int (iI e9)]) (r := []) hc rfl (by rw [cm_168]; rfl) rfl (Nat.le_of_ble_eq_true rfl) (ev_mono (sp_168 (d := 0) ⟨by omega, by omega⟩ ⟨by omega, by omega⟩ ⟨by omega, by omega⟩ ⟨by omega, by omega⟩ ⟨by omega, by omega⟩) (by omega)) ?_
  show mm_wp _ _ (9, [some (.int (iI a9)), some (.int (iI b9)), some (.int (iI c9)), some (.int (iI d9)), some (.int (iI e9)), some (.int (iI g9))], [.long (lI (256 * (256 * (256 * (256 * a9 + b9) + c9) + d9) + e9))], MX L t s l) _
  refine wi_bi hc rfl rfl ?_
  refine wl_shl 256 rfl hc rfl (by omega) (by omega) ?_
  refine wi_i2 hc rfl rfl ?_
  refine wl_i2l hc rfl ⟨by omega, by omega⟩ ?_
  refine wl_or hc rfl (by omega) (by omega) ?_
  rw [orI_8 (by omega) (by omega) (by omega)]
  refine wi_rl hc rfl (by rw [cm_170]; rfl) ?_
  rfl
theorem sp_171 {d L t : Nat} {s l : Nat → Int → Int} {q9 u9 w9 kd9 nm9 : Int} (hk9 : tkR q9 u9 w9 kd9 nm9) (hq9 : s 598 9 = q9) (hw9 : l 598 11 = w9) {v9 : Int} (hv9 : 0 ≤ v9 ∧ v9 < 72057594037927936) : mm_Ev mm_ct mm_CM (d + 1) 171 [.ref 598, .long (lI v9)] (MX L t s l) (some (.int (iI (bI (q9 = 2 ∧ w9 = v9)))), MX L t s l) := by
  have hc : (mm_CM 171).2.2.2.2.2.2.2 = mm_cf cd_171 := by rw [cm_171]; rfl
  refine ev_of (mx := 3) (by rw [cm_171]; decide) (by rw [cm_171]; rfl) (by show 3 ≤ _; decide) ?_
  show mm_wp _ _ (0, [some (.ref 598), some (.long (lI v9)), none], [], MX L t s l) (fun r => r = (some (.int (iI (bI (q9 = 2 ∧ w9 = v9)))), MX L t s l))
  have ha9 := tkR_a hk9
  unfold tkA at ha9
  refine wi_a1 hc rfl rfl ?_
  refine wi_gfv (kz := 9) rfl hc rfl rfl (by decide) (Nat.le_of_ble_eq_true rfl) rfl (v := q9) (hq9) ?_
  refine wi_ic hc rfl ?_
  refine wi_cne hc rfl ⟨by omega, by omega⟩ ⟨by decide, by decide⟩ (fun h1_ => ?_) (fun h1_ => ?_)
  · refine wi_ic hc rfl ?_
    refine wi_r0 hc rfl (by rw [cm_171]; rfl) ?_
    rw [bI_f (p := q9 = 2 ∧ w9 = v9) (by omega)]
  · have hwr9 := (tkR_w hk9 (by omega)).1
    refine wi_a1 hc rfl rfl ?_
    refine wi_glv (kz := 11) rfl hc rfl rfl (by decide) (Nat.le_of_ble_eq_true rfl) rfl (v := w9) (hw9) ?_
    refine wi_l1 hc rfl rfl ?_
    have h2_ := cmpI_spec w9 v9
    refine wl_cmp hc rfl ⟨by omega, by omega⟩ ⟨by omega, by omega⟩ ?_
    refine wi_zne hc rfl (cmpI_r _ _) (fun h3_ => ?_) (fun h3_ => ?_)
    · refine wi_ic hc rfl ?_
      refine wi_r0 hc rfl (by rw [cm_171]; rfl) ?_
      rw [bI_f (p := q9 = 2 ∧ w9 = v9) (by omega)]
    · refine wi_ic hc rfl ?_
      refine wi_go hc rfl ?_
      refine wi_r1 hc rfl (by rw [cm_171]; rfl) ?_
      rw [bI_t (p := q9 = 2 ∧ w9 = v9) (by omega)]
theorem sp_176 {d L t : Nat} {s l : Nat → Int → Int} {q9 u9 w9 kd9 nm9 : Int} (hk9 : tkR q9 u9 w9 kd9 nm9) (hq9 : s 598 9 = q9) (hw9 : l 598 11 = w9) (h2q : q9 = 2) : mm_Ev mm_ct mm_CM (d + 4) 176 [.ref 598] (MX L t s l) (some (.int (iI (if 0 ≤ kd9 ∧ kd9 ≤ 7 then kd9 else -1))), MX L t s l) := by
  have hc : (mm_CM 176).2.2.2.2.2.2.2 = mm_cf cd_176 := by rw [cm_176]; rfl
  refine ev_of (mx := 1) (by rw [cm_176]; decide) (by rw [cm_176]; rfl) (by show 1 ≤ _; decide) ?_
  show mm_wp _ _ (0, [some (.ref 598)], [], MX L t s l) (fun r => r = (some (.int (iI (if 0 ≤ kd9 ∧ kd9 ≤ 7 then kd9 else -1))), MX L t s l))
  have ha9 := tkR_a hk9
  unfold tkA at ha9
  have hwr9 := (tkR_w hk9 h2q).1
  refine wi_a1 hc rfl rfl ?_
  refine wi_glv (kz := 11) rfl hc rfl rfl (by decide) (Nat.le_of_ble_eq_true rfl) rfl (v := w9) (hw9) ?_
  refine wi_bi hc rfl rfl ?_
  refine wi_bi hc rfl rfl ?_
  refine wi_bi hc rfl rfl ?_
  refine wi_bi hc rfl rfl ?_
  have hc1 : mm_Ev mm_ct mm_CM (0 + 2) 169 [.int (iI 98), .int (iI 111), .int (iI 111), .int (iI 107)] (MX L t s l) (some (.long (lI 1651470187)), MX L t s l) := sp_169 (d := 0) ⟨by decide, by decide⟩ ⟨by decide, by decide⟩ ⟨by decide, by decide⟩ ⟨by decide, by decide⟩
  refine wp_cs (As := [.int (iI 98), .int (iI 111), .int (iI 111), .int (iI 107)]) (r := [.long (lI w9)]) hc rfl (by rw [cm_169]; rfl) rfl (Nat.le_of_ble_eq_true rfl) (ev_mono (hc1) (by omega)) ?_
  show mm_wp _ _ (15, [some (.ref 598)], [.long (lI 1651470187), .long (lI w9)], MX L t s l) _
  have h1_ := cmpI_spec w9 1651470187
  refine wl_cmp hc rfl ⟨by omega, by omega⟩ ⟨by decide, by decide⟩ ?_
  refine wi_zne hc rfl (cmpI_r _ _) (fun h2_ => ?_) (fun h2_ => ?_)
  · refine wi_a1 hc rfl rfl ?_
    refine wi_glv (kz := 11) rfl hc rfl rfl (by decide) (Nat.le_of_ble_eq_true rfl) rfl (v := w9) (hw9) ?_
    refine wi_bi hc rfl rfl ?_
    refine wi_bi hc rfl rfl ?_
    refine wi_bi hc rfl rfl ?_
    have hc2 : mm_Ev mm_ct mm_CM (0 + 1) 167 [.int (iI 104), .int (iI 117), .int (iI 101)] (MX L t s l) (some (.long (lI 6845797)), MX L t s l) := sp_167 (d := 0) ⟨by decide, by decide⟩ ⟨by decide, by decide⟩ ⟨by decide, by decide⟩
    refine wp_cs (As := [.int (iI 104), .int (iI 117), .int (iI 101)]) (r := [.long (lI w9)]) hc rfl (by rw [cm_167]; rfl) rfl (Nat.le_of_ble_eq_true rfl) (ev_mono (hc2) (by omega)) ?_
    show mm_wp _ _ (34, [some (.ref 598)], [.long (lI 6845797), .long (lI w9)], MX L t s l) _
    have h3_ := cmpI_spec w9 6845797
    refine wl_cmp hc rfl ⟨by omega, by omega⟩ ⟨by decide, by decide⟩ ?_
    refine wi_zne hc rfl (cmpI_r _ _) (fun h4_ => ?_) (fun h4_ => ?_)
    · refine wi_a1 hc rfl rfl ?_
      refine wi_glv (kz := 11) rfl hc rfl rfl (by decide) (Nat.le_of_ble_eq_true rfl) rfl (v := w9) (hw9) ?_
      refine wi_bi hc rfl rfl ?_
      refine wi_bi hc rfl rfl ?_
      refine wi_bi hc rfl rfl ?_
      refine wi_bi hc rfl rfl ?_
      refine wi_bi hc rfl rfl ?_
      have hc3 : mm_Ev mm_ct mm_CM (0 + 2) 168 [.int (iI 99), .int (iI 114), .int (iI 101), .int (iI 101), .int (iI 100)] (MX L t s l) (some (.long (lI 427121010020)), MX L t s l) := sp_168 (d := 0) ⟨by decide, by decide⟩ ⟨by decide, by decide⟩ ⟨by decide, by decide⟩ ⟨by decide, by decide⟩ ⟨by decide, by decide⟩
      refine wp_cs (As := [.int (iI 99), .int (iI 114), .int (iI 101), .int (iI 101), .int (iI 100)]) (r := [.long (lI w9)]) hc rfl (by rw [cm_168]; rfl) rfl (Nat.le_of_ble_eq_true rfl) (ev_mono (hc3) (by omega)) ?_
      show mm_wp _ _ (57, [some (.ref 598)], [.long (lI 427121010020), .long (lI w9)], MX L t s l) _
      have h5_ := cmpI_spec w9 427121010020
      refine wl_cmp hc rfl ⟨by omega, by omega⟩ ⟨by decide, by decide⟩ ?_
      refine wi_zne hc rfl (cmpI_r _ _) (fun h6_ => ?_) (fun h6_ => ?_)
      · refine wi_a1 hc rfl rfl ?_
        refine wi_glv (kz := 11) rfl hc rfl rfl (by decide) (Nat.le_of_ble_eq_true rfl) rfl (v := w9) (hw9) ?_
        refine wi_bi hc rfl rfl ?_
        refine wi_bi hc rfl rfl ?_
        refine wi_bi hc rfl rfl ?_
        refine wi_bi hc rfl rfl ?_
        refine wi_bi hc rfl rfl ?_
        have hc4 : mm_Ev mm_ct mm_CM (0 + 2) 168 [.int (iI 116), .int (iI 104), .int (iI 105), .int (iI 99), .int (iI 107)] (MX L t s l) (some (.long (lI 499967943531)), MX L t s l) := sp_168 (d := 0) ⟨by decide, by decide⟩ ⟨by decide, by decide⟩ ⟨by decide, by decide⟩ ⟨by decide, by decide⟩ ⟨by decide, by decide⟩
        refine wp_cs (As := [.int (iI 116), .int (iI 104), .int (iI 105), .int (iI 99), .int (iI 107)]) (r := [.long (lI w9)]) hc rfl (by rw [cm_168]; rfl) rfl (Nat.le_of_ble_eq_true rfl) (ev_mono (hc4) (by omega)) ?_
        show mm_wp _ _ (80, [some (.ref 598)], [.long (lI 499967943531), .long (lI w9)], MX L t s l) _
        have h7_ := cmpI_spec w9 499967943531
        refine wl_cmp hc rfl ⟨by omega, by omega⟩ ⟨by decide, by decide⟩ ?_
        refine wi_zne hc rfl (cmpI_r _ _) (fun h8_ => ?_) (fun h8_ => ?_)
        · refine wi_a1 hc rfl rfl ?_
          refine wi_glv (kz := 11) rfl hc rfl rfl (by decide) (Nat.le_of_ble_eq_true rfl) rfl (v := w9) (hw9) ?_
          refine wi_bi hc rfl rfl ?_
          refine wi_bi hc rfl rfl ?_
          refine wi_bi hc rfl rfl ?_
          refine wi_bi hc rfl rfl ?_
          refine wi_bi hc rfl rfl ?_
          refine wi_bi hc rfl rfl ?_
          have hc5 : mm_Ev mm_ct mm_CM (0 + 3) 170 [.int (iI 97), .int (iI 117), .int (iI 116), .int (iI 104), .int (iI 111), .int (iI 114)] (MX L t s l) (some (.long (lI 107157092069234)), MX L t s l) := sp_170 (d := 0) ⟨by decide, by decide⟩ ⟨by decide, by decide⟩ ⟨by decide, by decide⟩ ⟨by decide, by decide⟩ ⟨by decide, by decide⟩ ⟨by decide, by decide⟩
          refine wp_cs (As := [.int (iI 97), .int (iI 117), .int (iI 116), .int (iI 104), .int (iI 111), .int (iI 114)]) (r := [.long (lI w9)]) hc rfl (by rw [cm_170]; rfl) rfl (Nat.le_of_ble_eq_true rfl) (ev_mono (hc5) (by omega)) ?_
          show mm_wp _ _ (105, [some (.ref 598)], [.long (lI 107157092069234), .long (lI w9)], MX L t s l) _
          have h9_ := cmpI_spec w9 107157092069234
          refine wl_cmp hc rfl ⟨by omega, by omega⟩ ⟨by decide, by decide⟩ ?_
          refine wi_zne hc rfl (cmpI_r _ _) (fun h10_ => ?_) (fun h10_ => ?_)
          · refine wi_a1 hc rfl rfl ?_
            refine wi_glv (kz := 11) rfl hc rfl rfl (by decide) (Nat.le_of_ble_eq_true rfl) rfl (v := w9) (hw9) ?_
            refine wi_bi hc rfl rfl ?_
            refine wi_bi hc rfl rfl ?_
            refine wi_bi hc rfl rfl ?_
            have hc6 : mm_Ev mm_ct mm_CM (0 + 1) 167 [.int (iI 119), .int (iI 101), .int (iI 116)] (MX L t s l) (some (.long (lI 7824756)), MX L t s l) := sp_167 (d := 0) ⟨by decide, by decide⟩ ⟨by decide, by decide⟩ ⟨by decide, by decide⟩
            refine wp_cs (As := [.int (iI 119), .int (iI 101), .int (iI 116)]) (r := [.long (lI w9)]) hc rfl (by rw [cm_167]; rfl) rfl (Nat.le_of_ble_eq_true rfl) (ev_mono (hc6) (by omega)) ?_
            show mm_wp _ _ (124, [some (.ref 598)], [.long (lI 7824756), .long (lI w9)], MX L t s l) _
            have h11_ := cmpI_spec w9 7824756
            refine wl_cmp hc rfl ⟨by omega, by omega⟩ ⟨by decide, by decide⟩ ?_
            refine wi_zne hc rfl (cmpI_r _ _) (fun h12_ => ?_) (fun h12_ => ?_)
            · refine wi_a1 hc rfl rfl ?_
              refine wi_glv (kz := 11) rfl hc rfl rfl (by decide) (Nat.le_of_ble_eq_true rfl) rfl (v := w9) (hw9) ?_
              refine wi_bi hc rfl rfl ?_
              refine wi_bi hc rfl rfl ?_
              refine wi_bi hc rfl rfl ?_
              refine wi_bi hc rfl rfl ?_
              refine wi_bi hc rfl rfl ?_
              have hc7 : mm_Ev mm_ct mm_CM (0 + 2) 168 [.int (iI 114), .int (iI 105), .int (iI 103), .int (iI 104), .int (iI 116)] (MX L t s l) (some (.long (lI 491394656372)), MX L t s l) := sp_168 (d := 0) ⟨by decide, by decide⟩ ⟨by decide, by decide⟩ ⟨by decide, by decide⟩ ⟨by decide, by decide⟩ ⟨by decide, by decide⟩
              refine wp_cs (As := [.int (iI 114), .int (iI 105), .int (iI 103), .int (iI 104), .int (iI 116)]) (r := [.long (lI w9)]) hc rfl (by rw [cm_168]; rfl) rfl (Nat.le_of_ble_eq_true rfl) (ev_mono (hc7) (by omega)) ?_
              show mm_wp _ _ (149, [some (.ref 598)], [.long (lI 491394656372), .long (lI w9)], MX L t s l) _
              have h13_ := cmpI_spec w9 491394656372
              refine wl_cmp hc rfl ⟨by omega, by omega⟩ ⟨by decide, by decide⟩ ?_
              refine wi_zne hc rfl (cmpI_r _ _) (fun h14_ => ?_) (fun h14_ => ?_)
              · refine wi_a1 hc rfl rfl ?_
                refine wi_glv (kz := 11) rfl hc rfl rfl (by decide) (Nat.le_of_ble_eq_true rfl) rfl (v := w9) (hw9) ?_
                refine wi_bi hc rfl rfl ?_
                refine wi_bi hc rfl rfl ?_
                refine wi_bi hc rfl rfl ?_
                refine wi_bi hc rfl rfl ?_
                refine wi_bi hc rfl rfl ?_
                have hc8 : mm_Ev mm_ct mm_CM (0 + 2) 168 [.int (iI 111), .int (iI 116), .int (iI 104), .int (iI 101), .int (iI 114)] (MX L t s l) (some (.long (lI 478694368626)), MX L t s l) := sp_168 (d := 0) ⟨by decide, by decide⟩ ⟨by decide, by decide⟩ ⟨by decide, by decide⟩ ⟨by decide, by decide⟩ ⟨by decide, by decide⟩
                refine wp_cs (As := [.int (iI 111), .int (iI 116), .int (iI 104), .int (iI 101), .int (iI 114)]) (r := [.long (lI w9)]) hc rfl (by rw [cm_168]; rfl) rfl (Nat.le_of_ble_eq_true rfl) (ev_mono (hc8) (by omega)) ?_
                show mm_wp _ _ (175, [some (.ref 598)], [.long (lI 478694368626), .long (lI w9)], MX L t s l) _
                have h15_ := cmpI_spec w9 478694368626
                refine wl_cmp hc rfl ⟨by omega, by omega⟩ ⟨by decide, by decide⟩ ?_
                refine wi_zne hc rfl (cmpI_r _ _) (fun h16_ => ?_) (fun h16_ => ?_)
                · refine wi_ic hc rfl ?_
                  refine wi_ri hc rfl (by rw [cm_176]; rfl) ?_
                  have hR : (if 0 ≤ kd9 ∧ kd9 ≤ 7 then kd9 else -1) = -1 := by
                    have g0 : kd9 ≠ 0 := fun e => absurd ((tkW_0 hk9 (by omega)).mpr e) (by omega)
                    have g1 : kd9 ≠ 1 := fun e => absurd ((tkW_1 hk9 (by omega)).mpr e) (by omega)
                    have g2 : kd9 ≠ 2 := fun e => absurd ((tkW_2 hk9 (by omega)).mpr e) (by omega)
                    have g3 : kd9 ≠ 3 := fun e => absurd ((tkW_3 hk9 (by omega)).mpr e) (by omega)
                    have g4 : kd9 ≠ 4 := fun e => absurd ((tkW_4 hk9 (by omega)).mpr e) (by omega)
                    have g5 : kd9 ≠ 5 := fun e => absurd ((tkW_5 hk9 (by omega)).mpr e) (by omega)
                    have g6 : kd9 ≠ 6 := fun e => absurd ((tkW_6 hk9 (by omega)).mpr e) (by omega)
                    have g7 : kd9 ≠ 7 := fun e => absurd ((tkW_7 hk9 (by omega)).mpr e) (by omega)
                    rw [if_neg (by omega)]
                  rw [hR]
                · refine wi_bi hc rfl rfl ?_
                  refine wi_go hc rfl ?_
                  refine wi_ri hc rfl (by rw [cm_176]; rfl) ?_
                  have g : kd9 = 7 := (tkW_7 hk9 (by omega)).mp (by omega)
                  have hR : (if 0 ≤ kd9 ∧ kd9 ≤ 7 then kd9 else -1) = 7 := by rw [if_pos (by omega)]; exact g
                  rw [hR]
              · refine wi_bi hc rfl rfl ?_
                refine wi_go hc rfl ?_
                refine wi_ri hc rfl (by rw [cm_176]; rfl) ?_
                have g : kd9 = 6 := (tkW_6 hk9 (by omega)).mp (by omega)
                have hR : (if 0 ≤ kd9 ∧ kd9 ≤ 7 then kd9 else -1) = 6 := by rw [if_pos (by omega)]; exact g
                rw [hR]
            · refine wi_ic hc rfl ?_
              refine wi_go hc rfl ?_
              refine wi_ri hc rfl (by rw [cm_176]; rfl) ?_
              have g : kd9 = 5 := (tkW_5 hk9 (by omega)).mp (by omega)
              have hR : (if 0 ≤ kd9 ∧ kd9 ≤ 7 then kd9 else -1) = 5 := by rw [if_pos (by omega)]; exact g
              rw [hR]
          · refine wi_ic hc rfl ?_
            refine wi_ri hc rfl (by rw [cm_176]; rfl) ?_
            have g : kd9 = 4 := (tkW_4 hk9 (by omega)).mp (by omega)
            have hR : (if 0 ≤ kd9 ∧ kd9 ≤ 7 then kd9 else -1) = 4 := by rw [if_pos (by omega)]; exact g
            rw [hR]
        · refine wi_ic hc rfl ?_
          refine wi_ri hc rfl (by rw [cm_176]; rfl) ?_
          have g : kd9 = 3 := (tkW_3 hk9 (by omega)).mp (by omega)
          have hR : (if 0 ≤ kd9 ∧ kd9 ≤ 7 then kd9 else -1) = 3 := by rw [if_pos (by omega)]; exact g
          rw [hR]
      · refine wi_ic hc rfl ?_
        refine wi_ri hc rfl (by rw [cm_176]; rfl) ?_
        have g : kd9 = 2 := (tkW_2 hk9 (by omega)).mp (by omega)
        have hR : (if 0 ≤ kd9 ∧ kd9 ≤ 7 then kd9 else -1) = 2 := by rw [if_pos (by omega)]; exact g
        rw [hR]
    · refine wi_ic hc rfl ?_
      refine wi_ri hc rfl (by rw [cm_176]; rfl) ?_
      have g : kd9 = 1 := (tkW_1 hk9 (by omega)).mp (by omega)
      have hR : (if 0 ≤ kd9 ∧ kd9 ≤ 7 then kd9 else -1) = 1 := by rw [if_pos (by omega)]; exact g
      rw [hR]
  · refine wi_ic hc rfl ?_
    refine wi_ri hc rfl (by rw [cm_176]; rfl) ?_
    have g : kd9 = 0 := (tkW_0 hk9 (by omega)).mp (by omega)
    have hR : (if 0 ≤ kd9 ∧ kd9 ≤ 7 then kd9 else -1) = 0 := by rw [if_pos (by omega)]; exact g
    rw [hR]
def nmO (kd9 : Int) : Int := if 0 ≤ kd9 ∧ kd9 ≤ 14 then kd9 else -1
def nm7 (kd9 : Int) : Int := if 0 ≤ kd9 ∧ kd9 ≤ 7 then kd9 else -1
theorem nm7_s (x : Int) : (0 ≤ x ∧ x ≤ 7 ∧ nm7 x = x) ∨ (¬ (0 ≤ x ∧ x ≤ 7) ∧ nm7 x = -1) := by
  unfold nm7
  split <;> omega
theorem nmO_s (x : Int) : (0 ≤ x ∧ x ≤ 14 ∧ nmO x = x) ∨ (¬ (0 ≤ x ∧ x ≤ 14) ∧ nmO x = -1) := by
  unfold nmO
  split <;> omega
theorem sp_177 {d L t : Nat} {s l : Nat → Int → Int} {q9 u9 w9 kd9 nm9 : Int} (hk9 : tkR q9 u9 w9 kd9 nm9) (hq9 : s 598 9 = q9) (hw9 : l 598 11 = w9) : mm_Ev mm_ct mm_CM (d + 5) 177 [.ref 598] (MX L t s l) (some (.int (iI (nmO kd9))), MX L t s l) := by
  have hc : (mm_CM 177).2.2.2.2.2.2.2 = mm_cf cd_177 := by rw [cm_177]; rfl
  refine ev_of (mx := 1) (by rw [cm_177]; decide) (by rw [cm_177]; rfl) (by show 1 ≤ _; decide) ?_
  show mm_wp _ _ (0, [some (.ref 598)], [], MX L t s l) (fun r => r = (some (.int (iI (nmO kd9))), MX L t s l))
  have ha9 := tkR_a hk9
  unfold tkA at ha9
  have h7s := nm7_s kd9
  refine wi_a1 hc rfl rfl ?_
  refine wi_gfv (kz := 9) rfl hc rfl rfl (by decide) (Nat.le_of_ble_eq_true rfl) rfl (v := q9) (hq9) ?_
  refine wi_ic hc rfl ?_
  refine wi_ceq hc rfl ⟨by omega, by omega⟩ ⟨by decide, by decide⟩ (fun h1_ => ?_) (fun h1_ => ?_)
  · have hwr9 := (tkR_w hk9 (by omega)).1
    refine wi_a1 hc rfl rfl ?_
    refine wp_cv (b := 598) (As := []) (r := []) hc rfl (by rw [cm_176]; rfl) rfl (Nat.le_of_ble_eq_true rfl) (show 598 < 621 by decide) (by rw [cm_176]; rfl) (ev_mono (sp_176 (d := 0) hk9 hq9 hw9 (by omega)) (by omega)) ?_
    show mm_wp _ _ (14, [some (.ref 598)], [.int (iI (nm7 kd9))], MX L t s l) _
    refine wi_zlt hc rfl ⟨by omega, by omega⟩ (fun h2_ => ?_) (fun h2_ => ?_)
    · refine wi_a1 hc rfl rfl ?_
      refine wi_glv (kz := 11) rfl hc rfl rfl (by decide) (Nat.le_of_ble_eq_true rfl) rfl (v := w9) (hw9) ?_
      refine wi_bi hc rfl rfl ?_
      refine wi_bi hc rfl rfl ?_
      refine wi_bi hc rfl rfl ?_
      refine wi_bi hc rfl rfl ?_
      have hc1 : mm_Ev mm_ct mm_CM (0 + 2) 169 [.int (iI 111), .int (iI 104), .int (iI 117), .int (iI 101)] (MX L t s l) (some (.long (lI 1869116773)), MX L t s l) := sp_169 (d := 0) ⟨by decide, by decide⟩ ⟨by decide, by decide⟩ ⟨by decide, by decide⟩ ⟨by decide, by decide⟩
      refine wp_cs (As := [.int (iI 111), .int (iI 104), .int (iI 117), .int (iI 101)]) (r := [.long (lI w9)]) hc rfl (by rw [cm_169]; rfl) rfl (Nat.le_of_ble_eq_true rfl) (ev_mono (hc1) (by omega)) ?_
      show mm_wp _ _ (37, [some (.ref 598)], [.long (lI 1869116773), .long (lI w9)], MX L t s l) _
      have h3_ := cmpI_spec w9 1869116773
      refine wl_cmp hc rfl ⟨by omega, by omega⟩ ⟨by decide, by decide⟩ ?_
      refine wi_zne hc rfl (cmpI_r _ _) (fun h4_ => ?_) (fun h4_ => ?_)
      · refine wi_a1 hc rfl rfl ?_
        refine wi_glv (kz := 11) rfl hc rfl rfl (by decide) (Nat.le_of_ble_eq_true rfl) rfl (v := w9) (hw9) ?_
        refine wi_bi hc rfl rfl ?_
        refine wi_bi hc rfl rfl ?_
        refine wi_bi hc rfl rfl ?_
        refine wi_bi hc rfl rfl ?_
        refine wi_bi hc rfl rfl ?_
        refine wi_bi hc rfl rfl ?_
        have hc2 : mm_Ev mm_ct mm_CM (0 + 3) 170 [.int (iI 111), .int (iI 99), .int (iI 114), .int (iI 101), .int (iI 101), .int (iI 100)] (MX L t s l) (some (.long (lI 122472911693156)), MX L t s l) := sp_170 (d := 0) ⟨by decide, by decide⟩ ⟨by decide, by decide⟩ ⟨by decide, by decide⟩ ⟨by decide, by decide⟩ ⟨by decide, by decide⟩ ⟨by decide, by decide⟩
        refine wp_cs (As := [.int (iI 111), .int (iI 99), .int (iI 114), .int (iI 101), .int (iI 101), .int (iI 100)]) (r := [.long (lI w9)]) hc rfl (by rw [cm_170]; rfl) rfl (Nat.le_of_ble_eq_true rfl) (ev_mono (hc2) (by omega)) ?_
        show mm_wp _ _ (63, [some (.ref 598)], [.long (lI 122472911693156), .long (lI w9)], MX L t s l) _
        have h5_ := cmpI_spec w9 122472911693156
        refine wl_cmp hc rfl ⟨by omega, by omega⟩ ⟨by decide, by decide⟩ ?_
        refine wi_zne hc rfl (cmpI_r _ _) (fun h6_ => ?_) (fun h6_ => ?_)
        · refine wi_a1 hc rfl rfl ?_
          refine wi_glv (kz := 11) rfl hc rfl rfl (by decide) (Nat.le_of_ble_eq_true rfl) rfl (v := w9) (hw9) ?_
          refine wi_bi hc rfl rfl ?_
          refine wi_bi hc rfl rfl ?_
          refine wi_bi hc rfl rfl ?_
          refine wi_bi hc rfl rfl ?_
          refine wi_bi hc rfl rfl ?_
          refine wi_bi hc rfl rfl ?_
          have hc3 : mm_Ev mm_ct mm_CM (0 + 3) 170 [.int (iI 111), .int (iI 116), .int (iI 104), .int (iI 105), .int (iI 99), .int (iI 107)] (MX L t s l) (some (.long (lI 122545758626667)), MX L t s l) := sp_170 (d := 0) ⟨by decide, by decide⟩ ⟨by decide, by decide⟩ ⟨by decide, by decide⟩ ⟨by decide, by decide⟩ ⟨by decide, by decide⟩ ⟨by decide, by decide⟩
          refine wp_cs (As := [.int (iI 111), .int (iI 116), .int (iI 104), .int (iI 105), .int (iI 99), .int (iI 107)]) (r := [.long (lI w9)]) hc rfl (by rw [cm_170]; rfl) rfl (Nat.le_of_ble_eq_true rfl) (ev_mono (hc3) (by omega)) ?_
          show mm_wp _ _ (89, [some (.ref 598)], [.long (lI 122545758626667), .long (lI w9)], MX L t s l) _
          have h7_ := cmpI_spec w9 122545758626667
          refine wl_cmp hc rfl ⟨by omega, by omega⟩ ⟨by decide, by decide⟩ ?_
          refine wi_zne hc rfl (cmpI_r _ _) (fun h8_ => ?_) (fun h8_ => ?_)
          · refine wi_a1 hc rfl rfl ?_
            refine wi_glv (kz := 11) rfl hc rfl rfl (by decide) (Nat.le_of_ble_eq_true rfl) rfl (v := w9) (hw9) ?_
            refine wi_bi hc rfl rfl ?_
            refine wi_bi hc rfl rfl ?_
            refine wi_bi hc rfl rfl ?_
            have hc4 : mm_Ev mm_ct mm_CM (0 + 1) 167 [.int (iI 111), .int (iI 97), .int (iI 117)] (MX L t s l) (some (.long (lI 7299445)), MX L t s l) := sp_167 (d := 0) ⟨by decide, by decide⟩ ⟨by decide, by decide⟩ ⟨by decide, by decide⟩
            refine wp_cs (As := [.int (iI 111), .int (iI 97), .int (iI 117)]) (r := [.long (lI w9)]) hc rfl (by rw [cm_167]; rfl) rfl (Nat.le_of_ble_eq_true rfl) (ev_mono (hc4) (by omega)) ?_
            show mm_wp _ _ (109, [some (.ref 598)], [.long (lI 7299445), .long (lI w9)], MX L t s l) _
            refine wi_bi hc rfl rfl ?_
            refine wl_shl 4294967296 rfl hc rfl (by omega) (by omega) ?_
            refine wi_bi hc rfl rfl ?_
            refine wi_bi hc rfl rfl ?_
            refine wi_bi hc rfl rfl ?_
            refine wi_bi hc rfl rfl ?_
            have hc5 : mm_Ev mm_ct mm_CM (0 + 2) 169 [.int (iI 116), .int (iI 104), .int (iI 111), .int (iI 114)] (MX L t s l) (some (.long (lI 1953001330)), MX L t s l) := sp_169 (d := 0) ⟨by decide, by decide⟩ ⟨by decide, by decide⟩ ⟨by decide, by decide⟩ ⟨by decide, by decide⟩
            refine wp_cs (As := [.int (iI 116), .int (iI 104), .int (iI 111), .int (iI 114)]) (r := [.long (lI (7299445 * 4294967296)), .long (lI w9)]) hc rfl (by rw [cm_169]; rfl) rfl (Nat.le_of_ble_eq_true rfl) (ev_mono (hc5) (by omega)) ?_
            show mm_wp _ _ (123, [some (.ref 598)], [.long (lI 1953001330), .long (lI (7299445 * 4294967296)), .long (lI w9)], MX L t s l) _
            refine wl_or hc rfl (by decide) (by decide) ?_
            rw [show orI (7299445 * 4294967296) 1953001330 = 31350879506952050 from rfl]
            have h9_ := cmpI_spec w9 31350879506952050
            refine wl_cmp hc rfl ⟨by omega, by omega⟩ ⟨by decide, by decide⟩ ?_
            refine wi_zne hc rfl (cmpI_r _ _) (fun h10_ => ?_) (fun h10_ => ?_)
            · refine wi_a1 hc rfl rfl ?_
              refine wi_glv (kz := 11) rfl hc rfl rfl (by decide) (Nat.le_of_ble_eq_true rfl) rfl (v := w9) (hw9) ?_
              refine wi_bi hc rfl rfl ?_
              refine wi_bi hc rfl rfl ?_
              refine wi_bi hc rfl rfl ?_
              refine wi_bi hc rfl rfl ?_
              refine wi_bi hc rfl rfl ?_
              have hc6 : mm_Ev mm_ct mm_CM (0 + 2) 168 [.int (iI 115), .int (iI 104), .int (iI 101), .int (iI 108), .int (iI 102)] (MX L t s l) (some (.long (lI 495672716390)), MX L t s l) := sp_168 (d := 0) ⟨by decide, by decide⟩ ⟨by decide, by decide⟩ ⟨by decide, by decide⟩ ⟨by decide, by decide⟩ ⟨by decide, by decide⟩
              refine wp_cs (As := [.int (iI 115), .int (iI 104), .int (iI 101), .int (iI 108), .int (iI 102)]) (r := [.long (lI w9)]) hc rfl (by rw [cm_168]; rfl) rfl (Nat.le_of_ble_eq_true rfl) (ev_mono (hc6) (by omega)) ?_
              show mm_wp _ _ (148, [some (.ref 598)], [.long (lI 495672716390), .long (lI w9)], MX L t s l) _
              have h11_ := cmpI_spec w9 495672716390
              refine wl_cmp hc rfl ⟨by omega, by omega⟩ ⟨by decide, by decide⟩ ?_
              refine wi_zne hc rfl (cmpI_r _ _) (fun h12_ => ?_) (fun h12_ => ?_)
              · refine wi_a1 hc rfl rfl ?_
                refine wi_glv (kz := 11) rfl hc rfl rfl (by decide) (Nat.le_of_ble_eq_true rfl) rfl (v := w9) (hw9) ?_
                refine wi_bi hc rfl rfl ?_
                refine wi_bi hc rfl rfl ?_
                refine wi_bi hc rfl rfl ?_
                refine wi_bi hc rfl rfl ?_
                refine wi_bi hc rfl rfl ?_
                have hc7 : mm_Ev mm_ct mm_CM (0 + 2) 168 [.int (iI 112), .int (iI 108), .int (iI 97), .int (iI 99), .int (iI 101)] (MX L t s l) (some (.long (lI 482854658917)), MX L t s l) := sp_168 (d := 0) ⟨by decide, by decide⟩ ⟨by decide, by decide⟩ ⟨by decide, by decide⟩ ⟨by decide, by decide⟩ ⟨by decide, by decide⟩
                refine wp_cs (As := [.int (iI 112), .int (iI 108), .int (iI 97), .int (iI 99), .int (iI 101)]) (r := [.long (lI w9)]) hc rfl (by rw [cm_168]; rfl) rfl (Nat.le_of_ble_eq_true rfl) (ev_mono (hc7) (by omega)) ?_
                show mm_wp _ _ (172, [some (.ref 598)], [.long (lI 482854658917), .long (lI w9)], MX L t s l) _
                have h13_ := cmpI_spec w9 482854658917
                refine wl_cmp hc rfl ⟨by omega, by omega⟩ ⟨by decide, by decide⟩ ?_
                refine wi_zne hc rfl (cmpI_r _ _) (fun h14_ => ?_) (fun h14_ => ?_)
                · refine wi_a1 hc rfl rfl ?_
                  refine wi_glv (kz := 11) rfl hc rfl rfl (by decide) (Nat.le_of_ble_eq_true rfl) rfl (v := w9) (hw9) ?_
                  refine wi_bi hc rfl rfl ?_
                  refine wi_bi hc rfl rfl ?_
                  refine wi_bi hc rfl rfl ?_
                  refine wi_bi hc rfl rfl ?_
                  have hc8 : mm_Ev mm_ct mm_CM (0 + 2) 169 [.int (iI 109), .int (iI 97), .int (iI 110), .int (iI 121)] (MX L t s l) (some (.long (lI 1835101817)), MX L t s l) := sp_169 (d := 0) ⟨by decide, by decide⟩ ⟨by decide, by decide⟩ ⟨by decide, by decide⟩ ⟨by decide, by decide⟩
                  refine wp_cs (As := [.int (iI 109), .int (iI 97), .int (iI 110), .int (iI 121)]) (r := [.long (lI w9)]) hc rfl (by rw [cm_169]; rfl) rfl (Nat.le_of_ble_eq_true rfl) (ev_mono (hc8) (by omega)) ?_
                  show mm_wp _ _ (196, [some (.ref 598)], [.long (lI 1835101817), .long (lI w9)], MX L t s l) _
                  have h15_ := cmpI_spec w9 1835101817
                  refine wl_cmp hc rfl ⟨by omega, by omega⟩ ⟨by decide, by decide⟩ ?_
                  refine wi_zne hc rfl (cmpI_r _ _) (fun h16_ => ?_) (fun h16_ => ?_)
                  · refine wi_ic hc rfl ?_
                    refine wi_ri hc rfl (by rw [cm_177]; rfl) ?_
                    have hR : nmO kd9 = -1 := by
                      have g8 : kd9 ≠ 8 := fun e => absurd ((tkW_8 hk9 (by omega)).mpr e) (by omega)
                      have g9 : kd9 ≠ 9 := fun e => absurd ((tkW_9 hk9 (by omega)).mpr e) (by omega)
                      have g10 : kd9 ≠ 10 := fun e => absurd ((tkW_10 hk9 (by omega)).mpr e) (by omega)
                      have g11 : kd9 ≠ 11 := fun e => absurd ((tkW_11 hk9 (by omega)).mpr e) (by omega)
                      have g12 : kd9 ≠ 12 := fun e => absurd ((tkW_12 hk9 (by omega)).mpr e) (by omega)
                      have g13 : kd9 ≠ 13 := fun e => absurd ((tkW_13 hk9 (by omega)).mpr e) (by omega)
                      have g14 : kd9 ≠ 14 := fun e => absurd ((tkW_14 hk9 (by omega)).mpr e) (by omega)
                      have := nmO_s kd9
                      omega
                    rw [hR]
                  · refine wi_bi hc rfl rfl ?_
                    refine wi_go hc rfl ?_
                    refine wi_ri hc rfl (by rw [cm_177]; rfl) ?_
                    have g : kd9 = 14 := (tkW_14 hk9 (by omega)).mp (by omega)
                    have hR : nmO kd9 = 14 := by
                      have := nmO_s kd9
                      omega
                    rw [hR]
                · refine wi_bi hc rfl rfl ?_
                  refine wi_go hc rfl ?_
                  refine wi_ri hc rfl (by rw [cm_177]; rfl) ?_
                  have g : kd9 = 13 := (tkW_13 hk9 (by omega)).mp (by omega)
                  have hR : nmO kd9 = 13 := by
                    have := nmO_s kd9
                    omega
                  rw [hR]
              · refine wi_bi hc rfl rfl ?_
                refine wi_ri hc rfl (by rw [cm_177]; rfl) ?_
                have g : kd9 = 12 := (tkW_12 hk9 (by omega)).mp (by omega)
                have hR : nmO kd9 = 12 := by
                  have := nmO_s kd9
                  omega
                rw [hR]
            · refine wi_bi hc rfl rfl ?_
              refine wi_ri hc rfl (by rw [cm_177]; rfl) ?_
              have g : kd9 = 11 := (tkW_11 hk9 (by omega)).mp (by omega)
              have hR : nmO kd9 = 11 := by
                have := nmO_s kd9
                omega
              rw [hR]
          · refine wi_bi hc rfl rfl ?_
            refine wi_ri hc rfl (by rw [cm_177]; rfl) ?_
            have g : kd9 = 10 := (tkW_10 hk9 (by omega)).mp (by omega)
            have hR : nmO kd9 = 10 := by
              have := nmO_s kd9
              omega
            rw [hR]
        · refine wi_bi hc rfl rfl ?_
          refine wi_ri hc rfl (by rw [cm_177]; rfl) ?_
          have g : kd9 = 9 := (tkW_9 hk9 (by omega)).mp (by omega)
          have hR : nmO kd9 = 9 := by
            have := nmO_s kd9
            omega
          rw [hR]
      · refine wi_bi hc rfl rfl ?_
        refine wi_ri hc rfl (by rw [cm_177]; rfl) ?_
        have g : kd9 = 8 := (tkW_8 hk9 (by omega)).mp (by omega)
        have hR : nmO kd9 = 8 := by
          have := nmO_s kd9
          omega
        rw [hR]
    · refine wi_a1 hc rfl rfl ?_
      refine wp_cv (b := 598) (As := []) (r := []) hc rfl (by rw [cm_176]; rfl) rfl (Nat.le_of_ble_eq_true rfl) (show 598 < 621 by decide) (by rw [cm_176]; rfl) (ev_mono (sp_176 (d := 0) hk9 hq9 hw9 (by omega)) (by omega)) ?_
      show mm_wp _ _ (21, [some (.ref 598)], [.int (iI (nm7 kd9))], MX L t s l) _
      refine wi_ri hc rfl (by rw [cm_177]; rfl) ?_
      have hR : nmO kd9 = nm7 kd9 := by
        have := nmO_s kd9
        omega
      rw [hR]
  · refine wi_ic hc rfl ?_
    refine wi_ri hc rfl (by rw [cm_177]; rfl) ?_
    have hR : nmO kd9 = -1 := by
      have := nmO_s kd9
      omega
    rw [hR]
theorem sp_178 {d L t : Nat} {s l : Nat → Int → Int} {x9 so9 : Int} (hx9 : 0 ≤ x9 ∧ x9 ≤ 14) (hs9 : s 598 20 = so9) (hs0 : 0 ≤ so9 ∧ so9 ≤ 9) : mm_Ev mm_ct mm_CM (d + 1) 178 [.ref 598, .int (iI x9)] (MX L t s l) (some (.int (iI (bI (¬ rpHr (15 + so9) x9 = true)))), MX L t s l) := by
  have hc : (mm_CM 178).2.2.2.2.2.2.2 = mm_cf cd_178 := by rw [cm_178]; rfl
  refine ev_of (mx := 2) (by rw [cm_178]; decide) (by rw [cm_178]; rfl) (by show 2 ≤ _; decide) ?_
  show mm_wp _ _ (0, [some (.ref 598), some (.int (iI x9))], [], MX L t s l) (fun r => r = (some (.int (iI (bI (¬ rpHr (15 + so9) x9 = true)))), MX L t s l))
  refine wi_i1 hc rfl rfl ?_
  refine wi_ic hc rfl ?_
  refine wi_cle hc rfl ⟨by omega, by omega⟩ ⟨by decide, by decide⟩ (fun h1_ => ?_) (fun h1_ => ?_)
  · refine wi_ic hc rfl ?_
    refine wi_r0 hc rfl (by rw [cm_178]; rfl) ?_
    have hR : bI (¬ rpHr (15 + so9) x9 = true) = 0 := by
      unfold rpHr
      by_cases g : 12 ≤ x9
      · rw [if_pos g]; exact bI_f (fun e => e (decide_eq_true (by omega)))
      · rw [if_neg g]; exact bI_f (fun e => e (decide_eq_true (by omega)))
    rw [hR]
  · refine wi_i1 hc rfl rfl ?_
    refine wi_bi hc rfl rfl ?_
    refine wi_cge hc rfl ⟨by omega, by omega⟩ ⟨by decide, by decide⟩ (fun h2_ => ?_) (fun h2_ => ?_)
    · refine wi_a1 hc rfl rfl ?_
      refine wi_gfv (kz := 20) rfl hc rfl rfl (by decide) (Nat.le_of_ble_eq_true rfl) rfl (v := so9) (hs9) ?_
      refine wi_ic hc rfl ?_
      refine wi_ceq hc rfl ⟨by omega, by omega⟩ ⟨by decide, by decide⟩ (fun h3_ => ?_) (fun h3_ => ?_)
      · refine wi_ic hc rfl ?_
        refine wi_r0 hc rfl (by rw [cm_178]; rfl) ?_
        have hR : bI (¬ rpHr (15 + so9) x9 = true) = 0 := by
          unfold rpHr
          by_cases g : 12 ≤ x9
          · rw [if_pos g]; exact bI_f (fun e => e (decide_eq_true (by omega)))
          · rw [if_neg g]; exact bI_f (fun e => e (decide_eq_true (by omega)))
        rw [hR]
      · refine wi_ic hc rfl ?_
        refine wi_go hc rfl ?_
        refine wi_r1 hc rfl (by rw [cm_178]; rfl) ?_
        have hR : bI (¬ rpHr (15 + so9) x9 = true) = 1 := by
          unfold rpHr
          by_cases g : 12 ≤ x9
          · rw [if_pos g]; exact bI_t (fun e => by have := of_decide_eq_true e; omega)
          · rw [if_neg g]; exact bI_t (fun e => by have := of_decide_eq_true e; omega)
        rw [hR]
    · refine wi_a1 hc rfl rfl ?_
      refine wi_gfv (kz := 20) rfl hc rfl rfl (by decide) (Nat.le_of_ble_eq_true rfl) rfl (v := so9) (hs9) ?_
      refine wi_zeq hc rfl ⟨by omega, by omega⟩ (fun h4_ => ?_) (fun h4_ => ?_)
      · refine wi_ic hc rfl ?_
        refine wi_r0 hc rfl (by rw [cm_178]; rfl) ?_
        have hR : bI (¬ rpHr (15 + so9) x9 = true) = 0 := by
          unfold rpHr
          by_cases g : 12 ≤ x9
          · rw [if_pos g]; exact bI_f (fun e => e (decide_eq_true (by omega)))
          · rw [if_neg g]; exact bI_f (fun e => e (decide_eq_true (by omega)))
        rw [hR]
      · refine wi_go hc rfl ?_
        refine wi_ic hc rfl ?_
        refine wi_go hc rfl ?_
        refine wi_r1 hc rfl (by rw [cm_178]; rfl) ?_
        have hR : bI (¬ rpHr (15 + so9) x9 = true) = 1 := by
          unfold rpHr
          by_cases g : 12 ≤ x9
          · rw [if_pos g]; exact bI_t (fun e => by have := of_decide_eq_true e; omega)
          · rw [if_neg g]; exact bI_t (fun e => by have := of_decide_eq_true e; omega)
        rw [hR]
def cpO (kd9 : Int) : Int := if kd9 = 29 then 10 else if kd9 = 40 then 11 else if kd9 = 30 then 12 else if kd9 = 41 then 13 else if kd9 = 31 then 14 else if kd9 = 32 then 15 else -1
theorem sp_184 {d L t : Nat} {s l : Nat → Int → Int} {q9 kd9 : Int} (ha9 : tkA q9 kd9) (hq9 : s 598 9 = q9) : mm_Ev mm_ct mm_CM (d + 1) 184 [.ref 598] (MX L t s l) (some (.int (iI (cpO kd9))), MX L t s l) := by
  have hc : (mm_CM 184).2.2.2.2.2.2.2 = mm_cf cd_184 := by rw [cm_184]; rfl
  refine ev_of (mx := 1) (by rw [cm_184]; decide) (by rw [cm_184]; rfl) (by show 1 ≤ _; decide) ?_
  show mm_wp _ _ (0, [some (.ref 598)], [], MX L t s l) (fun r => r = (some (.int (iI (cpO kd9))), MX L t s l))
  unfold tkA at ha9
  refine wi_a1 hc rfl rfl ?_
  refine wi_gfv (kz := 9) rfl hc rfl rfl (by decide) (Nat.le_of_ble_eq_true rfl) rfl (v := q9) (hq9) ?_
  refine wi_bi hc rfl rfl ?_
  refine wi_cne hc rfl ⟨by omega, by omega⟩ ⟨by decide, by decide⟩ (fun h1_ => ?_) (fun h1_ => ?_)
  · refine wi_a1 hc rfl rfl ?_
    refine wi_gfv (kz := 9) rfl hc rfl rfl (by decide) (Nat.le_of_ble_eq_true rfl) rfl (v := q9) (hq9) ?_
    refine wi_ic hc rfl ?_
    refine wi_cne hc rfl ⟨by omega, by omega⟩ ⟨by decide, by decide⟩ (fun h2_ => ?_) (fun h2_ => ?_)
    · refine wi_a1 hc rfl rfl ?_
      refine wi_gfv (kz := 9) rfl hc rfl rfl (by decide) (Nat.le_of_ble_eq_true rfl) rfl (v := q9) (hq9) ?_
      refine wi_bi hc rfl rfl ?_
      refine wi_cne hc rfl ⟨by omega, by omega⟩ ⟨by decide, by decide⟩ (fun h3_ => ?_) (fun h3_ => ?_)
      · refine wi_a1 hc rfl rfl ?_
        refine wi_gfv (kz := 9) rfl hc rfl rfl (by decide) (Nat.le_of_ble_eq_true rfl) rfl (v := q9) (hq9) ?_
        refine wi_ic hc rfl ?_
        refine wi_cne hc rfl ⟨by omega, by omega⟩ ⟨by decide, by decide⟩ (fun h4_ => ?_) (fun h4_ => ?_)
        · refine wi_a1 hc rfl rfl ?_
          refine wi_gfv (kz := 9) rfl hc rfl rfl (by decide) (Nat.le_of_ble_eq_true rfl) rfl (v := q9) (hq9) ?_
          refine wi_bi hc rfl rfl ?_
          refine wi_cne hc rfl ⟨by omega, by omega⟩ ⟨by decide, by decide⟩ (fun h5_ => ?_) (fun h5_ => ?_)
          · refine wi_a1 hc rfl rfl ?_
            refine wi_gfv (kz := 9) rfl hc rfl rfl (by decide) (Nat.le_of_ble_eq_true rfl) rfl (v := q9) (hq9) ?_
            refine wi_bi hc rfl rfl ?_
            refine wi_cne hc rfl ⟨by omega, by omega⟩ ⟨by decide, by decide⟩ (fun h6_ => ?_) (fun h6_ => ?_)
            · refine wi_ic hc rfl ?_
              refine wi_ri hc rfl (by rw [cm_184]; rfl) ?_
              have hR : cpO kd9 = (-1) := by
                unfold cpO
                (repeat' split) <;> first | rfl | (exfalso; omega)
              rw [hR]
            · refine wi_bi hc rfl rfl ?_
              refine wi_go hc rfl ?_
              refine wi_ri hc rfl (by rw [cm_184]; rfl) ?_
              have hR : cpO kd9 = 15 := by
                unfold cpO
                (repeat' split) <;> first | rfl | (exfalso; omega)
              rw [hR]
          · refine wi_bi hc rfl rfl ?_
            refine wi_go hc rfl ?_
            refine wi_ri hc rfl (by rw [cm_184]; rfl) ?_
            have hR : cpO kd9 = 14 := by
              unfold cpO
              (repeat' split) <;> first | rfl | (exfalso; omega)
            rw [hR]
        · refine wi_bi hc rfl rfl ?_
          refine wi_go hc rfl ?_
          refine wi_ri hc rfl (by rw [cm_184]; rfl) ?_
          have hR : cpO kd9 = 13 := by
            unfold cpO
            (repeat' split) <;> first | rfl | (exfalso; omega)
          rw [hR]
      · refine wi_bi hc rfl rfl ?_
        refine wi_go hc rfl ?_
        refine wi_ri hc rfl (by rw [cm_184]; rfl) ?_
        have hR : cpO kd9 = 12 := by
          unfold cpO
          (repeat' split) <;> first | rfl | (exfalso; omega)
        rw [hR]
    · refine wi_bi hc rfl rfl ?_
      refine wi_go hc rfl ?_
      refine wi_ri hc rfl (by rw [cm_184]; rfl) ?_
      have hR : cpO kd9 = 11 := by
        unfold cpO
        (repeat' split) <;> first | rfl | (exfalso; omega)
      rw [hR]
  · refine wi_bi hc rfl rfl ?_
    refine wi_go hc rfl ?_
    refine wi_ri hc rfl (by rw [cm_184]; rfl) ?_
    have hR : cpO kd9 = 10 := by
      unfold cpO
      (repeat' split) <;> first | rfl | (exfalso; omega)
    rw [hR]
def soO (kd9 : Int) : Int := if kd9 = 5 then 8 else if kd9 = 23 then 9 else if 15 ≤ kd9 ∧ kd9 ≤ 22 then kd9 - 15 else -1
theorem sp_187 {d L t : Nat} {s l : Nat → Int → Int} {q9 u9 w9 kd9 nm9 : Int} (hk9 : tkR q9 u9 w9 kd9 nm9) (hq9 : s 598 9 = q9) (hw9 : l 598 11 = w9) : mm_Ev mm_ct mm_CM (d + 3) 187 [.ref 598] (MX L t s l) (some (.int (iI (soO kd9))), MX L t s l) := by
  have hc : (mm_CM 187).2.2.2.2.2.2.2 = mm_cf cd_187 := by rw [cm_187]; rfl
  refine ev_of (mx := 1) (by rw [cm_187]; decide) (by rw [cm_187]; rfl) (by show 1 ≤ _; decide) ?_
  show mm_wp _ _ (0, [some (.ref 598)], [], MX L t s l) (fun r => r = (some (.int (iI (soO kd9))), MX L t s l))
  have ha9 := tkR_a hk9
  unfold tkA at ha9
  refine wi_a1 hc rfl rfl ?_
  refine wi_bi hc rfl rfl ?_
  refine wi_bi hc rfl rfl ?_
  refine wi_bi hc rfl rfl ?_
  have hc1 : mm_Ev mm_ct mm_CM (0 + 1) 167 [.int (iI 108), .int (iI 97), .int (iI 119)] (MX L t s l) (some (.long (lI 7102839)), MX L t s l) := sp_167 (d := 0) ⟨by decide, by decide⟩ ⟨by decide, by decide⟩ ⟨by decide, by decide⟩
  refine wp_cs (As := [.int (iI 108), .int (iI 97), .int (iI 119)]) (r := [.ref 598]) hc rfl (by rw [cm_167]; rfl) rfl (Nat.le_of_ble_eq_true rfl) (ev_mono (hc1) (by omega)) ?_
  show mm_wp _ _ (10, [some (.ref 598)], [.long (lI 7102839), .ref 598], MX L t s l) _
  refine wp_cv (b := 598) (As := [.long (lI 7102839)]) (r := []) hc rfl (by rw [cm_171]; rfl) rfl (Nat.le_of_ble_eq_true rfl) (show 598 < 621 by decide) (by rw [cm_171]; rfl) (ev_mono (sp_171 (d := 0) hk9 hq9 hw9 ⟨by decide, by decide⟩) (by omega)) ?_
  rw [show bI (q9 = 2 ∧ w9 = 7102839) = bI (kd9 = 15) by unfold bI; congr 1; exact propext ⟨fun e => (tkW_15 hk9 e.1).mp e.2, fun e => ⟨by omega, (tkW_15 hk9 (by omega)).mpr e⟩⟩]
  show mm_wp _ _ (13, [some (.ref 598)], [.int (iI (bI (kd9 = 15)))], MX L t s l) _
  refine wi_beq hc rfl (fun h1_ => ?_) (fun h1_ => ?_)
  · refine wi_a1 hc rfl rfl ?_
    refine wi_bi hc rfl rfl ?_
    refine wi_bi hc rfl rfl ?_
    refine wi_bi hc rfl rfl ?_
    refine wi_bi hc rfl rfl ?_
    refine wi_bi hc rfl rfl ?_
    have hc2 : mm_Ev mm_ct mm_CM (0 + 2) 168 [.int (iI 102), .int (iI 97), .int (iI 108), .int (iI 108), .int (iI 115)] (MX L t s l) (some (.long (lI 439721159795)), MX L t s l) := sp_168 (d := 0) ⟨by decide, by decide⟩ ⟨by decide, by decide⟩ ⟨by decide, by decide⟩ ⟨by decide, by decide⟩ ⟨by decide, by decide⟩
    refine wp_cs (As := [.int (iI 102), .int (iI 97), .int (iI 108), .int (iI 108), .int (iI 115)]) (r := [.ref 598]) hc rfl (by rw [cm_168]; rfl) rfl (Nat.le_of_ble_eq_true rfl) (ev_mono (hc2) (by omega)) ?_
    show mm_wp _ _ (32, [some (.ref 598)], [.long (lI 439721159795), .ref 598], MX L t s l) _
    refine wp_cv (b := 598) (As := [.long (lI 439721159795)]) (r := []) hc rfl (by rw [cm_171]; rfl) rfl (Nat.le_of_ble_eq_true rfl) (show 598 < 621 by decide) (by rw [cm_171]; rfl) (ev_mono (sp_171 (d := 0) hk9 hq9 hw9 ⟨by decide, by decide⟩) (by omega)) ?_
    rw [show bI (q9 = 2 ∧ w9 = 439721159795) = bI (kd9 = 16) by unfold bI; congr 1; exact propext ⟨fun e => (tkW_16 hk9 e.1).mp e.2, fun e => ⟨by omega, (tkW_16 hk9 (by omega)).mpr e⟩⟩]
    show mm_wp _ _ (35, [some (.ref 598)], [.int (iI (bI (kd9 = 16)))], MX L t s l) _
    refine wi_beq hc rfl (fun h2_ => ?_) (fun h2_ => ?_)
    · refine wi_a1 hc rfl rfl ?_
      refine wi_bi hc rfl rfl ?_
      refine wi_bi hc rfl rfl ?_
      refine wi_bi hc rfl rfl ?_
      refine wi_bi hc rfl rfl ?_
      refine wi_bi hc rfl rfl ?_
      have hc3 : mm_Ev mm_ct mm_CM (0 + 2) 168 [.int (iI 115), .int (iI 119), .int (iI 101), .int (iI 108), .int (iI 108)] (MX L t s l) (some (.long (lI 495924374636)), MX L t s l) := sp_168 (d := 0) ⟨by decide, by decide⟩ ⟨by decide, by decide⟩ ⟨by decide, by decide⟩ ⟨by decide, by decide⟩ ⟨by decide, by decide⟩
      refine wp_cs (As := [.int (iI 115), .int (iI 119), .int (iI 101), .int (iI 108), .int (iI 108)]) (r := [.ref 598]) hc rfl (by rw [cm_168]; rfl) rfl (Nat.le_of_ble_eq_true rfl) (ev_mono (hc3) (by omega)) ?_
      show mm_wp _ _ (54, [some (.ref 598)], [.long (lI 495924374636), .ref 598], MX L t s l) _
      refine wp_cv (b := 598) (As := [.long (lI 495924374636)]) (r := []) hc rfl (by rw [cm_171]; rfl) rfl (Nat.le_of_ble_eq_true rfl) (show 598 < 621 by decide) (by rw [cm_171]; rfl) (ev_mono (sp_171 (d := 0) hk9 hq9 hw9 ⟨by decide, by decide⟩) (by omega)) ?_
      rw [show bI (q9 = 2 ∧ w9 = 495924374636) = bI (kd9 = 17) by unfold bI; congr 1; exact propext ⟨fun e => (tkW_17 hk9 e.1).mp e.2, fun e => ⟨by omega, (tkW_17 hk9 (by omega)).mpr e⟩⟩]
      show mm_wp _ _ (57, [some (.ref 598)], [.int (iI (bI (kd9 = 17)))], MX L t s l) _
      refine wi_beq hc rfl (fun h3_ => ?_) (fun h3_ => ?_)
      · refine wi_a1 hc rfl rfl ?_
        refine wi_bi hc rfl rfl ?_
        refine wi_bi hc rfl rfl ?_
        refine wi_bi hc rfl rfl ?_
        refine wi_bi hc rfl rfl ?_
        have hc4 : mm_Ev mm_ct mm_CM (0 + 2) 169 [.int (iI 110), .int (iI 101), .int (iI 101), .int (iI 100)] (MX L t s l) (some (.long (lI 1852138852)), MX L t s l) := sp_169 (d := 0) ⟨by decide, by decide⟩ ⟨by decide, by decide⟩ ⟨by decide, by decide⟩ ⟨by decide, by decide⟩
        refine wp_cs (As := [.int (iI 110), .int (iI 101), .int (iI 101), .int (iI 100)]) (r := [.ref 598]) hc rfl (by rw [cm_169]; rfl) rfl (Nat.le_of_ble_eq_true rfl) (ev_mono (hc4) (by omega)) ?_
        show mm_wp _ _ (74, [some (.ref 598)], [.long (lI 1852138852), .ref 598], MX L t s l) _
        refine wp_cv (b := 598) (As := [.long (lI 1852138852)]) (r := []) hc rfl (by rw [cm_171]; rfl) rfl (Nat.le_of_ble_eq_true rfl) (show 598 < 621 by decide) (by rw [cm_171]; rfl) (ev_mono (sp_171 (d := 0) hk9 hq9 hw9 ⟨by decide, by decide⟩) (by omega)) ?_
        rw [show bI (q9 = 2 ∧ w9 = 1852138852) = bI (kd9 = 18) by unfold bI; congr 1; exact propext ⟨fun e => (tkW_18 hk9 e.1).mp e.2, fun e => ⟨by omega, (tkW_18 hk9 (by omega)).mpr e⟩⟩]
        show mm_wp _ _ (77, [some (.ref 598)], [.int (iI (bI (kd9 = 18)))], MX L t s l) _
        refine wi_beq hc rfl (fun h4_ => ?_) (fun h4_ => ?_)
        · refine wi_a1 hc rfl rfl ?_
          refine wi_bi hc rfl rfl ?_
          refine wi_bi hc rfl rfl ?_
          refine wi_bi hc rfl rfl ?_
          refine wi_bi hc rfl rfl ?_
          refine wi_bi hc rfl rfl ?_
          have hc5 : mm_Ev mm_ct mm_CM (0 + 2) 168 [.int (iI 110), .int (iI 105), .int (iI 103), .int (iI 104), .int (iI 116)] (MX L t s l) (some (.long (lI 474214787188)), MX L t s l) := sp_168 (d := 0) ⟨by decide, by decide⟩ ⟨by decide, by decide⟩ ⟨by decide, by decide⟩ ⟨by decide, by decide⟩ ⟨by decide, by decide⟩
          refine wp_cs (As := [.int (iI 110), .int (iI 105), .int (iI 103), .int (iI 104), .int (iI 116)]) (r := [.ref 598]) hc rfl (by rw [cm_168]; rfl) rfl (Nat.le_of_ble_eq_true rfl) (ev_mono (hc5) (by omega)) ?_
          show mm_wp _ _ (96, [some (.ref 598)], [.long (lI 474214787188), .ref 598], MX L t s l) _
          refine wp_cv (b := 598) (As := [.long (lI 474214787188)]) (r := []) hc rfl (by rw [cm_171]; rfl) rfl (Nat.le_of_ble_eq_true rfl) (show 598 < 621 by decide) (by rw [cm_171]; rfl) (ev_mono (sp_171 (d := 0) hk9 hq9 hw9 ⟨by decide, by decide⟩) (by omega)) ?_
          rw [show bI (q9 = 2 ∧ w9 = 474214787188) = bI (kd9 = 19) by unfold bI; congr 1; exact propext ⟨fun e => (tkW_19 hk9 e.1).mp e.2, fun e => ⟨by omega, (tkW_19 hk9 (by omega)).mpr e⟩⟩]
          show mm_wp _ _ (99, [some (.ref 598)], [.int (iI (bI (kd9 = 19)))], MX L t s l) _
          refine wi_beq hc rfl (fun h5_ => ?_) (fun h5_ => ?_)
          · refine wi_a1 hc rfl rfl ?_
            refine wi_bi hc rfl rfl ?_
            refine wi_bi hc rfl rfl ?_
            refine wi_bi hc rfl rfl ?_
            refine wi_bi hc rfl rfl ?_
            refine wi_bi hc rfl rfl ?_
            have hc6 : mm_Ev mm_ct mm_CM (0 + 2) 168 [.int (iI 110), .int (iI 117), .int (iI 100), .int (iI 103), .int (iI 101)] (MX L t s l) (some (.long (lI 474415916901)), MX L t s l) := sp_168 (d := 0) ⟨by decide, by decide⟩ ⟨by decide, by decide⟩ ⟨by decide, by decide⟩ ⟨by decide, by decide⟩ ⟨by decide, by decide⟩
            refine wp_cs (As := [.int (iI 110), .int (iI 117), .int (iI 100), .int (iI 103), .int (iI 101)]) (r := [.ref 598]) hc rfl (by rw [cm_168]; rfl) rfl (Nat.le_of_ble_eq_true rfl) (ev_mono (hc6) (by omega)) ?_
            show mm_wp _ _ (118, [some (.ref 598)], [.long (lI 474415916901), .ref 598], MX L t s l) _
            refine wp_cv (b := 598) (As := [.long (lI 474415916901)]) (r := []) hc rfl (by rw [cm_171]; rfl) rfl (Nat.le_of_ble_eq_true rfl) (show 598 < 621 by decide) (by rw [cm_171]; rfl) (ev_mono (sp_171 (d := 0) hk9 hq9 hw9 ⟨by decide, by decide⟩) (by omega)) ?_
            rw [show bI (q9 = 2 ∧ w9 = 474415916901) = bI (kd9 = 20) by unfold bI; congr 1; exact propext ⟨fun e => (tkW_20 hk9 e.1).mp e.2, fun e => ⟨by omega, (tkW_20 hk9 (by omega)).mpr e⟩⟩]
            show mm_wp _ _ (121, [some (.ref 598)], [.int (iI (bI (kd9 = 20)))], MX L t s l) _
            refine wi_beq hc rfl (fun h6_ => ?_) (fun h6_ => ?_)
            · refine wi_a1 hc rfl rfl ?_
              refine wi_bi hc rfl rfl ?_
              refine wi_bi hc rfl rfl ?_
              refine wi_bi hc rfl rfl ?_
              refine wi_bi hc rfl rfl ?_
              have hc7 : mm_Ev mm_ct mm_CM (0 + 2) 169 [.int (iI 116), .int (iI 97), .int (iI 107), .int (iI 101)] (MX L t s l) (some (.long (lI 1952541541)), MX L t s l) := sp_169 (d := 0) ⟨by decide, by decide⟩ ⟨by decide, by decide⟩ ⟨by decide, by decide⟩ ⟨by decide, by decide⟩
              refine wp_cs (As := [.int (iI 116), .int (iI 97), .int (iI 107), .int (iI 101)]) (r := [.ref 598]) hc rfl (by rw [cm_169]; rfl) rfl (Nat.le_of_ble_eq_true rfl) (ev_mono (hc7) (by omega)) ?_
              show mm_wp _ _ (138, [some (.ref 598)], [.long (lI 1952541541), .ref 598], MX L t s l) _
              refine wp_cv (b := 598) (As := [.long (lI 1952541541)]) (r := []) hc rfl (by rw [cm_171]; rfl) rfl (Nat.le_of_ble_eq_true rfl) (show 598 < 621 by decide) (by rw [cm_171]; rfl) (ev_mono (sp_171 (d := 0) hk9 hq9 hw9 ⟨by decide, by decide⟩) (by omega)) ?_
              rw [show bI (q9 = 2 ∧ w9 = 1952541541) = bI (kd9 = 21) by unfold bI; congr 1; exact propext ⟨fun e => (tkW_21 hk9 e.1).mp e.2, fun e => ⟨by omega, (tkW_21 hk9 (by omega)).mpr e⟩⟩]
              show mm_wp _ _ (141, [some (.ref 598)], [.int (iI (bI (kd9 = 21)))], MX L t s l) _
              refine wi_beq hc rfl (fun h7_ => ?_) (fun h7_ => ?_)
              · refine wi_a1 hc rfl rfl ?_
                refine wi_bi hc rfl rfl ?_
                refine wi_bi hc rfl rfl ?_
                refine wi_bi hc rfl rfl ?_
                have hc8 : mm_Ev mm_ct mm_CM (0 + 1) 167 [.int (iI 112), .int (iI 117), .int (iI 116)] (MX L t s l) (some (.long (lI 7370100)), MX L t s l) := sp_167 (d := 0) ⟨by decide, by decide⟩ ⟨by decide, by decide⟩ ⟨by decide, by decide⟩
                refine wp_cs (As := [.int (iI 112), .int (iI 117), .int (iI 116)]) (r := [.ref 598]) hc rfl (by rw [cm_167]; rfl) rfl (Nat.le_of_ble_eq_true rfl) (ev_mono (hc8) (by omega)) ?_
                show mm_wp _ _ (157, [some (.ref 598)], [.long (lI 7370100), .ref 598], MX L t s l) _
                refine wp_cv (b := 598) (As := [.long (lI 7370100)]) (r := []) hc rfl (by rw [cm_171]; rfl) rfl (Nat.le_of_ble_eq_true rfl) (show 598 < 621 by decide) (by rw [cm_171]; rfl) (ev_mono (sp_171 (d := 0) hk9 hq9 hw9 ⟨by decide, by decide⟩) (by omega)) ?_
                rw [show bI (q9 = 2 ∧ w9 = 7370100) = bI (kd9 = 22) by unfold bI; congr 1; exact propext ⟨fun e => (tkW_22 hk9 e.1).mp e.2, fun e => ⟨by omega, (tkW_22 hk9 (by omega)).mpr e⟩⟩]
                show mm_wp _ _ (160, [some (.ref 598)], [.int (iI (bI (kd9 = 22)))], MX L t s l) _
                refine wi_beq hc rfl (fun h8_ => ?_) (fun h8_ => ?_)
                · refine wi_a1 hc rfl rfl ?_
                  refine wi_bi hc rfl rfl ?_
                  refine wi_bi hc rfl rfl ?_
                  refine wi_bi hc rfl rfl ?_
                  have hc9 : mm_Ev mm_ct mm_CM (0 + 1) 167 [.int (iI 119), .int (iI 101), .int (iI 116)] (MX L t s l) (some (.long (lI 7824756)), MX L t s l) := sp_167 (d := 0) ⟨by decide, by decide⟩ ⟨by decide, by decide⟩ ⟨by decide, by decide⟩
                  refine wp_cs (As := [.int (iI 119), .int (iI 101), .int (iI 116)]) (r := [.ref 598]) hc rfl (by rw [cm_167]; rfl) rfl (Nat.le_of_ble_eq_true rfl) (ev_mono (hc9) (by omega)) ?_
                  show mm_wp _ _ (176, [some (.ref 598)], [.long (lI 7824756), .ref 598], MX L t s l) _
                  refine wp_cv (b := 598) (As := [.long (lI 7824756)]) (r := []) hc rfl (by rw [cm_171]; rfl) rfl (Nat.le_of_ble_eq_true rfl) (show 598 < 621 by decide) (by rw [cm_171]; rfl) (ev_mono (sp_171 (d := 0) hk9 hq9 hw9 ⟨by decide, by decide⟩) (by omega)) ?_
                  rw [show bI (q9 = 2 ∧ w9 = 7824756) = bI (kd9 = 5) by unfold bI; congr 1; exact propext ⟨fun e => (tkW_5 hk9 e.1).mp e.2, fun e => ⟨by omega, (tkW_5 hk9 (by omega)).mpr e⟩⟩]
                  show mm_wp _ _ (179, [some (.ref 598)], [.int (iI (bI (kd9 = 5)))], MX L t s l) _
                  refine wi_beq hc rfl (fun h9_ => ?_) (fun h9_ => ?_)
                  · refine wi_a1 hc rfl rfl ?_
                    refine wi_bi hc rfl rfl ?_
                    refine wi_bi hc rfl rfl ?_
                    refine wi_bi hc rfl rfl ?_
                    have hc10 : mm_Ev mm_ct mm_CM (0 + 1) 167 [.int (iI 100), .int (iI 114), .int (iI 121)] (MX L t s l) (some (.long (lI 6582905)), MX L t s l) := sp_167 (d := 0) ⟨by decide, by decide⟩ ⟨by decide, by decide⟩ ⟨by decide, by decide⟩
                    refine wp_cs (As := [.int (iI 100), .int (iI 114), .int (iI 121)]) (r := [.ref 598]) hc rfl (by rw [cm_167]; rfl) rfl (Nat.le_of_ble_eq_true rfl) (ev_mono (hc10) (by omega)) ?_
                    show mm_wp _ _ (197, [some (.ref 598)], [.long (lI 6582905), .ref 598], MX L t s l) _
                    refine wp_cv (b := 598) (As := [.long (lI 6582905)]) (r := []) hc rfl (by rw [cm_171]; rfl) rfl (Nat.le_of_ble_eq_true rfl) (show 598 < 621 by decide) (by rw [cm_171]; rfl) (ev_mono (sp_171 (d := 0) hk9 hq9 hw9 ⟨by decide, by decide⟩) (by omega)) ?_
                    rw [show bI (q9 = 2 ∧ w9 = 6582905) = bI (kd9 = 23) by unfold bI; congr 1; exact propext ⟨fun e => (tkW_23 hk9 e.1).mp e.2, fun e => ⟨by omega, (tkW_23 hk9 (by omega)).mpr e⟩⟩]
                    show mm_wp _ _ (200, [some (.ref 598)], [.int (iI (bI (kd9 = 23)))], MX L t s l) _
                    refine wi_beq hc rfl (fun h10_ => ?_) (fun h10_ => ?_)
                    · refine wi_ic hc rfl ?_
                      refine wi_ri hc rfl (by rw [cm_187]; rfl) ?_
                      have hR : soO kd9 = (-1) := by
                        unfold soO
                        (repeat' split) <;> first | rfl | omega
                      rw [hR]
                    · refine wi_bi hc rfl rfl ?_
                      refine wi_go hc rfl ?_
                      refine wi_ri hc rfl (by rw [cm_187]; rfl) ?_
                      have hR : soO kd9 = 9 := by
                        unfold soO
                        (repeat' split) <;> first | rfl | omega
                      rw [hR]
                  · refine wi_bi hc rfl rfl ?_
                    refine wi_go hc rfl ?_
                    refine wi_ri hc rfl (by rw [cm_187]; rfl) ?_
                    have hR : soO kd9 = 8 := by
                      unfold soO
                      (repeat' split) <;> first | rfl | omega
                    rw [hR]
                · refine wi_bi hc rfl rfl ?_
                  refine wi_ri hc rfl (by rw [cm_187]; rfl) ?_
                  have hR : soO kd9 = 7 := by
                    unfold soO
                    (repeat' split) <;> first | rfl | omega
                  rw [hR]
              · refine wi_bi hc rfl rfl ?_
                refine wi_ri hc rfl (by rw [cm_187]; rfl) ?_
                have hR : soO kd9 = 6 := by
                  unfold soO
                  (repeat' split) <;> first | rfl | omega
                rw [hR]
            · refine wi_ic hc rfl ?_
              refine wi_ri hc rfl (by rw [cm_187]; rfl) ?_
              have hR : soO kd9 = 5 := by
                unfold soO
                (repeat' split) <;> first | rfl | omega
              rw [hR]
          · refine wi_ic hc rfl ?_
            refine wi_ri hc rfl (by rw [cm_187]; rfl) ?_
            have hR : soO kd9 = 4 := by
              unfold soO
              (repeat' split) <;> first | rfl | omega
            rw [hR]
        · refine wi_ic hc rfl ?_
          refine wi_ri hc rfl (by rw [cm_187]; rfl) ?_
          have hR : soO kd9 = 3 := by
            unfold soO
            (repeat' split) <;> first | rfl | omega
          rw [hR]
      · refine wi_ic hc rfl ?_
        refine wi_ri hc rfl (by rw [cm_187]; rfl) ?_
        have hR : soO kd9 = 2 := by
          unfold soO
          (repeat' split) <;> first | rfl | omega
        rw [hR]
    · refine wi_ic hc rfl ?_
      refine wi_ri hc rfl (by rw [cm_187]; rfl) ?_
      have hR : soO kd9 = 1 := by
        unfold soO
        (repeat' split) <;> first | rfl | omega
      rw [hR]
  · refine wi_ic hc rfl ?_
    refine wi_ri hc rfl (by rw [cm_187]; rfl) ?_
    have hR : soO kd9 = 0 := by
      unfold soO
      (repeat' split) <;> first | rfl | omega
    rw [hR]
