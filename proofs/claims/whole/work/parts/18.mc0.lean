/-! Every method is known (0). -/
theorem sq_0 : mm_Pq mm_ct mm_CM mm_cl mm_WS mm_NW "SelfSorting$Judge" "" (.invokespecial 3, 3, 0, 3) := ⟨kw_0, kw_1356, kw_1357⟩
theorem sq_1 : mm_Pq mm_ct mm_CM mm_cl mm_WS mm_NW "SelfSorting$Judge" "" (.newarray .int, 2, 0, 0) := kw_1
theorem sq_2 : mm_Pq mm_ct mm_CM mm_cl mm_WS mm_NW "SelfSorting$Judge" "" (.putfield 9, 3, 0, 0) := ⟨⟨(RX0, TX0, 2), rfl, by decide, by decide, kw_2⟩, fun r h g => by cases h; rfl⟩
theorem sq_3 : mm_Pq mm_ct mm_CM mm_cl mm_WS mm_NW "SelfSorting$Judge" "" (.putfield 15, 3, 0, 1) := ⟨⟨(RX0, TX0, 2), rfl, by decide, by decide, kw_3⟩, fun r h g => by cases h; rfl⟩
set_option maxRecDepth 100000 in
theorem ck_0 : mm_cks cX0_init 0 cd_0 = true := by decide +kernel
set_option maxRecDepth 100000 in
theorem sf_0 : mm_spf cd_0 = [(.invokespecial 3, 3, 0, 3), (.newarray .int, 2, 0, 0), (.putfield 9, 3, 0, 0), (.newarray .int, 2, 0, 0), (.putfield 15, 3, 0, 1)] := by decide +kernel
theorem mc_0 : mm_MC mm_ct mm_CM mm_cl mm_WS mm_NW me_0 := mm_MC_of rfl rfl ck_0 (by rw [sf_0]; exact List.forall_mem_cons.mpr ⟨sq_0, List.forall_mem_cons.mpr ⟨sq_1, List.forall_mem_cons.mpr ⟨sq_2, List.forall_mem_cons.mpr ⟨sq_1, List.forall_mem_cons.mpr ⟨sq_3, fun _ h => nomatch h⟩⟩⟩⟩⟩)
theorem mo_0 : mm_MO mm_ct mm_CM mm_cl mm_WS mm_NW me_0 := ⟨by decide, kw_4, kw_5, by decide, by decide +kernel, mc_0⟩
theorem sq_4 : mm_Pq mm_ct mm_CM mm_cl mm_WS mm_NW "SelfSorting$Judge" "" (.getfield 18, 3, 1, 11) := ⟨(RX1, TX1, 13), rfl, by decide, by decide, kw_6⟩
theorem sq_5 : mm_Pq mm_ct mm_CM mm_cl mm_WS mm_NW "SelfSorting$Judge" "" (.invokevirtual 24, 3, 13, 1) := ⟨kw_8, kw_9, kw_7, _, _, rfl⟩
theorem sq_6 : mm_Pq mm_ct mm_CM mm_cl mm_WS mm_NW "SelfSorting$Judge" "" (.invokevirtual 28, 3, 80, 1) := ⟨kw_11, kw_12, kw_10, _, _, rfl⟩
theorem sq_7 : mm_Pq mm_ct mm_CM mm_cl mm_WS mm_NW "SelfSorting$Judge" "" (.invokevirtual 34, 3, 6, 1) := ⟨kw_14, kw_15, kw_13, _, _, rfl⟩
theorem sq_8 : mm_Pq mm_ct mm_CM mm_cl mm_WS mm_NW "SelfSorting$Judge" "" (.getfield 38, 3, 1, 3) := ⟨(RX1, TX1, 13), rfl, by decide, by decide, kw_16⟩
theorem sq_9 : mm_Pq mm_ct mm_CM mm_cl mm_WS mm_NW "SelfSorting$Judge" "" (.getfield 9, 3, 0, 0) := ⟨(RX0, TX0, 2), rfl, by decide, by decide, kw_2⟩
theorem sq_10 : mm_Pq mm_ct mm_CM mm_cl mm_WS mm_NW "SelfSorting$Judge" "" (.invokevirtual 42, 3, 7, 1) := ⟨kw_18, kw_19, kw_17, _, _, rfl⟩
set_option maxRecDepth 100000 in
theorem ck_1 : mm_cks cX0_wouldPush 0 cd_1 = true := by decide +kernel
set_option maxRecDepth 100000 in
theorem sf_1 : mm_spf cd_1 = [(.getfield 18, 3, 1, 11), (.invokevirtual 24, 3, 13, 1), (.invokevirtual 28, 3, 80, 1), (.invokevirtual 34, 3, 6, 1), (.getfield 38, 3, 1, 3), (.getfield 9, 3, 0, 0), (.getfield 9, 3, 0, 0), (.getfield 9, 3, 0, 0), (.getfield 9, 3, 0, 0), (.getfield 9, 3, 0, 0), (.getfield 9, 3, 0, 0), (.invokevirtual 42, 3, 7, 1)] := by decide +kernel
theorem mc_1 : mm_MC mm_ct mm_CM mm_cl mm_WS mm_NW me_1 := mm_MC_of rfl rfl ck_1 (by rw [sf_1]; exact List.forall_mem_cons.mpr ⟨sq_4, List.forall_mem_cons.mpr ⟨sq_5, List.forall_mem_cons.mpr ⟨sq_6, List.forall_mem_cons.mpr ⟨sq_7, List.forall_mem_cons.mpr ⟨sq_8, List.forall_mem_cons.mpr ⟨sq_9, List.forall_mem_cons.mpr ⟨sq_9, List.forall_mem_cons.mpr ⟨sq_9, List.forall_mem_cons.mpr ⟨sq_9, List.forall_mem_cons.mpr ⟨sq_9, List.forall_mem_cons.mpr ⟨sq_9, List.forall_mem_cons.mpr ⟨sq_10, fun _ h => nomatch h⟩⟩⟩⟩⟩⟩⟩⟩⟩⟩⟩⟩)
theorem mo_1 : mm_MO mm_ct mm_CM mm_cl mm_WS mm_NW me_1 := ⟨by decide, kw_20, kw_5, by decide, by decide +kernel, mc_1⟩
theorem sq_11 : mm_Pq mm_ct mm_CM mm_cl mm_WS mm_NW "SelfSorting$Judge" "" (.invokevirtual 46, 3, 1, 1) := ⟨kw_22, kw_23, kw_21, _, _, rfl⟩
set_option maxRecDepth 100000 in
theorem ck_2 : mm_cks cX0_pushers 0 cd_2 = true := by decide +kernel
set_option maxRecDepth 100000 in
theorem sf_2 : mm_spf cd_2 = [(.getfield 38, 3, 1, 3), (.invokevirtual 46, 3, 1, 1), (.getfield 38, 3, 1, 3), (.invokevirtual 46, 3, 1, 1)] := by decide +kernel
theorem mc_2 : mm_MC mm_ct mm_CM mm_cl mm_WS mm_NW me_2 := mm_MC_of rfl rfl ck_2 (by rw [sf_2]; exact List.forall_mem_cons.mpr ⟨sq_8, List.forall_mem_cons.mpr ⟨sq_11, List.forall_mem_cons.mpr ⟨sq_8, List.forall_mem_cons.mpr ⟨sq_11, fun _ h => nomatch h⟩⟩⟩⟩)
theorem mo_2 : mm_MO mm_ct mm_CM mm_cl mm_WS mm_NW me_2 := ⟨by decide, kw_24, kw_5, by decide, by decide +kernel, mc_2⟩
theorem sq_12 : mm_Pq mm_ct mm_CM mm_cl mm_WS mm_NW "SelfSorting$Judge" "" (.getfield 50, 3, 1, 0) := ⟨(RX1, TX1, 13), rfl, by decide, by decide, kw_25⟩
theorem sq_13 : mm_Pq mm_ct mm_CM mm_cl mm_WS mm_NW "SelfSorting$Judge" "" (.getfield 54, 3, 5, 5) := ⟨(RX5, TX5, 8), rfl, by decide, by decide, kw_26⟩
set_option maxRecDepth 100000 in
theorem ck_3 : mm_cks cX0_thickness 0 cd_3 = true := by decide +kernel
set_option maxRecDepth 100000 in
theorem sf_3 : mm_spf cd_3 = [(.getfield 38, 3, 1, 3), (.getfield 18, 3, 1, 11), (.invokevirtual 24, 3, 13, 1), (.getfield 50, 3, 1, 0), (.getfield 54, 3, 5, 5), (.invokevirtual 28, 3, 80, 1), (.invokevirtual 34, 3, 6, 1), (.invokevirtual 42, 3, 7, 1)] := by decide +kernel
theorem mc_3 : mm_MC mm_ct mm_CM mm_cl mm_WS mm_NW me_3 := mm_MC_of rfl rfl ck_3 (by rw [sf_3]; exact List.forall_mem_cons.mpr ⟨sq_8, List.forall_mem_cons.mpr ⟨sq_4, List.forall_mem_cons.mpr ⟨sq_5, List.forall_mem_cons.mpr ⟨sq_12, List.forall_mem_cons.mpr ⟨sq_13, List.forall_mem_cons.mpr ⟨sq_6, List.forall_mem_cons.mpr ⟨sq_7, List.forall_mem_cons.mpr ⟨sq_10, fun _ h => nomatch h⟩⟩⟩⟩⟩⟩⟩⟩)
theorem mo_3 : mm_MO mm_ct mm_CM mm_cl mm_WS mm_NW me_3 := ⟨by decide, kw_27, kw_5, by decide, by decide +kernel, mc_3⟩
theorem sq_14 : mm_Pq mm_ct mm_CM mm_cl mm_WS mm_NW "SelfSorting$Judge" "" (.getfield 60, 3, 5, 1) := ⟨(RX5, TX5, 8), rfl, by decide, by decide, kw_28⟩
theorem sq_15 : mm_Pq mm_ct mm_CM mm_cl mm_WS mm_NW "SelfSorting$Judge" "" (.getfield 63, 3, 5, 0) := ⟨(RX5, TX5, 8), rfl, by decide, by decide, kw_29⟩
theorem sq_16 : mm_Pq mm_ct mm_CM mm_cl mm_WS mm_NW "SelfSorting$Judge" "" (.invokevirtual 66, 3, 3, 1) := ⟨kw_31, kw_32, kw_30, _, _, rfl⟩
set_option maxRecDepth 100000 in
theorem ck_4 : mm_cks cX0_fullness 0 cd_4 = true := by decide +kernel
set_option maxRecDepth 100000 in
theorem sf_4 : mm_spf cd_4 = [(.getfield 50, 3, 1, 0), (.getfield 60, 3, 5, 1), (.getfield 50, 3, 1, 0), (.getfield 63, 3, 5, 0), (.invokevirtual 66, 3, 3, 1)] := by decide +kernel
theorem mc_4 : mm_MC mm_ct mm_CM mm_cl mm_WS mm_NW me_4 := mm_MC_of rfl rfl ck_4 (by rw [sf_4]; exact List.forall_mem_cons.mpr ⟨sq_12, List.forall_mem_cons.mpr ⟨sq_14, List.forall_mem_cons.mpr ⟨sq_12, List.forall_mem_cons.mpr ⟨sq_15, List.forall_mem_cons.mpr ⟨sq_16, fun _ h => nomatch h⟩⟩⟩⟩⟩)
theorem mo_4 : mm_MO mm_ct mm_CM mm_cl mm_WS mm_NW me_4 := ⟨by decide, kw_33, kw_5, by decide, by decide +kernel, mc_4⟩
set_option maxRecDepth 100000 in
theorem ck_5 : mm_cks cX0_falling 0 cd_5 = true := by decide +kernel
set_option maxRecDepth 100000 in
theorem sf_5 : mm_spf cd_5 = [(.getfield 18, 3, 1, 11), (.invokevirtual 24, 3, 13, 1), (.invokevirtual 28, 3, 80, 1), (.getfield 50, 3, 1, 0), (.getfield 60, 3, 5, 1), (.getfield 50, 3, 1, 0), (.getfield 63, 3, 5, 0), (.invokevirtual 34, 3, 6, 1), (.getfield 9, 3, 0, 0), (.getfield 9, 3, 0, 0), (.getfield 9, 3, 0, 0), (.invokevirtual 42, 3, 7, 1)] := by decide +kernel
theorem mc_5 : mm_MC mm_ct mm_CM mm_cl mm_WS mm_NW me_5 := mm_MC_of rfl rfl ck_5 (by rw [sf_5]; exact List.forall_mem_cons.mpr ⟨sq_4, List.forall_mem_cons.mpr ⟨sq_5, List.forall_mem_cons.mpr ⟨sq_6, List.forall_mem_cons.mpr ⟨sq_12, List.forall_mem_cons.mpr ⟨sq_14, List.forall_mem_cons.mpr ⟨sq_12, List.forall_mem_cons.mpr ⟨sq_15, List.forall_mem_cons.mpr ⟨sq_7, List.forall_mem_cons.mpr ⟨sq_9, List.forall_mem_cons.mpr ⟨sq_9, List.forall_mem_cons.mpr ⟨sq_9, List.forall_mem_cons.mpr ⟨sq_10, fun _ h => nomatch h⟩⟩⟩⟩⟩⟩⟩⟩⟩⟩⟩⟩)
theorem mo_5 : mm_MO mm_ct mm_CM mm_cl mm_WS mm_NW me_5 := ⟨by decide, kw_34, kw_5, by decide, by decide +kernel, mc_5⟩
set_option maxRecDepth 100000 in
theorem ck_6 : mm_cks cX0_setBook 0 cd_6 = true := by decide +kernel
set_option maxRecDepth 100000 in
theorem sf_6 : mm_spf cd_6 = [(.getfield 38, 3, 1, 3), (.getfield 9, 3, 0, 0), (.getfield 9, 3, 0, 0), (.getfield 9, 3, 0, 0), (.getfield 9, 3, 0, 0), (.getfield 9, 3, 0, 0), (.getfield 9, 3, 0, 0), (.getfield 50, 3, 1, 0), (.getfield 54, 3, 5, 5)] := by decide +kernel
theorem mc_6 : mm_MC mm_ct mm_CM mm_cl mm_WS mm_NW me_6 := mm_MC_of rfl rfl ck_6 (by rw [sf_6]; exact List.forall_mem_cons.mpr ⟨sq_8, List.forall_mem_cons.mpr ⟨sq_9, List.forall_mem_cons.mpr ⟨sq_9, List.forall_mem_cons.mpr ⟨sq_9, List.forall_mem_cons.mpr ⟨sq_9, List.forall_mem_cons.mpr ⟨sq_9, List.forall_mem_cons.mpr ⟨sq_9, List.forall_mem_cons.mpr ⟨sq_12, List.forall_mem_cons.mpr ⟨sq_13, fun _ h => nomatch h⟩⟩⟩⟩⟩⟩⟩⟩⟩)
theorem mo_6 : mm_MO mm_ct mm_CM mm_cl mm_WS mm_NW me_6 := ⟨by decide, kw_35, kw_5, by decide, by decide +kernel, mc_6⟩
theorem sq_17 : mm_Pq mm_ct mm_CM mm_cl mm_WS mm_NW "SelfSorting$Judge" "" (.getfield 70, 3, 6, 3) := ⟨(RX6, TX6, 8), rfl, by decide, by decide, kw_36⟩
theorem sq_18 : mm_Pq mm_ct mm_CM mm_cl mm_WS mm_NW "SelfSorting$Judge" "" (.getfield 73, 3, 6, 4) := ⟨(RX6, TX6, 8), rfl, by decide, by decide, kw_37⟩
theorem sq_19 : mm_Pq mm_ct mm_CM mm_cl mm_WS mm_NW "SelfSorting$Judge" "" (.getfield 76, 3, 6, 2) := ⟨(RX6, TX6, 8), rfl, by decide, by decide, kw_38⟩
theorem sq_20 : mm_Pq mm_ct mm_CM mm_cl mm_WS mm_NW "SelfSorting$Judge" "" (.getfield 15, 3, 0, 1) := ⟨(RX0, TX0, 2), rfl, by decide, by decide, kw_3⟩
theorem sq_21 : mm_Pq mm_ct mm_CM mm_cl mm_WS mm_NW "SelfSorting$Judge" "" (.invokestatic 79, 3, 8, 0) := ⟨kw_40, Or.inl kw_39⟩
set_option maxRecDepth 100000 in
theorem ck_7 : mm_cks cX0_run 0 cd_7 = true := by decide +kernel
set_option maxRecDepth 100000 in
theorem sf_7 : mm_spf cd_7 = [(.getfield 70, 3, 6, 3), (.getfield 73, 3, 6, 4), (.getfield 76, 3, 6, 2), (.getfield 15, 3, 0, 1), (.getfield 15, 3, 0, 1), (.getfield 9, 3, 0, 0), (.getfield 15, 3, 0, 1), (.getfield 15, 3, 0, 1), (.getfield 15, 3, 0, 1), (.getfield 15, 3, 0, 1), (.getfield 15, 3, 0, 1), (.getfield 15, 3, 0, 1), (.getfield 15, 3, 0, 1), (.invokestatic 79, 3, 8, 0), (.getfield 15, 3, 0, 1)] := by decide +kernel
theorem mc_7 : mm_MC mm_ct mm_CM mm_cl mm_WS mm_NW me_7 := mm_MC_of rfl rfl ck_7 (by rw [sf_7]; exact List.forall_mem_cons.mpr ⟨sq_17, List.forall_mem_cons.mpr ⟨sq_18, List.forall_mem_cons.mpr ⟨sq_19, List.forall_mem_cons.mpr ⟨sq_20, List.forall_mem_cons.mpr ⟨sq_20, List.forall_mem_cons.mpr ⟨sq_9, List.forall_mem_cons.mpr ⟨sq_20, List.forall_mem_cons.mpr ⟨sq_20, List.forall_mem_cons.mpr ⟨sq_20, List.forall_mem_cons.mpr ⟨sq_20, List.forall_mem_cons.mpr ⟨sq_20, List.forall_mem_cons.mpr ⟨sq_20, List.forall_mem_cons.mpr ⟨sq_20, List.forall_mem_cons.mpr ⟨sq_21, List.forall_mem_cons.mpr ⟨sq_20, fun _ h => nomatch h⟩⟩⟩⟩⟩⟩⟩⟩⟩⟩⟩⟩⟩⟩⟩)
theorem mo_7 : mm_MO mm_ct mm_CM mm_cl mm_WS mm_NW me_7 := ⟨by decide, kw_41, kw_5, by decide, by decide +kernel, mc_7⟩
theorem sq_22 : mm_Pq mm_ct mm_CM mm_cl mm_WS mm_NW "SelfSorting$Judge" "" (.ldc2_w 83, 3, 1000000, 0) := ⟨rfl, kw_42⟩
theorem sq_23 : mm_Pq mm_ct mm_CM mm_cl mm_WS mm_NW "SelfSorting$Judge" "" (.ldc 85, 2, 1000000, 0) := ⟨⟨rfl, fun _ => kw_43⟩, fun h => by cases h⟩
theorem sq_24 : mm_Pq mm_ct mm_CM mm_cl mm_WS mm_NW "SelfSorting$Judge" "" (.ldc2_w 86, 3, 18446744073708551616, 0) := ⟨rfl, kw_44⟩
theorem sq_25 : mm_Pq mm_ct mm_CM mm_cl mm_WS mm_NW "SelfSorting$Judge" "" (.ldc 88, 2, 4293967296, 0) := ⟨⟨rfl, fun _ => kw_45⟩, fun h => by cases h⟩
set_option maxRecDepth 100000 in
theorem ck_8 : mm_cks cX0_combined 0 cd_8 = true := by decide +kernel
set_option maxRecDepth 100000 in
theorem sf_8 : mm_spf cd_8 = [(.ldc2_w 83, 3, 1000000, 0), (.ldc 85, 2, 1000000, 0), (.ldc2_w 86, 3, 18446744073708551616, 0), (.ldc 88, 2, 4293967296, 0)] := by decide +kernel
theorem mc_8 : mm_MC mm_ct mm_CM mm_cl mm_WS mm_NW me_8 := mm_MC_of rfl rfl ck_8 (by rw [sf_8]; exact List.forall_mem_cons.mpr ⟨sq_22, List.forall_mem_cons.mpr ⟨sq_23, List.forall_mem_cons.mpr ⟨sq_24, List.forall_mem_cons.mpr ⟨sq_25, fun _ h => nomatch h⟩⟩⟩⟩)
theorem mo_8 : mm_MO mm_ct mm_CM mm_cl mm_WS mm_NW me_8 := ⟨by decide, kw_46, kw_5, by decide, by decide +kernel, mc_8⟩
theorem sq_26 : mm_Pq mm_ct mm_CM mm_cl mm_WS mm_NW "SelfSorting$Library" "" (.invokespecial 3, 3, 0, 3) := ⟨kw_47, kw_1356, kw_1357⟩
theorem sq_27 : mm_Pq mm_ct mm_CM mm_cl mm_WS mm_NW "SelfSorting$Library" "" (.new 9, 3, 5, 8) := ⟨(RX5, TX5, 8), rfl, by decide, rfl, kw_48, kw_49, kw_50⟩
theorem sq_28 : mm_Pq mm_ct mm_CM mm_cl mm_WS mm_NW "SelfSorting$Library" "" (.invokespecial 11, 3, 66, 2) := ⟨rfl, rfl, kw_52, Or.inl kw_51⟩
theorem sq_29 : mm_Pq mm_ct mm_CM mm_cl mm_WS mm_NW "SelfSorting$Library" "" (.putfield 12, 3, 1, 0) := ⟨⟨(RX1, TX1, 13), rfl, by decide, by decide, kw_53⟩, fun r h g => by cases h; rfl⟩
theorem sq_30 : mm_Pq mm_ct mm_CM mm_cl mm_WS mm_NW "SelfSorting$Library" "" (.anewarray 9, 3, 104, 0) := ⟨⟨"SelfSorting$Scene", rfl, by decide, by decide, kw_48⟩, fun C h => by cases h; exact List.mem_of_getElem? (i := 0) rfl⟩
theorem sq_31 : mm_Pq mm_ct mm_CM mm_cl mm_WS mm_NW "SelfSorting$Library" "" (.putfield 18, 3, 1, 1) := ⟨⟨(RX1, TX1, 13), rfl, by decide, by decide, kw_54⟩, fun r h g => by cases h; rfl⟩
theorem sq_32 : mm_Pq mm_ct mm_CM mm_cl mm_WS mm_NW "SelfSorting$Library" "" (.newarray .int, 2, 0, 0) := kw_1
theorem sq_33 : mm_Pq mm_ct mm_CM mm_cl mm_WS mm_NW "SelfSorting$Library" "" (.putfield 22, 3, 1, 2) := ⟨⟨(RX1, TX1, 13), rfl, by decide, by decide, kw_55⟩, fun r h g => by cases h; rfl⟩
theorem sq_34 : mm_Pq mm_ct mm_CM mm_cl mm_WS mm_NW "SelfSorting$Library" "" (.multianewarray 26 2, 4, 0, 0) := ⟨⟨rfl, kw_56, kw_1⟩, List.mem_of_getElem? (i := 2) rfl⟩
theorem sq_35 : mm_Pq mm_ct mm_CM mm_cl mm_WS mm_NW "SelfSorting$Library" "" (.putfield 28, 3, 1, 3) := ⟨⟨(RX1, TX1, 13), rfl, by decide, by decide, kw_57⟩, fun r h g => by cases h; rfl⟩
theorem sq_36 : mm_Pq mm_ct mm_CM mm_cl mm_WS mm_NW "SelfSorting$Library" "" (.anewarray 31, 3, 105, 0) := ⟨⟨"SelfSorting$Text", rfl, by decide, by decide, kw_58⟩, fun C h => by cases h; exact List.mem_of_getElem? (i := 1) rfl⟩
theorem sq_37 : mm_Pq mm_ct mm_CM mm_cl mm_WS mm_NW "SelfSorting$Library" "" (.putfield 33, 3, 1, 4) := ⟨⟨(RX1, TX1, 13), rfl, by decide, by decide, kw_59⟩, fun r h g => by cases h; rfl⟩
theorem sq_38 : mm_Pq mm_ct mm_CM mm_cl mm_WS mm_NW "SelfSorting$Library" "" (.putfield 37, 3, 1, 5) := ⟨⟨(RX1, TX1, 13), rfl, by decide, by decide, kw_60⟩, fun r h g => by cases h; rfl⟩
theorem sq_39 : mm_Pq mm_ct mm_CM mm_cl mm_WS mm_NW "SelfSorting$Library" "" (.putfield 40, 3, 1, 9) := ⟨⟨(RX1, TX1, 13), rfl, by decide, by decide, kw_61⟩, fun r h g => by cases h; cases g⟩
theorem sq_40 : mm_Pq mm_ct mm_CM mm_cl mm_WS mm_NW "SelfSorting$Library" "" (.putfield 44, 3, 1, 11) := ⟨⟨(RX1, TX1, 13), rfl, by decide, by decide, kw_62⟩, fun r h g => by cases h; cases g⟩
theorem sq_41 : mm_Pq mm_ct mm_CM mm_cl mm_WS mm_NW "SelfSorting$Library" "" (.getfield 18, 3, 1, 1) := ⟨(RX1, TX1, 13), rfl, by decide, by decide, kw_54⟩
theorem sq_42 : mm_Pq mm_ct mm_CM mm_cl mm_WS mm_NW "SelfSorting$Library" "" (.getfield 22, 3, 1, 2) := ⟨(RX1, TX1, 13), rfl, by decide, by decide, kw_55⟩
theorem sq_43 : mm_Pq mm_ct mm_CM mm_cl mm_WS mm_NW "SelfSorting$Library" "" (.getfield 33, 3, 1, 4) := ⟨(RX1, TX1, 13), rfl, by decide, by decide, kw_59⟩
theorem sq_44 : mm_Pq mm_ct mm_CM mm_cl mm_WS mm_NW "SelfSorting$Library" "" (.new 31, 3, 6, 8) := ⟨(RX6, TX6, 8), rfl, by decide, rfl, kw_58, kw_63, kw_64⟩
theorem sq_45 : mm_Pq mm_ct mm_CM mm_cl mm_WS mm_NW "SelfSorting$Library" "" (.invokespecial 47, 3, 77, 2) := ⟨rfl, rfl, kw_65, Or.inr ⟨_, nw_3⟩⟩
set_option maxRecDepth 100000 in
theorem ck_9 : mm_cks cX1_init 0 cd_9 = true := by decide +kernel
set_option maxRecDepth 100000 in
theorem sf_9 : mm_spf cd_9 = [(.invokespecial 3, 3, 0, 3), (.new 9, 3, 5, 8), (.invokespecial 11, 3, 66, 2), (.putfield 12, 3, 1, 0), (.anewarray 9, 3, 104, 0), (.putfield 18, 3, 1, 1), (.newarray .int, 2, 0, 0), (.putfield 22, 3, 1, 2), (.multianewarray 26 2, 4, 0, 0), (.putfield 28, 3, 1, 3), (.anewarray 31, 3, 105, 0), (.putfield 33, 3, 1, 4), (.newarray .int, 2, 0, 0), (.putfield 37, 3, 1, 5), (.putfield 40, 3, 1, 9), (.putfield 44, 3, 1, 11), (.getfield 18, 3, 1, 1), (.new 9, 3, 5, 8), (.invokespecial 11, 3, 66, 2), (.getfield 22, 3, 1, 2), (.getfield 33, 3, 1, 4), (.new 31, 3, 6, 8), (.invokespecial 47, 3, 77, 2)] := by decide +kernel
theorem mc_9 : mm_MC mm_ct mm_CM mm_cl mm_WS mm_NW me_9 := mm_MC_of rfl rfl ck_9 (by rw [sf_9]; exact List.forall_mem_cons.mpr ⟨sq_26, List.forall_mem_cons.mpr ⟨sq_27, List.forall_mem_cons.mpr ⟨sq_28, List.forall_mem_cons.mpr ⟨sq_29, List.forall_mem_cons.mpr ⟨sq_30, List.forall_mem_cons.mpr ⟨sq_31, List.forall_mem_cons.mpr ⟨sq_32, List.forall_mem_cons.mpr ⟨sq_33, List.forall_mem_cons.mpr ⟨sq_34, List.forall_mem_cons.mpr ⟨sq_35, List.forall_mem_cons.mpr ⟨sq_36, List.forall_mem_cons.mpr ⟨sq_37, List.forall_mem_cons.mpr ⟨sq_32, List.forall_mem_cons.mpr ⟨sq_38, List.forall_mem_cons.mpr ⟨sq_39, List.forall_mem_cons.mpr ⟨sq_40, List.forall_mem_cons.mpr ⟨sq_41, List.forall_mem_cons.mpr ⟨sq_27, List.forall_mem_cons.mpr ⟨sq_28, List.forall_mem_cons.mpr ⟨sq_42, List.forall_mem_cons.mpr ⟨sq_43, List.forall_mem_cons.mpr ⟨sq_44, List.forall_mem_cons.mpr ⟨sq_45, fun _ h => nomatch h⟩⟩⟩⟩⟩⟩⟩⟩⟩⟩⟩⟩⟩⟩⟩⟩⟩⟩⟩⟩⟩⟩⟩)
theorem mo_9 : mm_MO mm_ct mm_CM mm_cl mm_WS mm_NW me_9 := ⟨by decide, kw_66, kw_67, by decide, by decide +kernel, mc_9⟩
theorem sq_46 : mm_Pq mm_ct mm_CM mm_cl mm_WS mm_NW "SelfSorting$Library" "" (.getfield 12, 3, 1, 0) := ⟨(RX1, TX1, 13), rfl, by decide, by decide, kw_53⟩
theorem sq_47 : mm_Pq mm_ct mm_CM mm_cl mm_WS mm_NW "SelfSorting$Library" "" (.invokevirtual 48, 3, 67, 1) := ⟨kw_69, kw_70, kw_68, _, _, rfl⟩
theorem sq_48 : mm_Pq mm_ct mm_CM mm_cl mm_WS mm_NW "SelfSorting$Library" "" (.invokestatic 52, 3, 0, 4) := ⟨kw_71, kw_1353, kw_1354, kw_1355⟩
theorem sq_49 : mm_Pq mm_ct mm_CM mm_cl mm_WS mm_NW "SelfSorting$Library" "" (.getfield 28, 3, 1, 3) := ⟨(RX1, TX1, 13), rfl, by decide, by decide, kw_57⟩
theorem sq_50 : mm_Pq mm_ct mm_CM mm_cl mm_WS mm_NW "SelfSorting$Library" "" (.invokevirtual 58, 3, 79, 1) := ⟨kw_73, kw_74, kw_72, _, _, rfl⟩
theorem sq_51 : mm_Pq mm_ct mm_CM mm_cl mm_WS mm_NW "SelfSorting$Library" "" (.getfield 37, 3, 1, 5) := ⟨(RX1, TX1, 13), rfl, by decide, by decide, kw_60⟩
theorem sq_52 : mm_Pq mm_ct mm_CM mm_cl mm_WS mm_NW "SelfSorting$Library" "" (.getfield 62, 3, 1, 6) := ⟨(RX1, TX1, 13), rfl, by decide, by decide, kw_75⟩
theorem sq_53 : mm_Pq mm_ct mm_CM mm_cl mm_WS mm_NW "SelfSorting$Library" "" (.putfield 62, 3, 1, 6) := ⟨⟨(RX1, TX1, 13), rfl, by decide, by decide, kw_75⟩, fun r h g => by cases h; cases g⟩
theorem sq_54 : mm_Pq mm_ct mm_CM mm_cl mm_WS mm_NW "SelfSorting$Library" "" (.getfield 65, 3, 1, 7) := ⟨(RX1, TX1, 13), rfl, by decide, by decide, kw_76⟩
theorem sq_55 : mm_Pq mm_ct mm_CM mm_cl mm_WS mm_NW "SelfSorting$Library" "" (.putfield 65, 3, 1, 7) := ⟨⟨(RX1, TX1, 13), rfl, by decide, by decide, kw_76⟩, fun r h g => by cases h; cases g⟩
theorem sq_56 : mm_Pq mm_ct mm_CM mm_cl mm_WS mm_NW "SelfSorting$Library" "" (.getfield 68, 3, 1, 8) := ⟨(RX1, TX1, 13), rfl, by decide, by decide, kw_77⟩
theorem sq_57 : mm_Pq mm_ct mm_CM mm_cl mm_WS mm_NW "SelfSorting$Library" "" (.putfield 68, 3, 1, 8) := ⟨⟨(RX1, TX1, 13), rfl, by decide, by decide, kw_77⟩, fun r h g => by cases h; cases g⟩
theorem sq_58 : mm_Pq mm_ct mm_CM mm_cl mm_WS mm_NW "SelfSorting$Library" "" (.getfield 40, 3, 1, 9) := ⟨(RX1, TX1, 13), rfl, by decide, by decide, kw_61⟩
theorem sq_59 : mm_Pq mm_ct mm_CM mm_cl mm_WS mm_NW "SelfSorting$Library" "" (.getfield 71, 3, 1, 10) := ⟨(RX1, TX1, 13), rfl, by decide, by decide, kw_78⟩
theorem sq_60 : mm_Pq mm_ct mm_CM mm_cl mm_WS mm_NW "SelfSorting$Library" "" (.putfield 71, 3, 1, 10) := ⟨⟨(RX1, TX1, 13), rfl, by decide, by decide, kw_78⟩, fun r h g => by cases h; cases g⟩
theorem sq_61 : mm_Pq mm_ct mm_CM mm_cl mm_WS mm_NW "SelfSorting$Library" "" (.getfield 44, 3, 1, 11) := ⟨(RX1, TX1, 13), rfl, by decide, by decide, kw_62⟩
theorem sq_62 : mm_Pq mm_ct mm_CM mm_cl mm_WS mm_NW "SelfSorting$Library" "" (.getfield 74, 3, 1, 12) := ⟨(RX1, TX1, 13), rfl, by decide, by decide, kw_79⟩
theorem sq_63 : mm_Pq mm_ct mm_CM mm_cl mm_WS mm_NW "SelfSorting$Library" "" (.putfield 74, 3, 1, 12) := ⟨⟨(RX1, TX1, 13), rfl, by decide, by decide, kw_79⟩, fun r h g => by cases h; cases g⟩
set_option maxRecDepth 100000 in
theorem ck_10 : mm_cks cX1_copyAll 0 cd_10 = true := by decide +kernel
set_option maxRecDepth 100000 in
theorem sf_10 : mm_spf cd_10 = [(.getfield 12, 3, 1, 0), (.getfield 12, 3, 1, 0), (.invokevirtual 48, 3, 67, 1), (.getfield 18, 3, 1, 1), (.getfield 18, 3, 1, 1), (.invokevirtual 48, 3, 67, 1), (.getfield 22, 3, 1, 2), (.getfield 22, 3, 1, 2), (.invokestatic 52, 3, 0, 4), (.getfield 28, 3, 1, 3), (.getfield 28, 3, 1, 3), (.invokestatic 52, 3, 0, 4), (.getfield 33, 3, 1, 4), (.getfield 33, 3, 1, 4), (.invokevirtual 58, 3, 79, 1), (.getfield 37, 3, 1, 5), (.getfield 37, 3, 1, 5), (.invokestatic 52, 3, 0, 4), (.getfield 62, 3, 1, 6), (.putfield 62, 3, 1, 6), (.getfield 65, 3, 1, 7), (.putfield 65, 3, 1, 7), (.getfield 68, 3, 1, 8), (.putfield 68, 3, 1, 8), (.getfield 40, 3, 1, 9), (.putfield 40, 3, 1, 9), (.getfield 71, 3, 1, 10), (.putfield 71, 3, 1, 10), (.getfield 44, 3, 1, 11), (.putfield 44, 3, 1, 11), (.getfield 74, 3, 1, 12), (.putfield 74, 3, 1, 12)] := by decide +kernel
theorem mc_10 : mm_MC mm_ct mm_CM mm_cl mm_WS mm_NW me_10 := mm_MC_of rfl rfl ck_10 (by rw [sf_10]; exact List.forall_mem_cons.mpr ⟨sq_46, List.forall_mem_cons.mpr ⟨sq_46, List.forall_mem_cons.mpr ⟨sq_47, List.forall_mem_cons.mpr ⟨sq_41, List.forall_mem_cons.mpr ⟨sq_41, List.forall_mem_cons.mpr ⟨sq_47, List.forall_mem_cons.mpr ⟨sq_42, List.forall_mem_cons.mpr ⟨sq_42, List.forall_mem_cons.mpr ⟨sq_48, List.forall_mem_cons.mpr ⟨sq_49, List.forall_mem_cons.mpr ⟨sq_49, List.forall_mem_cons.mpr ⟨sq_48, List.forall_mem_cons.mpr ⟨sq_43, List.forall_mem_cons.mpr ⟨sq_43, List.forall_mem_cons.mpr ⟨sq_50, List.forall_mem_cons.mpr ⟨sq_51, List.forall_mem_cons.mpr ⟨sq_51, List.forall_mem_cons.mpr ⟨sq_48, List.forall_mem_cons.mpr ⟨sq_52, List.forall_mem_cons.mpr ⟨sq_53, List.forall_mem_cons.mpr ⟨sq_54, List.forall_mem_cons.mpr ⟨sq_55, List.forall_mem_cons.mpr ⟨sq_56, List.forall_mem_cons.mpr ⟨sq_57, List.forall_mem_cons.mpr ⟨sq_58, List.forall_mem_cons.mpr ⟨sq_39, List.forall_mem_cons.mpr ⟨sq_59, List.forall_mem_cons.mpr ⟨sq_60, List.forall_mem_cons.mpr ⟨sq_61, List.forall_mem_cons.mpr ⟨sq_40, List.forall_mem_cons.mpr ⟨sq_62, List.forall_mem_cons.mpr ⟨sq_63, fun _ h => nomatch h⟩⟩⟩⟩⟩⟩⟩⟩⟩⟩⟩⟩⟩⟩⟩⟩⟩⟩⟩⟩⟩⟩⟩⟩⟩⟩⟩⟩⟩⟩⟩⟩)
theorem mo_10 : mm_MO mm_ct mm_CM mm_cl mm_WS mm_NW me_10 := ⟨by decide, kw_80, kw_67, by decide, by decide +kernel, mc_10⟩
set_option maxRecDepth 100000 in
theorem ck_11 : mm_cks cX1_keepStep 0 cd_11 = true := by decide +kernel
set_option maxRecDepth 100000 in
theorem sf_11 : mm_spf cd_11 = [(.getfield 18, 3, 1, 1), (.getfield 62, 3, 1, 6), (.getfield 65, 3, 1, 7), (.getfield 12, 3, 1, 0), (.invokevirtual 48, 3, 67, 1), (.getfield 65, 3, 1, 7), (.getfield 65, 3, 1, 7), (.putfield 65, 3, 1, 7), (.getfield 62, 3, 1, 6), (.putfield 62, 3, 1, 6)] := by decide +kernel
theorem mc_11 : mm_MC mm_ct mm_CM mm_cl mm_WS mm_NW me_11 := mm_MC_of rfl rfl ck_11 (by rw [sf_11]; exact List.forall_mem_cons.mpr ⟨sq_41, List.forall_mem_cons.mpr ⟨sq_52, List.forall_mem_cons.mpr ⟨sq_54, List.forall_mem_cons.mpr ⟨sq_46, List.forall_mem_cons.mpr ⟨sq_47, List.forall_mem_cons.mpr ⟨sq_54, List.forall_mem_cons.mpr ⟨sq_54, List.forall_mem_cons.mpr ⟨sq_55, List.forall_mem_cons.mpr ⟨sq_52, List.forall_mem_cons.mpr ⟨sq_53, fun _ h => nomatch h⟩⟩⟩⟩⟩⟩⟩⟩⟩⟩)
theorem mo_11 : mm_MO mm_ct mm_CM mm_cl mm_WS mm_NW me_11 := ⟨by decide, kw_81, kw_67, by decide, by decide +kernel, mc_11⟩
set_option maxRecDepth 100000 in
theorem ck_12 : mm_cks cX1_takeBackStep 0 cd_12 = true := by decide +kernel
set_option maxRecDepth 100000 in
theorem sf_12 : mm_spf cd_12 = [(.getfield 65, 3, 1, 7), (.getfield 65, 3, 1, 7), (.putfield 65, 3, 1, 7), (.getfield 12, 3, 1, 0), (.getfield 18, 3, 1, 1), (.getfield 62, 3, 1, 6), (.getfield 65, 3, 1, 7), (.invokevirtual 48, 3, 67, 1), (.getfield 65, 3, 1, 7)] := by decide +kernel
theorem mc_12 : mm_MC mm_ct mm_CM mm_cl mm_WS mm_NW me_12 := mm_MC_of rfl rfl ck_12 (by rw [sf_12]; exact List.forall_mem_cons.mpr ⟨sq_54, List.forall_mem_cons.mpr ⟨sq_54, List.forall_mem_cons.mpr ⟨sq_55, List.forall_mem_cons.mpr ⟨sq_46, List.forall_mem_cons.mpr ⟨sq_41, List.forall_mem_cons.mpr ⟨sq_52, List.forall_mem_cons.mpr ⟨sq_54, List.forall_mem_cons.mpr ⟨sq_47, List.forall_mem_cons.mpr ⟨sq_54, fun _ h => nomatch h⟩⟩⟩⟩⟩⟩⟩⟩⟩)
theorem mo_12 : mm_MO mm_ct mm_CM mm_cl mm_WS mm_NW me_12 := ⟨by decide, kw_82, kw_67, by decide, by decide +kernel, mc_12⟩
set_option maxRecDepth 100000 in
theorem ck_13 : mm_cks cX1_textAt 0 cd_13 = true := by decide +kernel
set_option maxRecDepth 100000 in
theorem sf_13 : mm_spf cd_13 = [(.getfield 33, 3, 1, 4)] := by decide +kernel
theorem mc_13 : mm_MC mm_ct mm_CM mm_cl mm_WS mm_NW me_13 := mm_MC_of rfl rfl ck_13 (by rw [sf_13]; exact List.forall_mem_cons.mpr ⟨sq_43, fun _ h => nomatch h⟩)
theorem mo_13 : mm_MO mm_ct mm_CM mm_cl mm_WS mm_NW me_13 := ⟨by decide, kw_83, kw_67, by decide, by decide +kernel, mc_13⟩
theorem sq_64 : mm_Pq mm_ct mm_CM mm_cl mm_WS mm_NW "SelfSorting$Library" "" (.invokevirtual 77, 3, 13, 1) := ⟨kw_8, kw_9, kw_84, _, _, rfl⟩
theorem sq_65 : mm_Pq mm_ct mm_CM mm_cl mm_WS mm_NW "SelfSorting$Library" "" (.getfield 81, 3, 6, 7) := ⟨(RX6, TX6, 8), rfl, by decide, by decide, kw_85⟩
set_option maxRecDepth 100000 in
theorem ck_14 : mm_cks cX1_needed 0 cd_14 = true := by decide +kernel
set_option maxRecDepth 100000 in
theorem sf_14 : mm_spf cd_14 = [(.getfield 44, 3, 1, 11), (.invokevirtual 77, 3, 13, 1), (.getfield 81, 3, 6, 7), (.getfield 81, 3, 6, 7), (.getfield 40, 3, 1, 9)] := by decide +kernel
theorem mc_14 : mm_MC mm_ct mm_CM mm_cl mm_WS mm_NW me_14 := mm_MC_of rfl rfl ck_14 (by rw [sf_14]; exact List.forall_mem_cons.mpr ⟨sq_61, List.forall_mem_cons.mpr ⟨sq_64, List.forall_mem_cons.mpr ⟨sq_65, List.forall_mem_cons.mpr ⟨sq_65, List.forall_mem_cons.mpr ⟨sq_58, fun _ h => nomatch h⟩⟩⟩⟩⟩)
theorem mo_14 : mm_MO mm_ct mm_CM mm_cl mm_WS mm_NW me_14 := ⟨by decide, kw_86, kw_67, by decide, by decide +kernel, mc_14⟩
theorem sq_66 : mm_Pq mm_ct mm_CM mm_cl mm_WS mm_NW "SelfSorting$Nights" "" (.invokespecial 3, 3, 0, 3) := ⟨kw_87, kw_1356, kw_1357⟩
theorem sq_67 : mm_Pq mm_ct mm_CM mm_cl mm_WS mm_NW "SelfSorting$Nights" "" (.newarray .int, 2, 0, 0) := kw_1
theorem sq_68 : mm_Pq mm_ct mm_CM mm_cl mm_WS mm_NW "SelfSorting$Nights" "" (.putfield 9, 3, 2, 0) := ⟨⟨(RX2, TX2, 4), rfl, by decide, by decide, kw_88⟩, fun r h g => by cases h; rfl⟩
theorem sq_69 : mm_Pq mm_ct mm_CM mm_cl mm_WS mm_NW "SelfSorting$Nights" "" (.putfield 15, 3, 2, 1) := ⟨⟨(RX2, TX2, 4), rfl, by decide, by decide, kw_89⟩, fun r h g => by cases h; rfl⟩
theorem sq_70 : mm_Pq mm_ct mm_CM mm_cl mm_WS mm_NW "SelfSorting$Nights" "" (.newarray .long, 2, 0, 0) := kw_90
theorem sq_71 : mm_Pq mm_ct mm_CM mm_cl mm_WS mm_NW "SelfSorting$Nights" "" (.putfield 18, 3, 2, 2) := ⟨⟨(RX2, TX2, 4), rfl, by decide, by decide, kw_91⟩, fun r h g => by cases h; rfl⟩
set_option maxRecDepth 100000 in
theorem ck_15 : mm_cks cX2_init 0 cd_15 = true := by decide +kernel
set_option maxRecDepth 100000 in
theorem sf_15 : mm_spf cd_15 = [(.invokespecial 3, 3, 0, 3), (.newarray .int, 2, 0, 0), (.putfield 9, 3, 2, 0), (.newarray .int, 2, 0, 0), (.putfield 15, 3, 2, 1), (.newarray .long, 2, 0, 0), (.putfield 18, 3, 2, 2)] := by decide +kernel
theorem mc_15 : mm_MC mm_ct mm_CM mm_cl mm_WS mm_NW me_15 := mm_MC_of rfl rfl ck_15 (by rw [sf_15]; exact List.forall_mem_cons.mpr ⟨sq_66, List.forall_mem_cons.mpr ⟨sq_67, List.forall_mem_cons.mpr ⟨sq_68, List.forall_mem_cons.mpr ⟨sq_67, List.forall_mem_cons.mpr ⟨sq_69, List.forall_mem_cons.mpr ⟨sq_70, List.forall_mem_cons.mpr ⟨sq_71, fun _ h => nomatch h⟩⟩⟩⟩⟩⟩⟩)
theorem mo_15 : mm_MO mm_ct mm_CM mm_cl mm_WS mm_NW me_15 := ⟨by decide, kw_92, kw_93, by decide, by decide +kernel, mc_15⟩
theorem sq_72 : mm_Pq mm_ct mm_CM mm_cl mm_WS mm_NW "SelfSorting$Nights" "" (.invokevirtual 22, 3, 14, 1) := ⟨kw_95, kw_96, kw_94, _, _, rfl⟩
theorem sq_73 : mm_Pq mm_ct mm_CM mm_cl mm_WS mm_NW "SelfSorting$Nights" "" (.getfield 15, 3, 2, 1) := ⟨(RX2, TX2, 4), rfl, by decide, by decide, kw_89⟩
theorem sq_74 : mm_Pq mm_ct mm_CM mm_cl mm_WS mm_NW "SelfSorting$Nights" "" (.invokestatic 28, 3, 128, 0) := ⟨kw_97, Or.inr ⟨_, nw_9⟩⟩
theorem sq_75 : mm_Pq mm_ct mm_CM mm_cl mm_WS mm_NW "SelfSorting$Nights" "" (.invokevirtual 32, 3, 2, 1) := ⟨kw_99, kw_100, kw_98, _, _, rfl⟩
theorem sq_76 : mm_Pq mm_ct mm_CM mm_cl mm_WS mm_NW "SelfSorting$Nights" "" (.invokestatic 38, 3, 288, 0) := ⟨kw_102, Or.inl kw_101⟩
set_option maxRecDepth 100000 in
theorem ck_16 : mm_cks cX2_learn 0 cd_16 = true := by decide +kernel
set_option maxRecDepth 100000 in
theorem sf_16 : mm_spf cd_16 = [(.invokevirtual 22, 3, 14, 1), (.getfield 15, 3, 2, 1), (.invokestatic 28, 3, 128, 0), (.invokestatic 28, 3, 128, 0), (.invokevirtual 32, 3, 2, 1), (.invokestatic 38, 3, 288, 0), (.getfield 15, 3, 2, 1)] := by decide +kernel
theorem mc_16 : mm_MC mm_ct mm_CM mm_cl mm_WS mm_NW me_16 := mm_MC_of rfl rfl ck_16 (by rw [sf_16]; exact List.forall_mem_cons.mpr ⟨sq_72, List.forall_mem_cons.mpr ⟨sq_73, List.forall_mem_cons.mpr ⟨sq_74, List.forall_mem_cons.mpr ⟨sq_74, List.forall_mem_cons.mpr ⟨sq_75, List.forall_mem_cons.mpr ⟨sq_76, List.forall_mem_cons.mpr ⟨sq_73, fun _ h => nomatch h⟩⟩⟩⟩⟩⟩⟩)
theorem mo_16 : mm_MO mm_ct mm_CM mm_cl mm_WS mm_NW me_16 := ⟨by decide, kw_103, kw_93, by decide, by decide +kernel, mc_16⟩
set_option maxRecDepth 100000 in
theorem ck_17 : mm_cks cX2_change 0 cd_17 = true := by decide +kernel
set_option maxRecDepth 100000 in
theorem sf_17 : mm_spf cd_17 = [(.getfield 15, 3, 2, 1), (.invokestatic 28, 3, 128, 0)] := by decide +kernel
theorem mc_17 : mm_MC mm_ct mm_CM mm_cl mm_WS mm_NW me_17 := mm_MC_of rfl rfl ck_17 (by rw [sf_17]; exact List.forall_mem_cons.mpr ⟨sq_73, List.forall_mem_cons.mpr ⟨sq_74, fun _ h => nomatch h⟩⟩)
theorem mo_17 : mm_MO mm_ct mm_CM mm_cl mm_WS mm_NW me_17 := ⟨by decide, kw_104, kw_93, by decide, by decide +kernel, mc_17⟩
theorem sq_77 : mm_Pq mm_ct mm_CM mm_cl mm_WS mm_NW "SelfSorting$Nights" "" (.invokestatic 44, 3, 127, 0) := ⟨kw_105, Or.inr ⟨_, nw_10⟩⟩
theorem sq_78 : mm_Pq mm_ct mm_CM mm_cl mm_WS mm_NW "SelfSorting$Nights" "" (.invokevirtual 48, 3, 17, 1) := ⟨kw_107, kw_108, kw_106, _, _, rfl⟩
set_option maxRecDepth 100000 in
theorem ck_18 : mm_cks cX2_changesAt 0 cd_18 = true := by decide +kernel
set_option maxRecDepth 100000 in
theorem sf_18 : mm_spf cd_18 = [(.invokestatic 44, 3, 127, 0), (.invokestatic 44, 3, 127, 0), (.invokevirtual 48, 3, 17, 1)] := by decide +kernel
theorem mc_18 : mm_MC mm_ct mm_CM mm_cl mm_WS mm_NW me_18 := mm_MC_of rfl rfl ck_18 (by rw [sf_18]; exact List.forall_mem_cons.mpr ⟨sq_77, List.forall_mem_cons.mpr ⟨sq_77, List.forall_mem_cons.mpr ⟨sq_78, fun _ h => nomatch h⟩⟩⟩)
theorem mo_18 : mm_MO mm_ct mm_CM mm_cl mm_WS mm_NW me_18 := ⟨by decide, kw_109, kw_93, by decide, by decide +kernel, mc_18⟩
set_option maxRecDepth 100000 in
theorem ck_19 : mm_cks cX2_swapped 0 cd_19 = true := by decide +kernel
set_option maxRecDepth 100000 in
theorem sf_19 : mm_spf cd_19 = [(.invokestatic 44, 3, 127, 0), (.invokestatic 44, 3, 127, 0)] := by decide +kernel
theorem mc_19 : mm_MC mm_ct mm_CM mm_cl mm_WS mm_NW me_19 := mm_MC_of rfl rfl ck_19 (by rw [sf_19]; exact List.forall_mem_cons.mpr ⟨sq_77, List.forall_mem_cons.mpr ⟨sq_77, fun _ h => nomatch h⟩⟩)
theorem mo_19 : mm_MO mm_ct mm_CM mm_cl mm_WS mm_NW me_19 := ⟨by decide, kw_110, kw_93, by decide, by decide +kernel, mc_19⟩
theorem sq_79 : mm_Pq mm_ct mm_CM mm_cl mm_WS mm_NW "SelfSorting$Nights" "" (.invokevirtual 51, 3, 18, 1) := ⟨kw_112, kw_113, kw_111, _, _, rfl⟩
set_option maxRecDepth 100000 in
theorem ck_20 : mm_cks cX2_isCalm 0 cd_20 = true := by decide +kernel
set_option maxRecDepth 100000 in
theorem sf_20 : mm_spf cd_20 = [(.invokevirtual 51, 3, 18, 1)] := by decide +kernel
theorem mc_20 : mm_MC mm_ct mm_CM mm_cl mm_WS mm_NW me_20 := mm_MC_of rfl rfl ck_20 (by rw [sf_20]; exact List.forall_mem_cons.mpr ⟨sq_79, fun _ h => nomatch h⟩)
theorem mo_20 : mm_MO mm_ct mm_CM mm_cl mm_WS mm_NW me_20 := ⟨by decide, kw_114, kw_93, by decide, by decide +kernel, mc_20⟩
theorem sq_80 : mm_Pq mm_ct mm_CM mm_cl mm_WS mm_NW "SelfSorting$Nights" "" (.invokestatic 55, 3, 19, 0) := ⟨kw_116, Or.inl kw_115⟩
set_option maxRecDepth 100000 in
theorem ck_21 : mm_cks cX2_afterNight 0 cd_21 = true := by decide +kernel
set_option maxRecDepth 100000 in
theorem sf_21 : mm_spf cd_21 = [(.invokevirtual 51, 3, 18, 1), (.invokestatic 55, 3, 19, 0)] := by decide +kernel
theorem mc_21 : mm_MC mm_ct mm_CM mm_cl mm_WS mm_NW me_21 := mm_MC_of rfl rfl ck_21 (by rw [sf_21]; exact List.forall_mem_cons.mpr ⟨sq_79, List.forall_mem_cons.mpr ⟨sq_80, fun _ h => nomatch h⟩⟩)
theorem mo_21 : mm_MO mm_ct mm_CM mm_cl mm_WS mm_NW me_21 := ⟨by decide, kw_117, kw_93, by decide, by decide +kernel, mc_21⟩
theorem sq_81 : mm_Pq mm_ct mm_CM mm_cl mm_WS mm_NW "SelfSorting$Nights" "" (.invokevirtual 59, 3, 20, 1) := ⟨kw_119, kw_120, kw_118, _, _, rfl⟩
theorem sq_82 : mm_Pq mm_ct mm_CM mm_cl mm_WS mm_NW "SelfSorting$Nights" "" (.putfield 62, 3, 2, 3) := ⟨⟨(RX2, TX2, 4), rfl, by decide, by decide, kw_121⟩, fun r h g => by cases h; cases g⟩
theorem sq_83 : mm_Pq mm_ct mm_CM mm_cl mm_WS mm_NW "SelfSorting$Nights" "" (.invokevirtual 66, 3, 21, 1) := ⟨kw_123, kw_124, kw_122, _, _, rfl⟩
set_option maxRecDepth 100000 in
theorem ck_22 : mm_cks cX2_restAfter 0 cd_22 = true := by decide +kernel
set_option maxRecDepth 100000 in
theorem sf_22 : mm_spf cd_22 = [(.invokevirtual 59, 3, 20, 1), (.putfield 62, 3, 2, 3), (.invokevirtual 66, 3, 21, 1)] := by decide +kernel
theorem mc_22 : mm_MC mm_ct mm_CM mm_cl mm_WS mm_NW me_22 := mm_MC_of rfl rfl ck_22 (by rw [sf_22]; exact List.forall_mem_cons.mpr ⟨sq_81, List.forall_mem_cons.mpr ⟨sq_82, List.forall_mem_cons.mpr ⟨sq_83, fun _ h => nomatch h⟩⟩⟩)
theorem mo_22 : mm_MO mm_ct mm_CM mm_cl mm_WS mm_NW me_22 := ⟨by decide, kw_125, kw_93, by decide, by decide +kernel, mc_22⟩
theorem sq_84 : mm_Pq mm_ct mm_CM mm_cl mm_WS mm_NW "SelfSorting$Nights" "" (.invokevirtual 70, 3, 22, 1) := ⟨kw_127, kw_128, kw_126, _, _, rfl⟩
theorem sq_85 : mm_Pq mm_ct mm_CM mm_cl mm_WS mm_NW "SelfSorting$Nights" "" (.getfield 18, 3, 2, 2) := ⟨(RX2, TX2, 4), rfl, by decide, by decide, kw_91⟩
set_option maxRecDepth 100000 in
theorem ck_23 : mm_cks cX2_roundOf 0 cd_23 = true := by decide +kernel
set_option maxRecDepth 100000 in
theorem sf_23 : mm_spf cd_23 = [(.invokevirtual 70, 3, 22, 1), (.getfield 18, 3, 2, 2), (.invokevirtual 66, 3, 21, 1), (.getfield 18, 3, 2, 2), (.getfield 18, 3, 2, 2), (.getfield 18, 3, 2, 2), (.getfield 18, 3, 2, 2)] := by decide +kernel
theorem mc_23 : mm_MC mm_ct mm_CM mm_cl mm_WS mm_NW me_23 := mm_MC_of rfl rfl ck_23 (by rw [sf_23]; exact List.forall_mem_cons.mpr ⟨sq_84, List.forall_mem_cons.mpr ⟨sq_85, List.forall_mem_cons.mpr ⟨sq_83, List.forall_mem_cons.mpr ⟨sq_85, List.forall_mem_cons.mpr ⟨sq_85, List.forall_mem_cons.mpr ⟨sq_85, List.forall_mem_cons.mpr ⟨sq_85, fun _ h => nomatch h⟩⟩⟩⟩⟩⟩⟩)
theorem mo_23 : mm_MO mm_ct mm_CM mm_cl mm_WS mm_NW me_23 := ⟨by decide, kw_129, kw_93, by decide, by decide +kernel, mc_23⟩
set_option maxRecDepth 100000 in
theorem ck_24 : mm_cks cX2_placeIn 0 cd_24 = true := by decide +kernel
set_option maxRecDepth 100000 in
theorem sf_24 : mm_spf cd_24 = [(.invokestatic 44, 3, 127, 0)] := by decide +kernel
theorem mc_24 : mm_MC mm_ct mm_CM mm_cl mm_WS mm_NW me_24 := mm_MC_of rfl rfl ck_24 (by rw [sf_24]; exact List.forall_mem_cons.mpr ⟨sq_77, fun _ h => nomatch h⟩)
theorem mo_24 : mm_MO mm_ct mm_CM mm_cl mm_WS mm_NW me_24 := ⟨by decide, kw_130, kw_93, by decide, by decide +kernel, mc_24⟩
theorem sq_86 : mm_Pq mm_ct mm_CM mm_cl mm_WS mm_NW "SelfSorting$Nights" "" (.getfield 9, 3, 2, 0) := ⟨(RX2, TX2, 4), rfl, by decide, by decide, kw_88⟩
theorem sq_87 : mm_Pq mm_ct mm_CM mm_cl mm_WS mm_NW "SelfSorting$Nights" "" (.invokestatic 74, 3, 24, 0) := ⟨kw_132, Or.inl kw_131⟩
set_option maxRecDepth 100000 in
theorem ck_25 : mm_cks cX2_countPlaces 0 cd_25 = true := by decide +kernel
set_option maxRecDepth 100000 in
theorem sf_25 : mm_spf cd_25 = [(.getfield 9, 3, 2, 0), (.invokestatic 74, 3, 24, 0), (.getfield 9, 3, 2, 0), (.invokevirtual 66, 3, 21, 1)] := by decide +kernel
theorem mc_25 : mm_MC mm_ct mm_CM mm_cl mm_WS mm_NW me_25 := mm_MC_of rfl rfl ck_25 (by rw [sf_25]; exact List.forall_mem_cons.mpr ⟨sq_86, List.forall_mem_cons.mpr ⟨sq_87, List.forall_mem_cons.mpr ⟨sq_86, List.forall_mem_cons.mpr ⟨sq_83, fun _ h => nomatch h⟩⟩⟩⟩)
theorem mo_25 : mm_MO mm_ct mm_CM mm_cl mm_WS mm_NW me_25 := ⟨by decide, kw_133, kw_93, by decide, by decide +kernel, mc_25⟩
set_option maxRecDepth 100000 in
theorem ck_26 : mm_cks cX2_likeliest 0 cd_26 = true := by decide +kernel
set_option maxRecDepth 100000 in
theorem sf_26 : mm_spf cd_26 = [(.getfield 9, 3, 2, 0), (.getfield 9, 3, 2, 0), (.getfield 9, 3, 2, 0), (.getfield 9, 3, 2, 0), (.getfield 9, 3, 2, 0)] := by decide +kernel
theorem mc_26 : mm_MC mm_ct mm_CM mm_cl mm_WS mm_NW me_26 := mm_MC_of rfl rfl ck_26 (by rw [sf_26]; exact List.forall_mem_cons.mpr ⟨sq_86, List.forall_mem_cons.mpr ⟨sq_86, List.forall_mem_cons.mpr ⟨sq_86, List.forall_mem_cons.mpr ⟨sq_86, List.forall_mem_cons.mpr ⟨sq_86, fun _ h => nomatch h⟩⟩⟩⟩⟩)
theorem mo_26 : mm_MO mm_ct mm_CM mm_cl mm_WS mm_NW me_26 := ⟨by decide, kw_134, kw_93, by decide, by decide +kernel, mc_26⟩
set_option maxRecDepth 100000 in
theorem ck_27 : mm_cks cX2_without 0 cd_27 = true := by decide +kernel
set_option maxRecDepth 100000 in
theorem sf_27 : mm_spf cd_27 = [] := by decide +kernel
theorem mc_27 : mm_MC mm_ct mm_CM mm_cl mm_WS mm_NW me_27 := mm_MC_of rfl rfl ck_27 (by rw [sf_27]; exact fun _ h => nomatch h)
theorem mo_27 : mm_MO mm_ct mm_CM mm_cl mm_WS mm_NW me_27 := ⟨by decide, kw_135, kw_93, by decide, by decide +kernel, mc_27⟩
theorem sq_88 : mm_Pq mm_ct mm_CM mm_cl mm_WS mm_NW "SelfSorting$Nights" "" (.getfield 62, 3, 2, 3) := ⟨(RX2, TX2, 4), rfl, by decide, by decide, kw_121⟩
theorem sq_89 : mm_Pq mm_ct mm_CM mm_cl mm_WS mm_NW "SelfSorting$Nights" "" (.invokestatic 77, 3, 27, 0) := ⟨kw_137, Or.inl kw_136⟩
set_option maxRecDepth 100000 in
theorem ck_28 : mm_cks cX2_upset 0 cd_28 = true := by decide +kernel
set_option maxRecDepth 100000 in
theorem sf_28 : mm_spf cd_28 = [(.invokestatic 74, 3, 24, 0), (.invokevirtual 70, 3, 22, 1), (.getfield 62, 3, 2, 3), (.getfield 62, 3, 2, 3), (.invokestatic 74, 3, 24, 0), (.invokestatic 77, 3, 27, 0), (.invokestatic 77, 3, 27, 0), (.invokevirtual 70, 3, 22, 1), (.invokestatic 44, 3, 127, 0), (.getfield 62, 3, 2, 3), (.invokestatic 44, 3, 127, 0)] := by decide +kernel
theorem mc_28 : mm_MC mm_ct mm_CM mm_cl mm_WS mm_NW me_28 := mm_MC_of rfl rfl ck_28 (by rw [sf_28]; exact List.forall_mem_cons.mpr ⟨sq_87, List.forall_mem_cons.mpr ⟨sq_84, List.forall_mem_cons.mpr ⟨sq_88, List.forall_mem_cons.mpr ⟨sq_88, List.forall_mem_cons.mpr ⟨sq_87, List.forall_mem_cons.mpr ⟨sq_89, List.forall_mem_cons.mpr ⟨sq_89, List.forall_mem_cons.mpr ⟨sq_84, List.forall_mem_cons.mpr ⟨sq_77, List.forall_mem_cons.mpr ⟨sq_88, List.forall_mem_cons.mpr ⟨sq_77, fun _ h => nomatch h⟩⟩⟩⟩⟩⟩⟩⟩⟩⟩⟩)
theorem mo_28 : mm_MO mm_ct mm_CM mm_cl mm_WS mm_NW me_28 := ⟨by decide, kw_138, kw_93, by decide, by decide +kernel, mc_28⟩
set_option maxRecDepth 100000 in
theorem ck_29 : mm_cks cX2_afterMove 0 cd_29 = true := by decide +kernel
set_option maxRecDepth 100000 in
theorem sf_29 : mm_spf cd_29 = [(.invokestatic 55, 3, 19, 0), (.invokevirtual 66, 3, 21, 1)] := by decide +kernel
theorem mc_29 : mm_MC mm_ct mm_CM mm_cl mm_WS mm_NW me_29 := mm_MC_of rfl rfl ck_29 (by rw [sf_29]; exact List.forall_mem_cons.mpr ⟨sq_80, List.forall_mem_cons.mpr ⟨sq_83, fun _ h => nomatch h⟩⟩)
theorem mo_29 : mm_MO mm_ct mm_CM mm_cl mm_WS mm_NW me_29 := ⟨by decide, kw_139, kw_93, by decide, by decide +kernel, mc_29⟩
theorem sq_90 : mm_Pq mm_ct mm_CM mm_cl mm_WS mm_NW "SelfSorting$Nights" "" (.invokevirtual 80, 3, 29, 1) := ⟨kw_141, kw_142, kw_140, _, _, rfl⟩
theorem sq_91 : mm_Pq mm_ct mm_CM mm_cl mm_WS mm_NW "SelfSorting$Nights" "" (.invokevirtual 84, 3, 30, 1) := ⟨kw_144, kw_145, kw_143, _, _, rfl⟩
theorem sq_92 : mm_Pq mm_ct mm_CM mm_cl mm_WS mm_NW "SelfSorting$Nights" "" (.invokestatic 88, 3, 0, 6) := ⟨kw_146, kw_147, kw_149, kw_148⟩
theorem sq_93 : mm_Pq mm_ct mm_CM mm_cl mm_WS mm_NW "SelfSorting$Nights" "" (.invokestatic 94, 3, 0, 5) := ⟨kw_150, kw_151, kw_149, kw_152⟩
set_option maxRecDepth 100000 in
theorem ck_30 : mm_cks cX2_bestPlace 0 cd_30 = true := by decide +kernel
set_option maxRecDepth 100000 in
theorem sf_30 : mm_spf cd_30 = [(.invokestatic 74, 3, 24, 0), (.invokevirtual 80, 3, 29, 1), (.invokevirtual 84, 3, 30, 1), (.invokestatic 88, 3, 0, 6), (.invokestatic 94, 3, 0, 5)] := by decide +kernel
theorem mc_30 : mm_MC mm_ct mm_CM mm_cl mm_WS mm_NW me_30 := mm_MC_of rfl rfl ck_30 (by rw [sf_30]; exact List.forall_mem_cons.mpr ⟨sq_87, List.forall_mem_cons.mpr ⟨sq_90, List.forall_mem_cons.mpr ⟨sq_91, List.forall_mem_cons.mpr ⟨sq_92, List.forall_mem_cons.mpr ⟨sq_93, fun _ h => nomatch h⟩⟩⟩⟩⟩)
theorem mo_30 : mm_MO mm_ct mm_CM mm_cl mm_WS mm_NW me_30 := ⟨by decide, kw_153, kw_93, by decide, by decide +kernel, mc_30⟩
set_option maxRecDepth 100000 in
theorem ck_31 : mm_cks cX2_firstMove 0 cd_31 = true := by decide +kernel
set_option maxRecDepth 100000 in
theorem sf_31 : mm_spf cd_31 = [(.invokevirtual 80, 3, 29, 1), (.invokevirtual 84, 3, 30, 1)] := by decide +kernel
theorem mc_31 : mm_MC mm_ct mm_CM mm_cl mm_WS mm_NW me_31 := mm_MC_of rfl rfl ck_31 (by rw [sf_31]; exact List.forall_mem_cons.mpr ⟨sq_90, List.forall_mem_cons.mpr ⟨sq_91, fun _ h => nomatch h⟩⟩)
theorem mo_31 : mm_MO mm_ct mm_CM mm_cl mm_WS mm_NW me_31 := ⟨by decide, kw_154, kw_93, by decide, by decide +kernel, mc_31⟩
theorem sq_94 : mm_Pq mm_ct mm_CM mm_cl mm_WS mm_NW "SelfSorting$Orders" "" (.invokespecial 3, 3, 0, 3) := ⟨kw_155, kw_1356, kw_1357⟩
theorem sq_95 : mm_Pq mm_ct mm_CM mm_cl mm_WS mm_NW "SelfSorting$Orders" "" (.newarray .int, 2, 0, 0) := kw_1
theorem sq_96 : mm_Pq mm_ct mm_CM mm_cl mm_WS mm_NW "SelfSorting$Orders" "" (.putfield 9, 3, 3, 0) := ⟨⟨(RX3, TX3, 5), rfl, by decide, by decide, kw_156⟩, fun r h g => by cases h; rfl⟩
theorem sq_97 : mm_Pq mm_ct mm_CM mm_cl mm_WS mm_NW "SelfSorting$Orders" "" (.putfield 15, 3, 3, 1) := ⟨⟨(RX3, TX3, 5), rfl, by decide, by decide, kw_157⟩, fun r h g => by cases h; rfl⟩
set_option maxRecDepth 100000 in
theorem ck_32 : mm_cks cX3_init 0 cd_32 = true := by decide +kernel
set_option maxRecDepth 100000 in
theorem sf_32 : mm_spf cd_32 = [(.invokespecial 3, 3, 0, 3), (.newarray .int, 2, 0, 0), (.putfield 9, 3, 3, 0), (.newarray .int, 2, 0, 0), (.putfield 15, 3, 3, 1)] := by decide +kernel
theorem mc_32 : mm_MC mm_ct mm_CM mm_cl mm_WS mm_NW me_32 := mm_MC_of rfl rfl ck_32 (by rw [sf_32]; exact List.forall_mem_cons.mpr ⟨sq_94, List.forall_mem_cons.mpr ⟨sq_95, List.forall_mem_cons.mpr ⟨sq_96, List.forall_mem_cons.mpr ⟨sq_95, List.forall_mem_cons.mpr ⟨sq_97, fun _ h => nomatch h⟩⟩⟩⟩⟩)
theorem mo_32 : mm_MO mm_ct mm_CM mm_cl mm_WS mm_NW me_32 := ⟨by decide, kw_158, kw_159, by decide, by decide +kernel, mc_32⟩
theorem sq_98 : mm_Pq mm_ct mm_CM mm_cl mm_WS mm_NW "SelfSorting$Orders" "" (.putfield 18, 3, 3, 2) := ⟨⟨(RX3, TX3, 5), rfl, by decide, by decide, kw_160⟩, fun r h g => by cases h; cases g⟩
theorem sq_99 : mm_Pq mm_ct mm_CM mm_cl mm_WS mm_NW "SelfSorting$Orders" "" (.invokestatic 22, 3, 288, 0) := ⟨kw_102, Or.inl kw_161⟩
theorem sq_100 : mm_Pq mm_ct mm_CM mm_cl mm_WS mm_NW "SelfSorting$Orders" "" (.invokestatic 28, 3, 0, 6) := ⟨kw_162, kw_147, kw_149, kw_148⟩
theorem sq_101 : mm_Pq mm_ct mm_CM mm_cl mm_WS mm_NW "SelfSorting$Orders" "" (.putfield 34, 3, 3, 3) := ⟨⟨(RX3, TX3, 5), rfl, by decide, by decide, kw_163⟩, fun r h g => by cases h; cases g⟩
theorem sq_102 : mm_Pq mm_ct mm_CM mm_cl mm_WS mm_NW "SelfSorting$Orders" "" (.getstatic 37, 3, 0, 0) := fun z h => by cases h; exact kw_164
theorem sq_103 : mm_Pq mm_ct mm_CM mm_cl mm_WS mm_NW "SelfSorting$Orders" "" (.getfield 34, 3, 3, 3) := ⟨(RX3, TX3, 5), rfl, by decide, by decide, kw_163⟩
theorem sq_104 : mm_Pq mm_ct mm_CM mm_cl mm_WS mm_NW "SelfSorting$Orders" "" (.putfield 40, 3, 3, 4) := ⟨⟨(RX3, TX3, 5), rfl, by decide, by decide, kw_165⟩, fun r h g => by cases h; cases g⟩
set_option maxRecDepth 100000 in
theorem ck_33 : mm_cks cX3_choose 0 cd_33 = true := by decide +kernel
set_option maxRecDepth 100000 in
theorem sf_33 : mm_spf cd_33 = [(.putfield 18, 3, 3, 2), (.invokestatic 22, 3, 288, 0), (.invokestatic 28, 3, 0, 6), (.putfield 34, 3, 3, 3), (.getstatic 37, 3, 0, 0), (.getfield 34, 3, 3, 3), (.putfield 40, 3, 3, 4)] := by decide +kernel
theorem mc_33 : mm_MC mm_ct mm_CM mm_cl mm_WS mm_NW me_33 := mm_MC_of rfl rfl ck_33 (by rw [sf_33]; exact List.forall_mem_cons.mpr ⟨sq_98, List.forall_mem_cons.mpr ⟨sq_99, List.forall_mem_cons.mpr ⟨sq_100, List.forall_mem_cons.mpr ⟨sq_101, List.forall_mem_cons.mpr ⟨sq_102, List.forall_mem_cons.mpr ⟨sq_103, List.forall_mem_cons.mpr ⟨sq_104, fun _ h => nomatch h⟩⟩⟩⟩⟩⟩⟩)
theorem mo_33 : mm_MO mm_ct mm_CM mm_cl mm_WS mm_NW me_33 := ⟨by decide, kw_166, kw_159, by decide, by decide +kernel, mc_33⟩
set_option maxRecDepth 100000 in
theorem ck_34 : mm_cks cX3_lowestOf 0 cd_34 = true := by decide +kernel
set_option maxRecDepth 100000 in
theorem sf_34 : mm_spf cd_34 = [(.invokestatic 22, 3, 288, 0)] := by decide +kernel
theorem mc_34 : mm_MC mm_ct mm_CM mm_cl mm_WS mm_NW me_34 := mm_MC_of rfl rfl ck_34 (by rw [sf_34]; exact List.forall_mem_cons.mpr ⟨sq_99, fun _ h => nomatch h⟩)
theorem mo_34 : mm_MO mm_ct mm_CM mm_cl mm_WS mm_NW me_34 := ⟨by decide, kw_167, kw_159, by decide, by decide +kernel, mc_34⟩
theorem sq_105 : mm_Pq mm_ct mm_CM mm_cl mm_WS mm_NW "SelfSorting$Orders" "" (.getfield 18, 3, 3, 2) := ⟨(RX3, TX3, 5), rfl, by decide, by decide, kw_160⟩
theorem sq_106 : mm_Pq mm_ct mm_CM mm_cl mm_WS mm_NW "SelfSorting$Orders" "" (.invokestatic 43, 3, 34, 0) := ⟨kw_169, Or.inl kw_168⟩
set_option maxRecDepth 100000 in
theorem ck_35 : mm_cks cX3_row 0 cd_35 = true := by decide +kernel
set_option maxRecDepth 100000 in
theorem sf_35 : mm_spf cd_35 = [(.getfield 18, 3, 3, 2), (.getfield 34, 3, 3, 3), (.getstatic 37, 3, 0, 0), (.getfield 34, 3, 3, 3), (.invokestatic 43, 3, 34, 0)] := by decide +kernel
theorem mc_35 : mm_MC mm_ct mm_CM mm_cl mm_WS mm_NW me_35 := mm_MC_of rfl rfl ck_35 (by rw [sf_35]; exact List.forall_mem_cons.mpr ⟨sq_105, List.forall_mem_cons.mpr ⟨sq_103, List.forall_mem_cons.mpr ⟨sq_102, List.forall_mem_cons.mpr ⟨sq_103, List.forall_mem_cons.mpr ⟨sq_106, fun _ h => nomatch h⟩⟩⟩⟩⟩)
theorem mo_35 : mm_MO mm_ct mm_CM mm_cl mm_WS mm_NW me_35 := ⟨by decide, kw_170, kw_159, by decide, by decide +kernel, mc_35⟩
theorem sq_107 : mm_Pq mm_ct mm_CM mm_cl mm_WS mm_NW "SelfSorting$Orders" "" (.invokestatic 46, 3, 127, 0) := ⟨kw_105, Or.inr ⟨_, nw_11⟩⟩
set_option maxRecDepth 100000 in
theorem ck_36 : mm_cks cX3_indexOf 0 cd_36 = true := by decide +kernel
set_option maxRecDepth 100000 in
theorem sf_36 : mm_spf cd_36 = [(.getfield 18, 3, 3, 2), (.getfield 34, 3, 3, 3), (.invokestatic 46, 3, 127, 0), (.invokestatic 22, 3, 288, 0), (.getstatic 37, 3, 0, 0), (.getfield 34, 3, 3, 3)] := by decide +kernel
theorem mc_36 : mm_MC mm_ct mm_CM mm_cl mm_WS mm_NW me_36 := mm_MC_of rfl rfl ck_36 (by rw [sf_36]; exact List.forall_mem_cons.mpr ⟨sq_105, List.forall_mem_cons.mpr ⟨sq_103, List.forall_mem_cons.mpr ⟨sq_107, List.forall_mem_cons.mpr ⟨sq_99, List.forall_mem_cons.mpr ⟨sq_102, List.forall_mem_cons.mpr ⟨sq_103, fun _ h => nomatch h⟩⟩⟩⟩⟩⟩)
theorem mo_36 : mm_MO mm_ct mm_CM mm_cl mm_WS mm_NW me_36 := ⟨by decide, kw_171, kw_159, by decide, by decide +kernel, mc_36⟩
theorem sq_108 : mm_Pq mm_ct mm_CM mm_cl mm_WS mm_NW "SelfSorting$Orders" "" (.getfield 40, 3, 3, 4) := ⟨(RX3, TX3, 5), rfl, by decide, by decide, kw_165⟩
theorem sq_109 : mm_Pq mm_ct mm_CM mm_cl mm_WS mm_NW "SelfSorting$Orders" "" (.invokevirtual 50, 3, 35, 1) := ⟨kw_173, kw_174, kw_172, _, _, rfl⟩
theorem sq_110 : mm_Pq mm_ct mm_CM mm_cl mm_WS mm_NW "SelfSorting$Orders" "" (.invokevirtual 54, 3, 20, 1) := ⟨kw_119, kw_120, kw_175, _, _, rfl⟩
set_option maxRecDepth 100000 in
theorem ck_37 : mm_cks cX3_countCalm 0 cd_37 = true := by decide +kernel
set_option maxRecDepth 100000 in
theorem sf_37 : mm_spf cd_37 = [(.getfield 40, 3, 3, 4), (.invokevirtual 50, 3, 35, 1), (.getfield 34, 3, 3, 3), (.invokevirtual 54, 3, 20, 1)] := by decide +kernel
theorem mc_37 : mm_MC mm_ct mm_CM mm_cl mm_WS mm_NW me_37 := mm_MC_of rfl rfl ck_37 (by rw [sf_37]; exact List.forall_mem_cons.mpr ⟨sq_108, List.forall_mem_cons.mpr ⟨sq_109, List.forall_mem_cons.mpr ⟨sq_103, List.forall_mem_cons.mpr ⟨sq_110, fun _ h => nomatch h⟩⟩⟩⟩)
theorem mo_37 : mm_MO mm_ct mm_CM mm_cl mm_WS mm_NW me_37 := ⟨by decide, kw_176, kw_159, by decide, by decide +kernel, mc_37⟩
set_option maxRecDepth 100000 in
theorem ck_38 : mm_cks cX3_findCalm 0 cd_38 = true := by decide +kernel
set_option maxRecDepth 100000 in
theorem sf_38 : mm_spf cd_38 = [(.getfield 40, 3, 3, 4), (.invokevirtual 50, 3, 35, 1), (.getfield 34, 3, 3, 3), (.invokevirtual 54, 3, 20, 1)] := by decide +kernel
theorem mc_38 : mm_MC mm_ct mm_CM mm_cl mm_WS mm_NW me_38 := mm_MC_of rfl rfl ck_38 (by rw [sf_38]; exact List.forall_mem_cons.mpr ⟨sq_108, List.forall_mem_cons.mpr ⟨sq_109, List.forall_mem_cons.mpr ⟨sq_103, List.forall_mem_cons.mpr ⟨sq_110, fun _ h => nomatch h⟩⟩⟩⟩)
theorem mo_38 : mm_MO mm_ct mm_CM mm_cl mm_WS mm_NW me_38 := ⟨by decide, kw_177, kw_159, by decide, by decide +kernel, mc_38⟩
theorem sq_111 : mm_Pq mm_ct mm_CM mm_cl mm_WS mm_NW "SelfSorting$Orders" "" (.getfield 9, 3, 3, 0) := ⟨(RX3, TX3, 5), rfl, by decide, by decide, kw_156⟩
theorem sq_112 : mm_Pq mm_ct mm_CM mm_cl mm_WS mm_NW "SelfSorting$Orders" "" (.invokevirtual 60, 3, 40, 1) := ⟨kw_179, kw_180, kw_178, _, _, rfl⟩
set_option maxRecDepth 100000 in
theorem ck_39 : mm_cks cX3_countComingTo 0 cd_39 = true := by decide +kernel
set_option maxRecDepth 100000 in
theorem sf_39 : mm_spf cd_39 = [(.getfield 40, 3, 3, 4), (.getfield 9, 3, 3, 0), (.getfield 40, 3, 3, 4), (.invokevirtual 60, 3, 40, 1)] := by decide +kernel
theorem mc_39 : mm_MC mm_ct mm_CM mm_cl mm_WS mm_NW me_39 := mm_MC_of rfl rfl ck_39 (by rw [sf_39]; exact List.forall_mem_cons.mpr ⟨sq_108, List.forall_mem_cons.mpr ⟨sq_111, List.forall_mem_cons.mpr ⟨sq_108, List.forall_mem_cons.mpr ⟨sq_112, fun _ h => nomatch h⟩⟩⟩⟩)
theorem mo_39 : mm_MO mm_ct mm_CM mm_cl mm_WS mm_NW me_39 := ⟨by decide, kw_181, kw_159, by decide, by decide +kernel, mc_39⟩
theorem sq_113 : mm_Pq mm_ct mm_CM mm_cl mm_WS mm_NW "SelfSorting$Orders" "" (.getfield 15, 3, 3, 1) := ⟨(RX3, TX3, 5), rfl, by decide, by decide, kw_157⟩
theorem sq_114 : mm_Pq mm_ct mm_CM mm_cl mm_WS mm_NW "SelfSorting$Orders" "" (.invokevirtual 64, 3, 21, 1) := ⟨kw_123, kw_124, kw_182, _, _, rfl⟩
theorem sq_115 : mm_Pq mm_ct mm_CM mm_cl mm_WS mm_NW "SelfSorting$Orders" "" (.invokevirtual 68, 3, 36, 1) := ⟨kw_184, kw_185, kw_183, _, _, rfl⟩
set_option maxRecDepth 100000 in
theorem ck_40 : mm_cks cX3_goalOf 0 cd_40 = true := by decide +kernel
set_option maxRecDepth 100000 in
theorem sf_40 : mm_spf cd_40 = [(.getfield 40, 3, 3, 4), (.getfield 9, 3, 3, 0), (.getfield 9, 3, 3, 0), (.getfield 15, 3, 3, 1), (.invokevirtual 50, 3, 35, 1), (.getfield 34, 3, 3, 3), (.invokevirtual 54, 3, 20, 1), (.getfield 9, 3, 3, 0), (.getfield 34, 3, 3, 3), (.invokevirtual 64, 3, 21, 1), (.invokevirtual 68, 3, 36, 1), (.getfield 9, 3, 3, 0), (.getfield 9, 3, 3, 0), (.getfield 9, 3, 3, 0), (.getfield 15, 3, 3, 1)] := by decide +kernel
theorem mc_40 : mm_MC mm_ct mm_CM mm_cl mm_WS mm_NW me_40 := mm_MC_of rfl rfl ck_40 (by rw [sf_40]; exact List.forall_mem_cons.mpr ⟨sq_108, List.forall_mem_cons.mpr ⟨sq_111, List.forall_mem_cons.mpr ⟨sq_111, List.forall_mem_cons.mpr ⟨sq_113, List.forall_mem_cons.mpr ⟨sq_109, List.forall_mem_cons.mpr ⟨sq_103, List.forall_mem_cons.mpr ⟨sq_110, List.forall_mem_cons.mpr ⟨sq_111, List.forall_mem_cons.mpr ⟨sq_103, List.forall_mem_cons.mpr ⟨sq_114, List.forall_mem_cons.mpr ⟨sq_115, List.forall_mem_cons.mpr ⟨sq_111, List.forall_mem_cons.mpr ⟨sq_111, List.forall_mem_cons.mpr ⟨sq_111, List.forall_mem_cons.mpr ⟨sq_113, fun _ h => nomatch h⟩⟩⟩⟩⟩⟩⟩⟩⟩⟩⟩⟩⟩⟩⟩)
theorem mo_40 : mm_MO mm_ct mm_CM mm_cl mm_WS mm_NW me_40 := ⟨by decide, kw_186, kw_159, by decide, by decide +kernel, mc_40⟩
theorem sq_116 : mm_Pq mm_ct mm_CM mm_cl mm_WS mm_NW "SelfSorting$Orders" "" (.invokestatic 72, 3, 128, 0) := ⟨kw_97, Or.inr ⟨_, nw_12⟩⟩
theorem sq_117 : mm_Pq mm_ct mm_CM mm_cl mm_WS mm_NW "SelfSorting$Orders" "" (.invokestatic 76, 3, 42, 0) := ⟨kw_188, Or.inl kw_187⟩
set_option maxRecDepth 100000 in
theorem ck_41 : mm_cks cX3_ranked 0 cd_41 = true := by decide +kernel
set_option maxRecDepth 100000 in
theorem sf_41 : mm_spf cd_41 = [(.invokestatic 72, 3, 128, 0), (.invokestatic 76, 3, 42, 0), (.invokestatic 72, 3, 128, 0)] := by decide +kernel
theorem mc_41 : mm_MC mm_ct mm_CM mm_cl mm_WS mm_NW me_41 := mm_MC_of rfl rfl ck_41 (by rw [sf_41]; exact List.forall_mem_cons.mpr ⟨sq_116, List.forall_mem_cons.mpr ⟨sq_117, List.forall_mem_cons.mpr ⟨sq_116, fun _ h => nomatch h⟩⟩⟩)
theorem mo_41 : mm_MO mm_ct mm_CM mm_cl mm_WS mm_NW me_41 := ⟨by decide, kw_189, kw_159, by decide, by decide +kernel, mc_41⟩
theorem sq_118 : mm_Pq mm_ct mm_CM mm_cl mm_WS mm_NW "SelfSorting$Orders" "" (.invokevirtual 80, 3, 17, 1) := ⟨kw_107, kw_108, kw_190, _, _, rfl⟩
set_option maxRecDepth 100000 in
theorem ck_42 : mm_cks cX3_countAhead 0 cd_42 = true := by decide +kernel
set_option maxRecDepth 100000 in
theorem sf_42 : mm_spf cd_42 = [(.invokestatic 72, 3, 128, 0), (.invokevirtual 80, 3, 17, 1), (.invokevirtual 80, 3, 17, 1)] := by decide +kernel
theorem mc_42 : mm_MC mm_ct mm_CM mm_cl mm_WS mm_NW me_42 := mm_MC_of rfl rfl ck_42 (by rw [sf_42]; exact List.forall_mem_cons.mpr ⟨sq_116, List.forall_mem_cons.mpr ⟨sq_118, List.forall_mem_cons.mpr ⟨sq_118, fun _ h => nomatch h⟩⟩⟩)
theorem mo_42 : mm_MO mm_ct mm_CM mm_cl mm_WS mm_NW me_42 := ⟨by decide, kw_191, kw_159, by decide, by decide +kernel, mc_42⟩
theorem sq_119 : mm_Pq mm_ct mm_CM mm_cl mm_WS mm_NW "SelfSorting$Reader" "" (.invokespecial 3, 3, 0, 3) := ⟨kw_192, kw_1356, kw_1357⟩
theorem sq_120 : mm_Pq mm_ct mm_CM mm_cl mm_WS mm_NW "SelfSorting$Reader" "" (.newarray .int, 2, 0, 0) := kw_1
theorem sq_121 : mm_Pq mm_ct mm_CM mm_cl mm_WS mm_NW "SelfSorting$Reader" "" (.putfield 9, 3, 4, 0) := ⟨⟨(RX4, TX4, 10), rfl, by decide, by decide, kw_193⟩, fun r h g => by cases h; rfl⟩
theorem sq_122 : mm_Pq mm_ct mm_CM mm_cl mm_WS mm_NW "SelfSorting$Reader" "" (.putfield 15, 3, 4, 1) := ⟨⟨(RX4, TX4, 10), rfl, by decide, by decide, kw_194⟩, fun r h g => by cases h; rfl⟩
theorem sq_123 : mm_Pq mm_ct mm_CM mm_cl mm_WS mm_NW "SelfSorting$Reader" "" (.putfield 18, 3, 4, 2) := ⟨⟨(RX4, TX4, 10), rfl, by decide, by decide, kw_195⟩, fun r h g => by cases h; rfl⟩
theorem sq_124 : mm_Pq mm_ct mm_CM mm_cl mm_WS mm_NW "SelfSorting$Reader" "" (.new 21, 3, 6, 8) := ⟨(RX6, TX6, 8), rfl, by decide, rfl, kw_196, kw_63, kw_64⟩
theorem sq_125 : mm_Pq mm_ct mm_CM mm_cl mm_WS mm_NW "SelfSorting$Reader" "" (.invokespecial 23, 3, 77, 2) := ⟨rfl, rfl, kw_65, Or.inr ⟨_, nw_6⟩⟩
theorem sq_126 : mm_Pq mm_ct mm_CM mm_cl mm_WS mm_NW "SelfSorting$Reader" "" (.putfield 24, 3, 4, 5) := ⟨⟨(RX4, TX4, 10), rfl, by decide, by decide, kw_197⟩, fun r h g => by cases h; cases g⟩
theorem sq_127 : mm_Pq mm_ct mm_CM mm_cl mm_WS mm_NW "SelfSorting$Reader" "" (.putfield 28, 3, 4, 8) := ⟨⟨(RX4, TX4, 10), rfl, by decide, by decide, kw_198⟩, fun r h g => by cases h; cases g⟩
theorem sq_128 : mm_Pq mm_ct mm_CM mm_cl mm_WS mm_NW "SelfSorting$Reader" "" (.putfield 32, 3, 4, 9) := ⟨⟨(RX4, TX4, 10), rfl, by decide, by decide, kw_199⟩, fun r h g => by cases h; cases g⟩
set_option maxRecDepth 100000 in
theorem ck_43 : mm_cks cX4_init 0 cd_43 = true := by decide +kernel
set_option maxRecDepth 100000 in
theorem sf_43 : mm_spf cd_43 = [(.invokespecial 3, 3, 0, 3), (.newarray .int, 2, 0, 0), (.putfield 9, 3, 4, 0), (.newarray .int, 2, 0, 0), (.putfield 15, 3, 4, 1), (.newarray .int, 2, 0, 0), (.putfield 18, 3, 4, 2), (.new 21, 3, 6, 8), (.invokespecial 23, 3, 77, 2), (.putfield 24, 3, 4, 5), (.putfield 28, 3, 4, 8), (.putfield 32, 3, 4, 9)] := by decide +kernel
theorem mc_43 : mm_MC mm_ct mm_CM mm_cl mm_WS mm_NW me_43 := mm_MC_of rfl rfl ck_43 (by rw [sf_43]; exact List.forall_mem_cons.mpr ⟨sq_119, List.forall_mem_cons.mpr ⟨sq_120, List.forall_mem_cons.mpr ⟨sq_121, List.forall_mem_cons.mpr ⟨sq_120, List.forall_mem_cons.mpr ⟨sq_122, List.forall_mem_cons.mpr ⟨sq_120, List.forall_mem_cons.mpr ⟨sq_123, List.forall_mem_cons.mpr ⟨sq_124, List.forall_mem_cons.mpr ⟨sq_125, List.forall_mem_cons.mpr ⟨sq_126, List.forall_mem_cons.mpr ⟨sq_127, List.forall_mem_cons.mpr ⟨sq_128, fun _ h => nomatch h⟩⟩⟩⟩⟩⟩⟩⟩⟩⟩⟩⟩)
theorem mo_43 : mm_MO mm_ct mm_CM mm_cl mm_WS mm_NW me_43 := ⟨by decide, kw_200, kw_201, by decide, by decide +kernel, mc_43⟩
theorem sq_129 : mm_Pq mm_ct mm_CM mm_cl mm_WS mm_NW "SelfSorting$Reader" "" (.getfield 24, 3, 4, 5) := ⟨(RX4, TX4, 10), rfl, by decide, by decide, kw_197⟩
theorem sq_130 : mm_Pq mm_ct mm_CM mm_cl mm_WS mm_NW "SelfSorting$Reader" "" (.invokevirtual 35, 3, 78, 1) := ⟨kw_203, kw_204, kw_202, _, _, rfl⟩
theorem sq_131 : mm_Pq mm_ct mm_CM mm_cl mm_WS mm_NW "SelfSorting$Reader" "" (.invokevirtual 38, 3, 45, 1) := ⟨kw_206, kw_207, kw_205, _, _, rfl⟩
theorem sq_132 : mm_Pq mm_ct mm_CM mm_cl mm_WS mm_NW "SelfSorting$Reader" "" (.putfield 42, 3, 4, 4) := ⟨⟨(RX4, TX4, 10), rfl, by decide, by decide, kw_208⟩, fun r h g => by cases h; cases g⟩
theorem sq_133 : mm_Pq mm_ct mm_CM mm_cl mm_WS mm_NW "SelfSorting$Reader" "" (.invokevirtual 45, 3, 53, 1) := ⟨kw_210, kw_211, kw_209, _, _, rfl⟩
theorem sq_134 : mm_Pq mm_ct mm_CM mm_cl mm_WS mm_NW "SelfSorting$Reader" "" (.invokevirtual 49, 3, 56, 1) := ⟨kw_213, kw_214, kw_212, _, _, rfl⟩
set_option maxRecDepth 100000 in
theorem ck_44 : mm_cks cX4_understands 0 cd_44 = true := by decide +kernel
set_option maxRecDepth 100000 in
theorem sf_44 : mm_spf cd_44 = [(.putfield 24, 3, 4, 5), (.getfield 24, 3, 4, 5), (.invokevirtual 35, 3, 78, 1), (.invokevirtual 38, 3, 45, 1), (.putfield 42, 3, 4, 4), (.putfield 28, 3, 4, 8), (.putfield 32, 3, 4, 9), (.invokevirtual 45, 3, 53, 1), (.invokevirtual 49, 3, 56, 1)] := by decide +kernel
theorem mc_44 : mm_MC mm_ct mm_CM mm_cl mm_WS mm_NW me_44 := mm_MC_of rfl rfl ck_44 (by rw [sf_44]; exact List.forall_mem_cons.mpr ⟨sq_126, List.forall_mem_cons.mpr ⟨sq_129, List.forall_mem_cons.mpr ⟨sq_130, List.forall_mem_cons.mpr ⟨sq_131, List.forall_mem_cons.mpr ⟨sq_132, List.forall_mem_cons.mpr ⟨sq_127, List.forall_mem_cons.mpr ⟨sq_128, List.forall_mem_cons.mpr ⟨sq_133, List.forall_mem_cons.mpr ⟨sq_134, fun _ h => nomatch h⟩⟩⟩⟩⟩⟩⟩⟩⟩)
theorem mo_44 : mm_MO mm_ct mm_CM mm_cl mm_WS mm_NW me_44 := ⟨by decide, kw_215, kw_201, by decide, by decide +kernel, mc_44⟩
theorem sq_135 : mm_Pq mm_ct mm_CM mm_cl mm_WS mm_NW "SelfSorting$Reader" "" (.putfield 53, 3, 4, 3) := ⟨⟨(RX4, TX4, 10), rfl, by decide, by decide, kw_216⟩, fun r h g => by cases h; cases g⟩
theorem sq_136 : mm_Pq mm_ct mm_CM mm_cl mm_WS mm_NW "SelfSorting$Reader" "" (.invokestatic 56, 3, 49, 0) := ⟨kw_218, Or.inl kw_217⟩
theorem sq_137 : mm_Pq mm_ct mm_CM mm_cl mm_WS mm_NW "SelfSorting$Reader" "" (.invokestatic 60, 3, 50, 0) := ⟨kw_220, Or.inl kw_219⟩
theorem sq_138 : mm_Pq mm_ct mm_CM mm_cl mm_WS mm_NW "SelfSorting$Reader" "" (.invokestatic 63, 3, 52, 0) := ⟨kw_222, Or.inl kw_221⟩
theorem sq_139 : mm_Pq mm_ct mm_CM mm_cl mm_WS mm_NW "SelfSorting$Reader" "" (.invokevirtual 66, 3, 46, 1) := ⟨kw_224, kw_225, kw_223, _, _, rfl⟩
theorem sq_140 : mm_Pq mm_ct mm_CM mm_cl mm_WS mm_NW "SelfSorting$Reader" "" (.invokestatic 70, 3, 0, 5) := ⟨kw_226, kw_151, kw_149, kw_152⟩
set_option maxRecDepth 100000 in
theorem ck_45 : mm_cks cX4_split 0 cd_45 = true := by decide +kernel
set_option maxRecDepth 100000 in
theorem sf_45 : mm_spf cd_45 = [(.putfield 53, 3, 4, 3), (.invokestatic 56, 3, 49, 0), (.invokestatic 60, 3, 50, 0), (.invokestatic 63, 3, 52, 0), (.invokevirtual 66, 3, 46, 1), (.invokestatic 70, 3, 0, 5), (.invokevirtual 66, 3, 46, 1)] := by decide +kernel
theorem mc_45 : mm_MC mm_ct mm_CM mm_cl mm_WS mm_NW me_45 := mm_MC_of rfl rfl ck_45 (by rw [sf_45]; exact List.forall_mem_cons.mpr ⟨sq_135, List.forall_mem_cons.mpr ⟨sq_136, List.forall_mem_cons.mpr ⟨sq_137, List.forall_mem_cons.mpr ⟨sq_138, List.forall_mem_cons.mpr ⟨sq_139, List.forall_mem_cons.mpr ⟨sq_140, List.forall_mem_cons.mpr ⟨sq_139, fun _ h => nomatch h⟩⟩⟩⟩⟩⟩⟩)
theorem mo_45 : mm_MO mm_ct mm_CM mm_cl mm_WS mm_NW me_45 := ⟨by decide, kw_227, kw_201, by decide, by decide +kernel, mc_45⟩
theorem sq_141 : mm_Pq mm_ct mm_CM mm_cl mm_WS mm_NW "SelfSorting$Reader" "" (.getfield 53, 3, 4, 3) := ⟨(RX4, TX4, 10), rfl, by decide, by decide, kw_216⟩
theorem sq_142 : mm_Pq mm_ct mm_CM mm_cl mm_WS mm_NW "SelfSorting$Reader" "" (.getfield 9, 3, 4, 0) := ⟨(RX4, TX4, 10), rfl, by decide, by decide, kw_193⟩
theorem sq_143 : mm_Pq mm_ct mm_CM mm_cl mm_WS mm_NW "SelfSorting$Reader" "" (.getfield 15, 3, 4, 1) := ⟨(RX4, TX4, 10), rfl, by decide, by decide, kw_194⟩
theorem sq_144 : mm_Pq mm_ct mm_CM mm_cl mm_WS mm_NW "SelfSorting$Reader" "" (.getfield 18, 3, 4, 2) := ⟨(RX4, TX4, 10), rfl, by decide, by decide, kw_195⟩
set_option maxRecDepth 100000 in
theorem ck_46 : mm_cks cX4_keepToken 0 cd_46 = true := by decide +kernel
set_option maxRecDepth 100000 in
theorem sf_46 : mm_spf cd_46 = [(.getfield 53, 3, 4, 3), (.getfield 9, 3, 4, 0), (.getfield 53, 3, 4, 3), (.getfield 15, 3, 4, 1), (.getfield 53, 3, 4, 3), (.getfield 18, 3, 4, 2), (.getfield 53, 3, 4, 3), (.getfield 53, 3, 4, 3), (.putfield 53, 3, 4, 3)] := by decide +kernel
theorem mc_46 : mm_MC mm_ct mm_CM mm_cl mm_WS mm_NW me_46 := mm_MC_of rfl rfl ck_46 (by rw [sf_46]; exact List.forall_mem_cons.mpr ⟨sq_141, List.forall_mem_cons.mpr ⟨sq_142, List.forall_mem_cons.mpr ⟨sq_141, List.forall_mem_cons.mpr ⟨sq_143, List.forall_mem_cons.mpr ⟨sq_141, List.forall_mem_cons.mpr ⟨sq_144, List.forall_mem_cons.mpr ⟨sq_141, List.forall_mem_cons.mpr ⟨sq_141, List.forall_mem_cons.mpr ⟨sq_135, fun _ h => nomatch h⟩⟩⟩⟩⟩⟩⟩⟩⟩)
theorem mo_46 : mm_MO mm_ct mm_CM mm_cl mm_WS mm_NW me_46 := ⟨by decide, kw_228, kw_201, by decide, by decide +kernel, mc_46⟩
set_option maxRecDepth 100000 in
theorem ck_47 : mm_cks cX4_isLetter 0 cd_47 = true := by decide +kernel
set_option maxRecDepth 100000 in
theorem sf_47 : mm_spf cd_47 = [] := by decide +kernel
theorem mc_47 : mm_MC mm_ct mm_CM mm_cl mm_WS mm_NW me_47 := mm_MC_of rfl rfl ck_47 (by rw [sf_47]; exact fun _ h => nomatch h)
theorem mo_47 : mm_MO mm_ct mm_CM mm_cl mm_WS mm_NW me_47 := ⟨by decide, kw_229, kw_201, by decide, by decide +kernel, mc_47⟩
set_option maxRecDepth 100000 in
theorem ck_48 : mm_cks cX4_isFigure 0 cd_48 = true := by decide +kernel
set_option maxRecDepth 100000 in
theorem sf_48 : mm_spf cd_48 = [] := by decide +kernel
theorem mc_48 : mm_MC mm_ct mm_CM mm_cl mm_WS mm_NW me_48 := mm_MC_of rfl rfl ck_48 (by rw [sf_48]; exact fun _ h => nomatch h)
theorem mo_48 : mm_MO mm_ct mm_CM mm_cl mm_WS mm_NW me_48 := ⟨by decide, kw_230, kw_201, by decide, by decide +kernel, mc_48⟩
theorem sq_145 : mm_Pq mm_ct mm_CM mm_cl mm_WS mm_NW "SelfSorting$Reader" "" (.invokestatic 76, 3, 47, 0) := ⟨kw_232, Or.inl kw_231⟩
theorem sq_146 : mm_Pq mm_ct mm_CM mm_cl mm_WS mm_NW "SelfSorting$Reader" "" (.invokestatic 79, 3, 48, 0) := ⟨kw_234, Or.inl kw_233⟩
set_option maxRecDepth 100000 in
theorem ck_49 : mm_cks cX4_lastOfToken 0 cd_49 = true := by decide +kernel
set_option maxRecDepth 100000 in
theorem sf_49 : mm_spf cd_49 = [(.invokestatic 76, 3, 47, 0), (.invokestatic 76, 3, 47, 0), (.invokestatic 79, 3, 48, 0), (.invokestatic 79, 3, 48, 0)] := by decide +kernel
theorem mc_49 : mm_MC mm_ct mm_CM mm_cl mm_WS mm_NW me_49 := mm_MC_of rfl rfl ck_49 (by rw [sf_49]; exact List.forall_mem_cons.mpr ⟨sq_145, List.forall_mem_cons.mpr ⟨sq_145, List.forall_mem_cons.mpr ⟨sq_146, List.forall_mem_cons.mpr ⟨sq_146, fun _ h => nomatch h⟩⟩⟩⟩)
theorem mo_49 : mm_MO mm_ct mm_CM mm_cl mm_WS mm_NW me_49 := ⟨by decide, kw_235, kw_201, by decide, by decide +kernel, mc_49⟩
theorem sq_147 : mm_Pq mm_ct mm_CM mm_cl mm_WS mm_NW "SelfSorting$Reader" "" (.invokestatic 82, 3, 51, 0) := ⟨kw_237, Or.inl kw_236⟩
theorem sq_148 : mm_Pq mm_ct mm_CM mm_cl mm_WS mm_NW "SelfSorting$Reader" "" (.ldc 85, 2, 1000003, 1) := ⟨⟨rfl, fun h => by cases h⟩, fun _ => ⟨rfl, rfl⟩⟩
theorem sq_149 : mm_Pq mm_ct mm_CM mm_cl mm_WS mm_NW "SelfSorting$Reader" "" (.invokevirtual 87, 3, 2, 8) := ⟨vz_WS, kw_1358⟩
set_option maxRecDepth 100000 in
theorem ck_50 : mm_cks cX4_kindOf 0 cd_50 = true := by decide +kernel
set_option maxRecDepth 100000 in
theorem sf_50 : mm_spf cd_50 = [(.invokestatic 76, 3, 47, 0), (.invokestatic 82, 3, 51, 0), (.invokestatic 79, 3, 48, 0), (.ldc 85, 2, 1000003, 1), (.invokevirtual 87, 3, 2, 8)] := by decide +kernel
theorem mc_50 : mm_MC mm_ct mm_CM mm_cl mm_WS mm_NW me_50 := mm_MC_of rfl rfl ck_50 (by rw [sf_50]; exact List.forall_mem_cons.mpr ⟨sq_145, List.forall_mem_cons.mpr ⟨sq_147, List.forall_mem_cons.mpr ⟨sq_146, List.forall_mem_cons.mpr ⟨sq_148, List.forall_mem_cons.mpr ⟨sq_149, fun _ h => nomatch h⟩⟩⟩⟩⟩)
theorem mo_50 : mm_MO mm_ct mm_CM mm_cl mm_WS mm_NW me_50 := ⟨by decide, kw_238, kw_201, by decide, by decide +kernel, mc_50⟩
theorem sq_150 : mm_Pq mm_ct mm_CM mm_cl mm_WS mm_NW "SelfSorting$Reader" "" (.ldc 93, 2, 1000002, 1) := ⟨⟨rfl, fun h => by cases h⟩, fun _ => ⟨rfl, rfl⟩⟩
theorem sq_151 : mm_Pq mm_ct mm_CM mm_cl mm_WS mm_NW "SelfSorting$Reader" "" (.invokevirtual 95, 3, 0, 8) := ⟨vz_WS, kw_1359⟩
theorem sq_152 : mm_Pq mm_ct mm_CM mm_cl mm_WS mm_NW "SelfSorting$Reader" "" (.invokevirtual 98, 3, 1, 8) := ⟨vz_WS, kw_1360⟩
set_option maxRecDepth 100000 in
theorem ck_51 : mm_cks cX4_wordOf 0 cd_51 = true := by decide +kernel
set_option maxRecDepth 100000 in
theorem sf_51 : mm_spf cd_51 = [(.ldc 93, 2, 1000002, 1), (.invokevirtual 95, 3, 0, 8), (.ldc 93, 2, 1000002, 1), (.invokevirtual 95, 3, 0, 8), (.ldc 93, 2, 1000002, 1), (.invokevirtual 98, 3, 1, 8), (.ldc 93, 2, 1000002, 1), (.invokevirtual 98, 3, 1, 8)] := by decide +kernel
theorem mc_51 : mm_MC mm_ct mm_CM mm_cl mm_WS mm_NW me_51 := mm_MC_of rfl rfl ck_51 (by rw [sf_51]; exact List.forall_mem_cons.mpr ⟨sq_150, List.forall_mem_cons.mpr ⟨sq_151, List.forall_mem_cons.mpr ⟨sq_150, List.forall_mem_cons.mpr ⟨sq_151, List.forall_mem_cons.mpr ⟨sq_150, List.forall_mem_cons.mpr ⟨sq_152, List.forall_mem_cons.mpr ⟨sq_150, List.forall_mem_cons.mpr ⟨sq_152, fun _ h => nomatch h⟩⟩⟩⟩⟩⟩⟩⟩)
theorem mo_51 : mm_MO mm_ct mm_CM mm_cl mm_WS mm_NW me_51 := ⟨by decide, kw_239, kw_201, by decide, by decide +kernel, mc_51⟩
theorem sq_153 : mm_Pq mm_ct mm_CM mm_cl mm_WS mm_NW "SelfSorting$Reader" "" (.invokestatic 102, 3, 0, 6) := ⟨kw_240, kw_147, kw_149, kw_148⟩
set_option maxRecDepth 100000 in
theorem ck_52 : mm_cks cX4_numberOf 0 cd_52 = true := by decide +kernel
set_option maxRecDepth 100000 in
theorem sf_52 : mm_spf cd_52 = [(.invokestatic 79, 3, 48, 0), (.invokestatic 102, 3, 0, 6)] := by decide +kernel
theorem mc_52 : mm_MC mm_ct mm_CM mm_cl mm_WS mm_NW me_52 := mm_MC_of rfl rfl ck_52 (by rw [sf_52]; exact List.forall_mem_cons.mpr ⟨sq_146, List.forall_mem_cons.mpr ⟨sq_153, fun _ h => nomatch h⟩⟩)
theorem mo_52 : mm_MO mm_ct mm_CM mm_cl mm_WS mm_NW me_52 := ⟨by decide, kw_241, kw_201, by decide, by decide +kernel, mc_52⟩
theorem sq_154 : mm_Pq mm_ct mm_CM mm_cl mm_WS mm_NW "SelfSorting$Reader" "" (.getfield 42, 3, 4, 4) := ⟨(RX4, TX4, 10), rfl, by decide, by decide, kw_208⟩
set_option maxRecDepth 100000 in
theorem ck_53 : mm_cks cX4_kind 0 cd_53 = true := by decide +kernel
set_option maxRecDepth 100000 in
theorem sf_53 : mm_spf cd_53 = [(.getfield 42, 3, 4, 4), (.getfield 53, 3, 4, 3), (.getfield 9, 3, 4, 0), (.getfield 42, 3, 4, 4)] := by decide +kernel
theorem mc_53 : mm_MC mm_ct mm_CM mm_cl mm_WS mm_NW me_53 := mm_MC_of rfl rfl ck_53 (by rw [sf_53]; exact List.forall_mem_cons.mpr ⟨sq_154, List.forall_mem_cons.mpr ⟨sq_141, List.forall_mem_cons.mpr ⟨sq_142, List.forall_mem_cons.mpr ⟨sq_154, fun _ h => nomatch h⟩⟩⟩⟩)
theorem mo_53 : mm_MO mm_ct mm_CM mm_cl mm_WS mm_NW me_53 := ⟨by decide, kw_242, kw_201, by decide, by decide +kernel, mc_53⟩
set_option maxRecDepth 100000 in
theorem ck_54 : mm_cks cX4_fail 0 cd_54 = true := by decide +kernel
set_option maxRecDepth 100000 in
theorem sf_54 : mm_spf cd_54 = [(.putfield 28, 3, 4, 8), (.getfield 42, 3, 4, 4), (.getfield 53, 3, 4, 3), (.getfield 15, 3, 4, 1), (.getfield 42, 3, 4, 4), (.putfield 32, 3, 4, 9)] := by decide +kernel
theorem mc_54 : mm_MC mm_ct mm_CM mm_cl mm_WS mm_NW me_54 := mm_MC_of rfl rfl ck_54 (by rw [sf_54]; exact List.forall_mem_cons.mpr ⟨sq_127, List.forall_mem_cons.mpr ⟨sq_154, List.forall_mem_cons.mpr ⟨sq_141, List.forall_mem_cons.mpr ⟨sq_143, List.forall_mem_cons.mpr ⟨sq_154, List.forall_mem_cons.mpr ⟨sq_128, fun _ h => nomatch h⟩⟩⟩⟩⟩⟩)
theorem mo_54 : mm_MO mm_ct mm_CM mm_cl mm_WS mm_NW me_54 := ⟨by decide, kw_243, kw_201, by decide, by decide +kernel, mc_54⟩
theorem sq_155 : mm_Pq mm_ct mm_CM mm_cl mm_WS mm_NW "SelfSorting$Reader" "" (.invokevirtual 105, 3, 54, 1) := ⟨kw_245, kw_246, kw_244, _, _, rfl⟩
set_option maxRecDepth 100000 in
theorem ck_55 : mm_cks cX4_skip 0 cd_55 = true := by decide +kernel
set_option maxRecDepth 100000 in
theorem sf_55 : mm_spf cd_55 = [(.invokevirtual 45, 3, 53, 1), (.invokevirtual 105, 3, 54, 1), (.getfield 42, 3, 4, 4), (.putfield 42, 3, 4, 4)] := by decide +kernel
theorem mc_55 : mm_MC mm_ct mm_CM mm_cl mm_WS mm_NW me_55 := mm_MC_of rfl rfl ck_55 (by rw [sf_55]; exact List.forall_mem_cons.mpr ⟨sq_133, List.forall_mem_cons.mpr ⟨sq_155, List.forall_mem_cons.mpr ⟨sq_154, List.forall_mem_cons.mpr ⟨sq_132, fun _ h => nomatch h⟩⟩⟩⟩)
theorem mo_55 : mm_MO mm_ct mm_CM mm_cl mm_WS mm_NW me_55 := ⟨by decide, kw_247, kw_201, by decide, by decide +kernel, mc_55⟩
theorem sq_156 : mm_Pq mm_ct mm_CM mm_cl mm_WS mm_NW "SelfSorting$Reader" "" (.putfield 108, 3, 4, 6) := ⟨⟨(RX4, TX4, 10), rfl, by decide, by decide, kw_248⟩, fun r h g => by cases h; cases g⟩
theorem sq_157 : mm_Pq mm_ct mm_CM mm_cl mm_WS mm_NW "SelfSorting$Reader" "" (.getfield 108, 3, 4, 6) := ⟨(RX4, TX4, 10), rfl, by decide, by decide, kw_248⟩
theorem sq_158 : mm_Pq mm_ct mm_CM mm_cl mm_WS mm_NW "SelfSorting$Reader" "" (.invokevirtual 111, 3, 57, 1) := ⟨kw_250, kw_251, kw_249, _, _, rfl⟩
theorem sq_159 : mm_Pq mm_ct mm_CM mm_cl mm_WS mm_NW "SelfSorting$Reader" "" (.putfield 115, 3, 4, 7) := ⟨⟨(RX4, TX4, 10), rfl, by decide, by decide, kw_252⟩, fun r h g => by cases h; cases g⟩
theorem sq_160 : mm_Pq mm_ct mm_CM mm_cl mm_WS mm_NW "SelfSorting$Reader" "" (.getfield 118, 3, 6, 0) := ⟨(RX6, TX6, 8), rfl, by decide, by decide, kw_253⟩
theorem sq_161 : mm_Pq mm_ct mm_CM mm_cl mm_WS mm_NW "SelfSorting$Reader" "" (.putfield 121, 3, 6, 5) := ⟨⟨(RX6, TX6, 8), rfl, by decide, by decide, kw_254⟩, fun r h g => by cases h; cases g⟩
theorem sq_162 : mm_Pq mm_ct mm_CM mm_cl mm_WS mm_NW "SelfSorting$Reader" "" (.getfield 124, 3, 6, 6) := ⟨(RX6, TX6, 8), rfl, by decide, by decide, kw_255⟩
theorem sq_163 : mm_Pq mm_ct mm_CM mm_cl mm_WS mm_NW "SelfSorting$Reader" "" (.invokevirtual 126, 3, 59, 1) := ⟨kw_257, kw_258, kw_256, _, _, rfl⟩
theorem sq_164 : mm_Pq mm_ct mm_CM mm_cl mm_WS mm_NW "SelfSorting$Reader" "" (.invokevirtual 129, 3, 58, 1) := ⟨kw_260, kw_261, kw_259, _, _, rfl⟩
theorem sq_165 : mm_Pq mm_ct mm_CM mm_cl mm_WS mm_NW "SelfSorting$Reader" "" (.invokevirtual 132, 3, 63, 1) := ⟨kw_263, kw_264, kw_262, _, _, rfl⟩
theorem sq_166 : mm_Pq mm_ct mm_CM mm_cl mm_WS mm_NW "SelfSorting$Reader" "" (.invokevirtual 135, 3, 61, 1) := ⟨kw_266, kw_267, kw_265, _, _, rfl⟩
theorem sq_167 : mm_Pq mm_ct mm_CM mm_cl mm_WS mm_NW "SelfSorting$Reader" "" (.getfield 138, 3, 6, 3) := ⟨(RX6, TX6, 8), rfl, by decide, by decide, kw_268⟩
theorem sq_168 : mm_Pq mm_ct mm_CM mm_cl mm_WS mm_NW "SelfSorting$Reader" "" (.getfield 141, 3, 6, 4) := ⟨(RX6, TX6, 8), rfl, by decide, by decide, kw_269⟩
theorem sq_169 : mm_Pq mm_ct mm_CM mm_cl mm_WS mm_NW "SelfSorting$Reader" "" (.invokevirtual 144, 3, 55, 1) := ⟨kw_271, kw_272, kw_270, _, _, rfl⟩
set_option maxRecDepth 100000 in
theorem ck_56 : mm_cks cX4_clause 0 cd_56 = true := by decide +kernel
set_option maxRecDepth 100000 in
theorem sf_56 : mm_spf cd_56 = [(.invokevirtual 45, 3, 53, 1), (.putfield 108, 3, 4, 6), (.getfield 108, 3, 4, 6), (.getfield 108, 3, 4, 6), (.getfield 108, 3, 4, 6), (.invokevirtual 105, 3, 54, 1), (.invokevirtual 111, 3, 57, 1), (.invokevirtual 105, 3, 54, 1), (.invokevirtual 105, 3, 54, 1), (.getfield 42, 3, 4, 4), (.putfield 42, 3, 4, 4), (.putfield 115, 3, 4, 7), (.getfield 24, 3, 4, 5), (.getfield 118, 3, 6, 0), (.getfield 108, 3, 4, 6), (.getfield 24, 3, 4, 5), (.putfield 121, 3, 6, 5), (.getfield 24, 3, 4, 5), (.getfield 124, 3, 6, 6), (.invokevirtual 126, 3, 59, 1), (.invokevirtual 129, 3, 58, 1), (.invokevirtual 132, 3, 63, 1), (.invokevirtual 135, 3, 61, 1), (.getfield 24, 3, 4, 5), (.getfield 138, 3, 6, 3), (.getfield 24, 3, 4, 5), (.getfield 141, 3, 6, 4), (.getfield 24, 3, 4, 5), (.getfield 124, 3, 6, 6), (.invokevirtual 144, 3, 55, 1)] := by decide +kernel
theorem mc_56 : mm_MC mm_ct mm_CM mm_cl mm_WS mm_NW me_56 := mm_MC_of rfl rfl ck_56 (by rw [sf_56]; exact List.forall_mem_cons.mpr ⟨sq_133, List.forall_mem_cons.mpr ⟨sq_156, List.forall_mem_cons.mpr ⟨sq_157, List.forall_mem_cons.mpr ⟨sq_157, List.forall_mem_cons.mpr ⟨sq_157, List.forall_mem_cons.mpr ⟨sq_155, List.forall_mem_cons.mpr ⟨sq_158, List.forall_mem_cons.mpr ⟨sq_155, List.forall_mem_cons.mpr ⟨sq_155, List.forall_mem_cons.mpr ⟨sq_154, List.forall_mem_cons.mpr ⟨sq_132, List.forall_mem_cons.mpr ⟨sq_159, List.forall_mem_cons.mpr ⟨sq_129, List.forall_mem_cons.mpr ⟨sq_160, List.forall_mem_cons.mpr ⟨sq_157, List.forall_mem_cons.mpr ⟨sq_129, List.forall_mem_cons.mpr ⟨sq_161, List.forall_mem_cons.mpr ⟨sq_129, List.forall_mem_cons.mpr ⟨sq_162, List.forall_mem_cons.mpr ⟨sq_163, List.forall_mem_cons.mpr ⟨sq_164, List.forall_mem_cons.mpr ⟨sq_165, List.forall_mem_cons.mpr ⟨sq_166, List.forall_mem_cons.mpr ⟨sq_129, List.forall_mem_cons.mpr ⟨sq_167, List.forall_mem_cons.mpr ⟨sq_129, List.forall_mem_cons.mpr ⟨sq_168, List.forall_mem_cons.mpr ⟨sq_129, List.forall_mem_cons.mpr ⟨sq_162, List.forall_mem_cons.mpr ⟨sq_169, fun _ h => nomatch h⟩⟩⟩⟩⟩⟩⟩⟩⟩⟩⟩⟩⟩⟩⟩⟩⟩⟩⟩⟩⟩⟩⟩⟩⟩⟩⟩⟩⟩⟩)
theorem mo_56 : mm_MO mm_ct mm_CM mm_cl mm_WS mm_NW me_56 := ⟨by decide, kw_273, kw_201, by decide, by decide +kernel, mc_56⟩
theorem sq_170 : mm_Pq mm_ct mm_CM mm_cl mm_WS mm_NW "SelfSorting$Reader" "" (.invokevirtual 147, 3, 80, 1) := ⟨kw_11, kw_12, kw_274, _, _, rfl⟩
theorem sq_171 : mm_Pq mm_ct mm_CM mm_cl mm_WS mm_NW "SelfSorting$Reader" "" (.getfield 150, 3, 6, 7) := ⟨(RX6, TX6, 8), rfl, by decide, by decide, kw_275⟩
set_option maxRecDepth 100000 in
theorem ck_57 : mm_cks cX4_isToldTwice 0 cd_57 = true := by decide +kernel
set_option maxRecDepth 100000 in
theorem sf_57 : mm_spf cd_57 = [(.getfield 108, 3, 4, 6), (.getfield 24, 3, 4, 5), (.invokevirtual 147, 3, 80, 1), (.getfield 24, 3, 4, 5), (.invokevirtual 147, 3, 80, 1), (.getfield 24, 3, 4, 5), (.getfield 150, 3, 6, 7)] := by decide +kernel
theorem mc_57 : mm_MC mm_ct mm_CM mm_cl mm_WS mm_NW me_57 := mm_MC_of rfl rfl ck_57 (by rw [sf_57]; exact List.forall_mem_cons.mpr ⟨sq_157, List.forall_mem_cons.mpr ⟨sq_129, List.forall_mem_cons.mpr ⟨sq_170, List.forall_mem_cons.mpr ⟨sq_129, List.forall_mem_cons.mpr ⟨sq_170, List.forall_mem_cons.mpr ⟨sq_129, List.forall_mem_cons.mpr ⟨sq_171, fun _ h => nomatch h⟩⟩⟩⟩⟩⟩⟩)
theorem mo_57 : mm_MO mm_ct mm_CM mm_cl mm_WS mm_NW me_57 := ⟨by decide, kw_276, kw_201, by decide, by decide +kernel, mc_57⟩
theorem sq_172 : mm_Pq mm_ct mm_CM mm_cl mm_WS mm_NW "SelfSorting$Reader" "" (.invokevirtual 153, 3, 82, 1) := ⟨kw_278, kw_279, kw_277, _, _, rfl⟩
set_option maxRecDepth 100000 in
theorem ck_58 : mm_cks cX4_slotOf 0 cd_58 = true := by decide +kernel
set_option maxRecDepth 100000 in
theorem sf_58 : mm_spf cd_58 = [(.getfield 108, 3, 4, 6), (.getfield 24, 3, 4, 5), (.invokevirtual 153, 3, 82, 1)] := by decide +kernel
theorem mc_58 : mm_MC mm_ct mm_CM mm_cl mm_WS mm_NW me_58 := mm_MC_of rfl rfl ck_58 (by rw [sf_58]; exact List.forall_mem_cons.mpr ⟨sq_157, List.forall_mem_cons.mpr ⟨sq_129, List.forall_mem_cons.mpr ⟨sq_172, fun _ h => nomatch h⟩⟩⟩)
theorem mo_58 : mm_MO mm_ct mm_CM mm_cl mm_WS mm_NW me_58 := ⟨by decide, kw_280, kw_201, by decide, by decide +kernel, mc_58⟩
theorem sq_173 : mm_Pq mm_ct mm_CM mm_cl mm_WS mm_NW "SelfSorting$Reader" "" (.invokevirtual 156, 3, 60, 1) := ⟨kw_282, kw_283, kw_281, _, _, rfl⟩
theorem sq_174 : mm_Pq mm_ct mm_CM mm_cl mm_WS mm_NW "SelfSorting$Reader" "" (.getfield 160, 3, 6, 1) := ⟨(RX6, TX6, 8), rfl, by decide, by decide, kw_284⟩
theorem sq_175 : mm_Pq mm_ct mm_CM mm_cl mm_WS mm_NW "SelfSorting$Reader" "" (.putfield 150, 3, 6, 7) := ⟨⟨(RX6, TX6, 8), rfl, by decide, by decide, kw_275⟩, fun r h g => by cases h; cases g⟩
set_option maxRecDepth 100000 in
theorem ck_59 : mm_cks cX4_numbersOf 0 cd_59 = true := by decide +kernel
set_option maxRecDepth 100000 in
theorem sf_59 : mm_spf cd_59 = [(.getfield 108, 3, 4, 6), (.invokevirtual 156, 3, 60, 1), (.invokevirtual 156, 3, 60, 1), (.getfield 24, 3, 4, 5), (.getfield 24, 3, 4, 5), (.getfield 160, 3, 6, 1), (.putfield 150, 3, 6, 7), (.invokevirtual 156, 3, 60, 1), (.invokevirtual 156, 3, 60, 1), (.invokevirtual 144, 3, 55, 1), (.invokevirtual 156, 3, 60, 1), (.invokevirtual 156, 3, 60, 1), (.invokevirtual 156, 3, 60, 1), (.invokevirtual 144, 3, 55, 1), (.invokevirtual 156, 3, 60, 1), (.invokevirtual 144, 3, 55, 1), (.invokevirtual 156, 3, 60, 1)] := by decide +kernel
theorem mc_59 : mm_MC mm_ct mm_CM mm_cl mm_WS mm_NW me_59 := mm_MC_of rfl rfl ck_59 (by rw [sf_59]; exact List.forall_mem_cons.mpr ⟨sq_157, List.forall_mem_cons.mpr ⟨sq_173, List.forall_mem_cons.mpr ⟨sq_173, List.forall_mem_cons.mpr ⟨sq_129, List.forall_mem_cons.mpr ⟨sq_129, List.forall_mem_cons.mpr ⟨sq_174, List.forall_mem_cons.mpr ⟨sq_175, List.forall_mem_cons.mpr ⟨sq_173, List.forall_mem_cons.mpr ⟨sq_173, List.forall_mem_cons.mpr ⟨sq_169, List.forall_mem_cons.mpr ⟨sq_173, List.forall_mem_cons.mpr ⟨sq_173, List.forall_mem_cons.mpr ⟨sq_173, List.forall_mem_cons.mpr ⟨sq_169, List.forall_mem_cons.mpr ⟨sq_173, List.forall_mem_cons.mpr ⟨sq_169, List.forall_mem_cons.mpr ⟨sq_173, fun _ h => nomatch h⟩⟩⟩⟩⟩⟩⟩⟩⟩⟩⟩⟩⟩⟩⟩⟩⟩)
theorem mo_59 : mm_MO mm_ct mm_CM mm_cl mm_WS mm_NW me_59 := ⟨by decide, kw_285, kw_201, by decide, by decide +kernel, mc_59⟩
set_option maxRecDepth 100000 in
theorem ck_60 : mm_cks cX4_number 0 cd_60 = true := by decide +kernel
set_option maxRecDepth 100000 in
theorem sf_60 : mm_spf cd_60 = [(.invokevirtual 45, 3, 53, 1), (.invokevirtual 105, 3, 54, 1), (.getfield 18, 3, 4, 2), (.getfield 42, 3, 4, 4), (.invokevirtual 105, 3, 54, 1), (.getfield 108, 3, 4, 6), (.getfield 24, 3, 4, 5), (.invokevirtual 147, 3, 80, 1), (.invokevirtual 105, 3, 54, 1), (.getfield 24, 3, 4, 5), (.getfield 160, 3, 6, 1), (.getfield 42, 3, 4, 4), (.putfield 42, 3, 4, 4)] := by decide +kernel
theorem mc_60 : mm_MC mm_ct mm_CM mm_cl mm_WS mm_NW me_60 := mm_MC_of rfl rfl ck_60 (by rw [sf_60]; exact List.forall_mem_cons.mpr ⟨sq_133, List.forall_mem_cons.mpr ⟨sq_155, List.forall_mem_cons.mpr ⟨sq_144, List.forall_mem_cons.mpr ⟨sq_154, List.forall_mem_cons.mpr ⟨sq_155, List.forall_mem_cons.mpr ⟨sq_157, List.forall_mem_cons.mpr ⟨sq_129, List.forall_mem_cons.mpr ⟨sq_170, List.forall_mem_cons.mpr ⟨sq_155, List.forall_mem_cons.mpr ⟨sq_129, List.forall_mem_cons.mpr ⟨sq_174, List.forall_mem_cons.mpr ⟨sq_154, List.forall_mem_cons.mpr ⟨sq_132, fun _ h => nomatch h⟩⟩⟩⟩⟩⟩⟩⟩⟩⟩⟩⟩⟩)
theorem mo_60 : mm_MO mm_ct mm_CM mm_cl mm_WS mm_NW me_60 := ⟨by decide, kw_286, kw_201, by decide, by decide +kernel, mc_60⟩
theorem sq_176 : mm_Pq mm_ct mm_CM mm_cl mm_WS mm_NW "SelfSorting$Reader" "" (.invokevirtual 161, 3, 62, 1) := ⟨kw_288, kw_289, kw_287, _, _, rfl⟩
theorem sq_177 : mm_Pq mm_ct mm_CM mm_cl mm_WS mm_NW "SelfSorting$Reader" "" (.invokevirtual 164, 3, 83, 1) := ⟨kw_291, kw_292, kw_290, _, _, rfl⟩
set_option maxRecDepth 100000 in
theorem ck_61 : mm_cks cX4_either 0 cd_61 = true := by decide +kernel
set_option maxRecDepth 100000 in
theorem sf_61 : mm_spf cd_61 = [(.invokevirtual 161, 3, 62, 1), (.invokevirtual 45, 3, 53, 1), (.getfield 42, 3, 4, 4), (.putfield 42, 3, 4, 4), (.invokevirtual 161, 3, 62, 1), (.getfield 24, 3, 4, 5), (.invokevirtual 164, 3, 83, 1), (.getfield 24, 3, 4, 5), (.invokevirtual 164, 3, 83, 1), (.invokevirtual 45, 3, 53, 1), (.getfield 42, 3, 4, 4), (.putfield 42, 3, 4, 4), (.invokevirtual 105, 3, 54, 1)] := by decide +kernel
theorem mc_61 : mm_MC mm_ct mm_CM mm_cl mm_WS mm_NW me_61 := mm_MC_of rfl rfl ck_61 (by rw [sf_61]; exact List.forall_mem_cons.mpr ⟨sq_176, List.forall_mem_cons.mpr ⟨sq_133, List.forall_mem_cons.mpr ⟨sq_154, List.forall_mem_cons.mpr ⟨sq_132, List.forall_mem_cons.mpr ⟨sq_176, List.forall_mem_cons.mpr ⟨sq_129, List.forall_mem_cons.mpr ⟨sq_177, List.forall_mem_cons.mpr ⟨sq_129, List.forall_mem_cons.mpr ⟨sq_177, List.forall_mem_cons.mpr ⟨sq_133, List.forall_mem_cons.mpr ⟨sq_154, List.forall_mem_cons.mpr ⟨sq_132, List.forall_mem_cons.mpr ⟨sq_155, fun _ h => nomatch h⟩⟩⟩⟩⟩⟩⟩⟩⟩⟩⟩⟩⟩)
theorem mo_61 : mm_MO mm_ct mm_CM mm_cl mm_WS mm_NW me_61 := ⟨by decide, kw_293, kw_201, by decide, by decide +kernel, mc_61⟩
theorem sq_178 : mm_Pq mm_ct mm_CM mm_cl mm_WS mm_NW "SelfSorting$Reader" "" (.getfield 115, 3, 4, 7) := ⟨(RX4, TX4, 10), rfl, by decide, by decide, kw_252⟩
set_option maxRecDepth 100000 in
theorem ck_62 : mm_cks cX4_ask 0 cd_62 = true := by decide +kernel
set_option maxRecDepth 100000 in
theorem sf_62 : mm_spf cd_62 = [(.invokevirtual 45, 3, 53, 1), (.getfield 115, 3, 4, 7), (.invokevirtual 105, 3, 54, 1), (.getfield 115, 3, 4, 7), (.putfield 115, 3, 4, 7), (.getfield 42, 3, 4, 4), (.putfield 42, 3, 4, 4), (.invokevirtual 161, 3, 62, 1), (.getfield 115, 3, 4, 7), (.putfield 115, 3, 4, 7), (.getfield 24, 3, 4, 5), (.invokevirtual 164, 3, 83, 1), (.invokevirtual 132, 3, 63, 1), (.invokevirtual 45, 3, 53, 1), (.invokevirtual 105, 3, 54, 1), (.getfield 42, 3, 4, 4), (.putfield 42, 3, 4, 4), (.invokevirtual 132, 3, 63, 1), (.getfield 24, 3, 4, 5), (.invokevirtual 164, 3, 83, 1)] := by decide +kernel
theorem mc_62 : mm_MC mm_ct mm_CM mm_cl mm_WS mm_NW me_62 := mm_MC_of rfl rfl ck_62 (by rw [sf_62]; exact List.forall_mem_cons.mpr ⟨sq_133, List.forall_mem_cons.mpr ⟨sq_178, List.forall_mem_cons.mpr ⟨sq_155, List.forall_mem_cons.mpr ⟨sq_178, List.forall_mem_cons.mpr ⟨sq_159, List.forall_mem_cons.mpr ⟨sq_154, List.forall_mem_cons.mpr ⟨sq_132, List.forall_mem_cons.mpr ⟨sq_176, List.forall_mem_cons.mpr ⟨sq_178, List.forall_mem_cons.mpr ⟨sq_159, List.forall_mem_cons.mpr ⟨sq_129, List.forall_mem_cons.mpr ⟨sq_177, List.forall_mem_cons.mpr ⟨sq_165, List.forall_mem_cons.mpr ⟨sq_133, List.forall_mem_cons.mpr ⟨sq_155, List.forall_mem_cons.mpr ⟨sq_154, List.forall_mem_cons.mpr ⟨sq_132, List.forall_mem_cons.mpr ⟨sq_165, List.forall_mem_cons.mpr ⟨sq_129, List.forall_mem_cons.mpr ⟨sq_177, fun _ h => nomatch h⟩⟩⟩⟩⟩⟩⟩⟩⟩⟩⟩⟩⟩⟩⟩⟩⟩⟩⟩⟩)
theorem mo_62 : mm_MO mm_ct mm_CM mm_cl mm_WS mm_NW me_62 := ⟨by decide, kw_294, kw_201, by decide, by decide +kernel, mc_62⟩
theorem sq_179 : mm_Pq mm_ct mm_CM mm_cl mm_WS mm_NW "SelfSorting$Reader" "" (.invokevirtual 168, 3, 64, 1) := ⟨kw_296, kw_297, kw_295, _, _, rfl⟩
set_option maxRecDepth 100000 in
theorem ck_63 : mm_cks cX4_sum 0 cd_63 = true := by decide +kernel
set_option maxRecDepth 100000 in
theorem sf_63 : mm_spf cd_63 = [(.invokevirtual 168, 3, 64, 1), (.invokevirtual 45, 3, 53, 1), (.invokevirtual 45, 3, 53, 1), (.invokevirtual 45, 3, 53, 1), (.getfield 42, 3, 4, 4), (.putfield 42, 3, 4, 4), (.invokevirtual 168, 3, 64, 1), (.getfield 24, 3, 4, 5), (.invokevirtual 164, 3, 83, 1), (.getfield 24, 3, 4, 5), (.invokevirtual 164, 3, 83, 1), (.invokevirtual 45, 3, 53, 1), (.getfield 42, 3, 4, 4), (.putfield 42, 3, 4, 4), (.invokevirtual 105, 3, 54, 1)] := by decide +kernel
theorem mc_63 : mm_MC mm_ct mm_CM mm_cl mm_WS mm_NW me_63 := mm_MC_of rfl rfl ck_63 (by rw [sf_63]; exact List.forall_mem_cons.mpr ⟨sq_179, List.forall_mem_cons.mpr ⟨sq_133, List.forall_mem_cons.mpr ⟨sq_133, List.forall_mem_cons.mpr ⟨sq_133, List.forall_mem_cons.mpr ⟨sq_154, List.forall_mem_cons.mpr ⟨sq_132, List.forall_mem_cons.mpr ⟨sq_179, List.forall_mem_cons.mpr ⟨sq_129, List.forall_mem_cons.mpr ⟨sq_177, List.forall_mem_cons.mpr ⟨sq_129, List.forall_mem_cons.mpr ⟨sq_177, List.forall_mem_cons.mpr ⟨sq_133, List.forall_mem_cons.mpr ⟨sq_154, List.forall_mem_cons.mpr ⟨sq_132, List.forall_mem_cons.mpr ⟨sq_155, fun _ h => nomatch h⟩⟩⟩⟩⟩⟩⟩⟩⟩⟩⟩⟩⟩⟩⟩)
theorem mo_63 : mm_MO mm_ct mm_CM mm_cl mm_WS mm_NW me_63 := ⟨by decide, kw_298, kw_201, by decide, by decide +kernel, mc_63⟩
theorem sq_180 : mm_Pq mm_ct mm_CM mm_cl mm_WS mm_NW "SelfSorting$Reader" "" (.invokevirtual 171, 3, 65, 1) := ⟨kw_300, kw_301, kw_299, _, _, rfl⟩
set_option maxRecDepth 100000 in
theorem ck_64 : mm_cks cX4_one 0 cd_64 = true := by decide +kernel
set_option maxRecDepth 100000 in
theorem sf_64 : mm_spf cd_64 = [(.invokevirtual 45, 3, 53, 1), (.getfield 18, 3, 4, 2), (.getfield 42, 3, 4, 4), (.invokevirtual 105, 3, 54, 1), (.invokevirtual 171, 3, 65, 1), (.invokevirtual 105, 3, 54, 1), (.getfield 24, 3, 4, 5), (.getfield 18, 3, 4, 2), (.getfield 42, 3, 4, 4), (.invokevirtual 164, 3, 83, 1), (.getfield 42, 3, 4, 4), (.putfield 42, 3, 4, 4), (.invokevirtual 105, 3, 54, 1), (.getfield 115, 3, 4, 7), (.invokevirtual 105, 3, 54, 1), (.getfield 115, 3, 4, 7), (.putfield 115, 3, 4, 7), (.getfield 42, 3, 4, 4), (.putfield 42, 3, 4, 4), (.invokevirtual 132, 3, 63, 1), (.invokevirtual 168, 3, 64, 1), (.getfield 115, 3, 4, 7), (.putfield 115, 3, 4, 7), (.getfield 24, 3, 4, 5), (.invokevirtual 164, 3, 83, 1), (.invokevirtual 45, 3, 53, 1), (.invokevirtual 105, 3, 54, 1), (.getfield 42, 3, 4, 4), (.putfield 42, 3, 4, 4)] := by decide +kernel
theorem mc_64 : mm_MC mm_ct mm_CM mm_cl mm_WS mm_NW me_64 := mm_MC_of rfl rfl ck_64 (by rw [sf_64]; exact List.forall_mem_cons.mpr ⟨sq_133, List.forall_mem_cons.mpr ⟨sq_144, List.forall_mem_cons.mpr ⟨sq_154, List.forall_mem_cons.mpr ⟨sq_155, List.forall_mem_cons.mpr ⟨sq_180, List.forall_mem_cons.mpr ⟨sq_155, List.forall_mem_cons.mpr ⟨sq_129, List.forall_mem_cons.mpr ⟨sq_144, List.forall_mem_cons.mpr ⟨sq_154, List.forall_mem_cons.mpr ⟨sq_177, List.forall_mem_cons.mpr ⟨sq_154, List.forall_mem_cons.mpr ⟨sq_132, List.forall_mem_cons.mpr ⟨sq_155, List.forall_mem_cons.mpr ⟨sq_178, List.forall_mem_cons.mpr ⟨sq_155, List.forall_mem_cons.mpr ⟨sq_178, List.forall_mem_cons.mpr ⟨sq_159, List.forall_mem_cons.mpr ⟨sq_154, List.forall_mem_cons.mpr ⟨sq_132, List.forall_mem_cons.mpr ⟨sq_165, List.forall_mem_cons.mpr ⟨sq_179, List.forall_mem_cons.mpr ⟨sq_178, List.forall_mem_cons.mpr ⟨sq_159, List.forall_mem_cons.mpr ⟨sq_129, List.forall_mem_cons.mpr ⟨sq_177, List.forall_mem_cons.mpr ⟨sq_133, List.forall_mem_cons.mpr ⟨sq_155, List.forall_mem_cons.mpr ⟨sq_154, List.forall_mem_cons.mpr ⟨sq_132, fun _ h => nomatch h⟩⟩⟩⟩⟩⟩⟩⟩⟩⟩⟩⟩⟩⟩⟩⟩⟩⟩⟩⟩⟩⟩⟩⟩⟩⟩⟩⟩⟩)
theorem mo_64 : mm_MO mm_ct mm_CM mm_cl mm_WS mm_NW me_64 := ⟨by decide, kw_302, kw_201, by decide, by decide +kernel, mc_64⟩
set_option maxRecDepth 100000 in
theorem ck_65 : mm_cks cX4_isNameHere 0 cd_65 = true := by decide +kernel
set_option maxRecDepth 100000 in
theorem sf_65 : mm_spf cd_65 = [(.getfield 108, 3, 4, 6), (.getfield 108, 3, 4, 6)] := by decide +kernel
theorem mc_65 : mm_MC mm_ct mm_CM mm_cl mm_WS mm_NW me_65 := mm_MC_of rfl rfl ck_65 (by rw [sf_65]; exact List.forall_mem_cons.mpr ⟨sq_157, List.forall_mem_cons.mpr ⟨sq_157, fun _ h => nomatch h⟩⟩)
theorem mo_65 : mm_MO mm_ct mm_CM mm_cl mm_WS mm_NW me_65 := ⟨by decide, kw_303, kw_201, by decide, by decide +kernel, mc_65⟩
theorem sq_181 : mm_Pq mm_ct mm_CM mm_cl mm_WS mm_NW "SelfSorting$Scene" "" (.invokespecial 3, 3, 0, 3) := ⟨kw_304, kw_1356, kw_1357⟩
theorem sq_182 : mm_Pq mm_ct mm_CM mm_cl mm_WS mm_NW "SelfSorting$Scene" "" (.multianewarray 9 2, 4, 0, 0) := ⟨⟨rfl, kw_305, kw_1⟩, List.mem_of_getElem? (i := 2) rfl⟩
theorem sq_183 : mm_Pq mm_ct mm_CM mm_cl mm_WS mm_NW "SelfSorting$Scene" "" (.putfield 11, 3, 5, 0) := ⟨⟨(RX5, TX5, 8), rfl, by decide, by decide, kw_306⟩, fun r h g => by cases h; rfl⟩
theorem sq_184 : mm_Pq mm_ct mm_CM mm_cl mm_WS mm_NW "SelfSorting$Scene" "" (.newarray .int, 2, 0, 0) := kw_1
theorem sq_185 : mm_Pq mm_ct mm_CM mm_cl mm_WS mm_NW "SelfSorting$Scene" "" (.putfield 16, 3, 5, 1) := ⟨⟨(RX5, TX5, 8), rfl, by decide, by decide, kw_307⟩, fun r h g => by cases h; rfl⟩
theorem sq_186 : mm_Pq mm_ct mm_CM mm_cl mm_WS mm_NW "SelfSorting$Scene" "" (.putfield 20, 3, 5, 2) := ⟨⟨(RX5, TX5, 8), rfl, by decide, by decide, kw_308⟩, fun r h g => by cases h; rfl⟩
theorem sq_187 : mm_Pq mm_ct mm_CM mm_cl mm_WS mm_NW "SelfSorting$Scene" "" (.putfield 23, 3, 5, 3) := ⟨⟨(RX5, TX5, 8), rfl, by decide, by decide, kw_309⟩, fun r h g => by cases h; rfl⟩
theorem sq_188 : mm_Pq mm_ct mm_CM mm_cl mm_WS mm_NW "SelfSorting$Scene" "" (.putfield 26, 3, 5, 7) := ⟨⟨(RX5, TX5, 8), rfl, by decide, by decide, kw_310⟩, fun r h g => by cases h; cases g⟩
theorem sq_189 : mm_Pq mm_ct mm_CM mm_cl mm_WS mm_NW "SelfSorting$Scene" "" (.getfield 20, 3, 5, 2) := ⟨(RX5, TX5, 8), rfl, by decide, by decide, kw_308⟩
set_option maxRecDepth 100000 in
theorem ck_66 : mm_cks cX5_init 0 cd_66 = true := by decide +kernel
set_option maxRecDepth 100000 in
theorem sf_66 : mm_spf cd_66 = [(.invokespecial 3, 3, 0, 3), (.multianewarray 9 2, 4, 0, 0), (.putfield 11, 3, 5, 0), (.newarray .int, 2, 0, 0), (.putfield 16, 3, 5, 1), (.newarray .int, 2, 0, 0), (.putfield 20, 3, 5, 2), (.newarray .int, 2, 0, 0), (.putfield 23, 3, 5, 3), (.putfield 26, 3, 5, 7), (.getfield 20, 3, 5, 2)] := by decide +kernel
theorem mc_66 : mm_MC mm_ct mm_CM mm_cl mm_WS mm_NW me_66 := mm_MC_of rfl rfl ck_66 (by rw [sf_66]; exact List.forall_mem_cons.mpr ⟨sq_181, List.forall_mem_cons.mpr ⟨sq_182, List.forall_mem_cons.mpr ⟨sq_183, List.forall_mem_cons.mpr ⟨sq_184, List.forall_mem_cons.mpr ⟨sq_185, List.forall_mem_cons.mpr ⟨sq_184, List.forall_mem_cons.mpr ⟨sq_186, List.forall_mem_cons.mpr ⟨sq_184, List.forall_mem_cons.mpr ⟨sq_187, List.forall_mem_cons.mpr ⟨sq_188, List.forall_mem_cons.mpr ⟨sq_189, fun _ h => nomatch h⟩⟩⟩⟩⟩⟩⟩⟩⟩⟩⟩)
theorem mo_66 : mm_MO mm_ct mm_CM mm_cl mm_WS mm_NW me_66 := ⟨by decide, kw_311, kw_50, by decide, by decide +kernel, mc_66⟩
theorem sq_190 : mm_Pq mm_ct mm_CM mm_cl mm_WS mm_NW "SelfSorting$Scene" "" (.getfield 11, 3, 5, 0) := ⟨(RX5, TX5, 8), rfl, by decide, by decide, kw_306⟩
theorem sq_191 : mm_Pq mm_ct mm_CM mm_cl mm_WS mm_NW "SelfSorting$Scene" "" (.invokestatic 30, 3, 0, 4) := ⟨kw_312, kw_1353, kw_1354, kw_1355⟩
theorem sq_192 : mm_Pq mm_ct mm_CM mm_cl mm_WS mm_NW "SelfSorting$Scene" "" (.getfield 16, 3, 5, 1) := ⟨(RX5, TX5, 8), rfl, by decide, by decide, kw_307⟩
theorem sq_193 : mm_Pq mm_ct mm_CM mm_cl mm_WS mm_NW "SelfSorting$Scene" "" (.getfield 23, 3, 5, 3) := ⟨(RX5, TX5, 8), rfl, by decide, by decide, kw_309⟩
theorem sq_194 : mm_Pq mm_ct mm_CM mm_cl mm_WS mm_NW "SelfSorting$Scene" "" (.getfield 36, 3, 5, 4) := ⟨(RX5, TX5, 8), rfl, by decide, by decide, kw_313⟩
theorem sq_195 : mm_Pq mm_ct mm_CM mm_cl mm_WS mm_NW "SelfSorting$Scene" "" (.putfield 36, 3, 5, 4) := ⟨⟨(RX5, TX5, 8), rfl, by decide, by decide, kw_313⟩, fun r h g => by cases h; cases g⟩
theorem sq_196 : mm_Pq mm_ct mm_CM mm_cl mm_WS mm_NW "SelfSorting$Scene" "" (.getfield 39, 3, 5, 5) := ⟨(RX5, TX5, 8), rfl, by decide, by decide, kw_314⟩
theorem sq_197 : mm_Pq mm_ct mm_CM mm_cl mm_WS mm_NW "SelfSorting$Scene" "" (.putfield 39, 3, 5, 5) := ⟨⟨(RX5, TX5, 8), rfl, by decide, by decide, kw_314⟩, fun r h g => by cases h; cases g⟩
theorem sq_198 : mm_Pq mm_ct mm_CM mm_cl mm_WS mm_NW "SelfSorting$Scene" "" (.getfield 43, 3, 5, 6) := ⟨(RX5, TX5, 8), rfl, by decide, by decide, kw_315⟩
theorem sq_199 : mm_Pq mm_ct mm_CM mm_cl mm_WS mm_NW "SelfSorting$Scene" "" (.putfield 43, 3, 5, 6) := ⟨⟨(RX5, TX5, 8), rfl, by decide, by decide, kw_315⟩, fun r h g => by cases h; cases g⟩
theorem sq_200 : mm_Pq mm_ct mm_CM mm_cl mm_WS mm_NW "SelfSorting$Scene" "" (.getfield 26, 3, 5, 7) := ⟨(RX5, TX5, 8), rfl, by decide, by decide, kw_310⟩
set_option maxRecDepth 100000 in
theorem ck_67 : mm_cks cX5_copyScene 0 cd_67 = true := by decide +kernel
set_option maxRecDepth 100000 in
theorem sf_67 : mm_spf cd_67 = [(.getfield 11, 3, 5, 0), (.getfield 11, 3, 5, 0), (.invokestatic 30, 3, 0, 4), (.getfield 16, 3, 5, 1), (.getfield 16, 3, 5, 1), (.invokestatic 30, 3, 0, 4), (.getfield 20, 3, 5, 2), (.getfield 20, 3, 5, 2), (.invokestatic 30, 3, 0, 4), (.getfield 23, 3, 5, 3), (.getfield 23, 3, 5, 3), (.invokestatic 30, 3, 0, 4), (.getfield 36, 3, 5, 4), (.putfield 36, 3, 5, 4), (.getfield 39, 3, 5, 5), (.putfield 39, 3, 5, 5), (.getfield 43, 3, 5, 6), (.putfield 43, 3, 5, 6), (.getfield 26, 3, 5, 7), (.putfield 26, 3, 5, 7)] := by decide +kernel
theorem mc_67 : mm_MC mm_ct mm_CM mm_cl mm_WS mm_NW me_67 := mm_MC_of rfl rfl ck_67 (by rw [sf_67]; exact List.forall_mem_cons.mpr ⟨sq_190, List.forall_mem_cons.mpr ⟨sq_190, List.forall_mem_cons.mpr ⟨sq_191, List.forall_mem_cons.mpr ⟨sq_192, List.forall_mem_cons.mpr ⟨sq_192, List.forall_mem_cons.mpr ⟨sq_191, List.forall_mem_cons.mpr ⟨sq_189, List.forall_mem_cons.mpr ⟨sq_189, List.forall_mem_cons.mpr ⟨sq_191, List.forall_mem_cons.mpr ⟨sq_193, List.forall_mem_cons.mpr ⟨sq_193, List.forall_mem_cons.mpr ⟨sq_191, List.forall_mem_cons.mpr ⟨sq_194, List.forall_mem_cons.mpr ⟨sq_195, List.forall_mem_cons.mpr ⟨sq_196, List.forall_mem_cons.mpr ⟨sq_197, List.forall_mem_cons.mpr ⟨sq_198, List.forall_mem_cons.mpr ⟨sq_199, List.forall_mem_cons.mpr ⟨sq_200, List.forall_mem_cons.mpr ⟨sq_188, fun _ h => nomatch h⟩⟩⟩⟩⟩⟩⟩⟩⟩⟩⟩⟩⟩⟩⟩⟩⟩⟩⟩⟩)
theorem mo_67 : mm_MO mm_ct mm_CM mm_cl mm_WS mm_NW me_67 := ⟨by decide, kw_316, kw_50, by decide, by decide +kernel, mc_67⟩
set_option maxRecDepth 100000 in
theorem ck_68 : mm_cks cX5_bookAt 0 cd_68 = true := by decide +kernel
set_option maxRecDepth 100000 in
theorem sf_68 : mm_spf cd_68 = [(.getfield 16, 3, 5, 1), (.getfield 11, 3, 5, 0)] := by decide +kernel
theorem mc_68 : mm_MC mm_ct mm_CM mm_cl mm_WS mm_NW me_68 := mm_MC_of rfl rfl ck_68 (by rw [sf_68]; exact List.forall_mem_cons.mpr ⟨sq_192, List.forall_mem_cons.mpr ⟨sq_190, fun _ h => nomatch h⟩⟩)
theorem mo_68 : mm_MO mm_ct mm_CM mm_cl mm_WS mm_NW me_68 := ⟨by decide, kw_317, kw_50, by decide, by decide +kernel, mc_68⟩
set_option maxRecDepth 100000 in
theorem ck_69 : mm_cks cX5_hasTwo 0 cd_69 = true := by decide +kernel
set_option maxRecDepth 100000 in
theorem sf_69 : mm_spf cd_69 = [(.getfield 16, 3, 5, 1)] := by decide +kernel
theorem mc_69 : mm_MC mm_ct mm_CM mm_cl mm_WS mm_NW me_69 := mm_MC_of rfl rfl ck_69 (by rw [sf_69]; exact List.forall_mem_cons.mpr ⟨sq_192, fun _ h => nomatch h⟩)
theorem mo_69 : mm_MO mm_ct mm_CM mm_cl mm_WS mm_NW me_69 := ⟨by decide, kw_318, kw_50, by decide, by decide +kernel, mc_69⟩
set_option maxRecDepth 100000 in
theorem ck_70 : mm_cks cX5_placeOf 0 cd_70 = true := by decide +kernel
set_option maxRecDepth 100000 in
theorem sf_70 : mm_spf cd_70 = [(.getfield 20, 3, 5, 2), (.getfield 16, 3, 5, 1), (.getfield 11, 3, 5, 0)] := by decide +kernel
theorem mc_70 : mm_MC mm_ct mm_CM mm_cl mm_WS mm_NW me_70 := mm_MC_of rfl rfl ck_70 (by rw [sf_70]; exact List.forall_mem_cons.mpr ⟨sq_189, List.forall_mem_cons.mpr ⟨sq_192, List.forall_mem_cons.mpr ⟨sq_190, fun _ h => nomatch h⟩⟩⟩)
theorem mo_70 : mm_MO mm_ct mm_CM mm_cl mm_WS mm_NW me_70 := ⟨by decide, kw_319, kw_50, by decide, by decide +kernel, mc_70⟩
theorem sq_201 : mm_Pq mm_ct mm_CM mm_cl mm_WS mm_NW "SelfSorting$Scene" "" (.invokevirtual 46, 3, 69, 1) := ⟨kw_321, kw_322, kw_320, _, _, rfl⟩
set_option maxRecDepth 100000 in
theorem ck_71 : mm_cks cX5_swap 0 cd_71 = true := by decide +kernel
set_option maxRecDepth 100000 in
theorem sf_71 : mm_spf cd_71 = [(.invokevirtual 46, 3, 69, 1), (.getfield 11, 3, 5, 0), (.getfield 11, 3, 5, 0), (.getfield 11, 3, 5, 0), (.getfield 11, 3, 5, 0)] := by decide +kernel
theorem mc_71 : mm_MC mm_ct mm_CM mm_cl mm_WS mm_NW me_71 := mm_MC_of rfl rfl ck_71 (by rw [sf_71]; exact List.forall_mem_cons.mpr ⟨sq_201, List.forall_mem_cons.mpr ⟨sq_190, List.forall_mem_cons.mpr ⟨sq_190, List.forall_mem_cons.mpr ⟨sq_190, List.forall_mem_cons.mpr ⟨sq_190, fun _ h => nomatch h⟩⟩⟩⟩⟩)
theorem mo_71 : mm_MO mm_ct mm_CM mm_cl mm_WS mm_NW me_71 := ⟨by decide, kw_323, kw_50, by decide, by decide +kernel, mc_71⟩
theorem sq_202 : mm_Pq mm_ct mm_CM mm_cl mm_WS mm_NW "SelfSorting$Scene" "" (.invokevirtual 50, 3, 70, 1) := ⟨kw_325, kw_326, kw_324, _, _, rfl⟩
set_option maxRecDepth 100000 in
theorem ck_72 : mm_cks cX5_moveOff 0 cd_72 = true := by decide +kernel
set_option maxRecDepth 100000 in
theorem sf_72 : mm_spf cd_72 = [(.invokevirtual 50, 3, 70, 1), (.getfield 20, 3, 5, 2), (.getfield 16, 3, 5, 1), (.getfield 16, 3, 5, 1), (.getfield 11, 3, 5, 0), (.getfield 11, 3, 5, 0), (.getfield 20, 3, 5, 2)] := by decide +kernel
theorem mc_72 : mm_MC mm_ct mm_CM mm_cl mm_WS mm_NW me_72 := mm_MC_of rfl rfl ck_72 (by rw [sf_72]; exact List.forall_mem_cons.mpr ⟨sq_202, List.forall_mem_cons.mpr ⟨sq_189, List.forall_mem_cons.mpr ⟨sq_192, List.forall_mem_cons.mpr ⟨sq_192, List.forall_mem_cons.mpr ⟨sq_190, List.forall_mem_cons.mpr ⟨sq_190, List.forall_mem_cons.mpr ⟨sq_189, fun _ h => nomatch h⟩⟩⟩⟩⟩⟩⟩)
theorem mo_72 : mm_MO mm_ct mm_CM mm_cl mm_WS mm_NW me_72 := ⟨by decide, kw_327, kw_50, by decide, by decide +kernel, mc_72⟩
set_option maxRecDepth 100000 in
theorem ck_73 : mm_cks cX5_moveOnto 0 cd_73 = true := by decide +kernel
set_option maxRecDepth 100000 in
theorem sf_73 : mm_spf cd_73 = [(.getfield 16, 3, 5, 1), (.getfield 16, 3, 5, 1), (.getfield 11, 3, 5, 0), (.getfield 11, 3, 5, 0), (.getfield 11, 3, 5, 0), (.getfield 16, 3, 5, 1), (.getfield 20, 3, 5, 2)] := by decide +kernel
theorem mc_73 : mm_MC mm_ct mm_CM mm_cl mm_WS mm_NW me_73 := mm_MC_of rfl rfl ck_73 (by rw [sf_73]; exact List.forall_mem_cons.mpr ⟨sq_192, List.forall_mem_cons.mpr ⟨sq_192, List.forall_mem_cons.mpr ⟨sq_190, List.forall_mem_cons.mpr ⟨sq_190, List.forall_mem_cons.mpr ⟨sq_190, List.forall_mem_cons.mpr ⟨sq_192, List.forall_mem_cons.mpr ⟨sq_189, fun _ h => nomatch h⟩⟩⟩⟩⟩⟩⟩)
theorem mo_73 : mm_MO mm_ct mm_CM mm_cl mm_WS mm_NW me_73 := ⟨by decide, kw_328, kw_50, by decide, by decide +kernel, mc_73⟩
set_option maxRecDepth 100000 in
theorem ck_74 : mm_cks cX5_write 0 cd_74 = true := by decide +kernel
set_option maxRecDepth 100000 in
theorem sf_74 : mm_spf cd_74 = [(.getfield 36, 3, 5, 4), (.getfield 23, 3, 5, 3), (.getfield 23, 3, 5, 3), (.invokestatic 30, 3, 0, 4), (.putfield 36, 3, 5, 4), (.getfield 23, 3, 5, 3), (.getfield 36, 3, 5, 4), (.getfield 43, 3, 5, 6), (.getfield 36, 3, 5, 4), (.putfield 36, 3, 5, 4)] := by decide +kernel
theorem mc_74 : mm_MC mm_ct mm_CM mm_cl mm_WS mm_NW me_74 := mm_MC_of rfl rfl ck_74 (by rw [sf_74]; exact List.forall_mem_cons.mpr ⟨sq_194, List.forall_mem_cons.mpr ⟨sq_193, List.forall_mem_cons.mpr ⟨sq_193, List.forall_mem_cons.mpr ⟨sq_191, List.forall_mem_cons.mpr ⟨sq_195, List.forall_mem_cons.mpr ⟨sq_193, List.forall_mem_cons.mpr ⟨sq_194, List.forall_mem_cons.mpr ⟨sq_198, List.forall_mem_cons.mpr ⟨sq_194, List.forall_mem_cons.mpr ⟨sq_195, fun _ h => nomatch h⟩⟩⟩⟩⟩⟩⟩⟩⟩⟩)
theorem mo_74 : mm_MO mm_ct mm_CM mm_cl mm_WS mm_NW me_74 := ⟨by decide, kw_329, kw_50, by decide, by decide +kernel, mc_74⟩
set_option maxRecDepth 100000 in
theorem ck_75 : mm_cks cX5_draw 0 cd_75 = true := by decide +kernel
set_option maxRecDepth 100000 in
theorem sf_75 : mm_spf cd_75 = [(.getfield 26, 3, 5, 7), (.putfield 26, 3, 5, 7)] := by decide +kernel
theorem mc_75 : mm_MC mm_ct mm_CM mm_cl mm_WS mm_NW me_75 := mm_MC_of rfl rfl ck_75 (by rw [sf_75]; exact List.forall_mem_cons.mpr ⟨sq_200, List.forall_mem_cons.mpr ⟨sq_188, fun _ h => nomatch h⟩⟩)
theorem mo_75 : mm_MO mm_ct mm_CM mm_cl mm_WS mm_NW me_75 := ⟨by decide, kw_330, kw_50, by decide, by decide +kernel, mc_75⟩
set_option maxRecDepth 100000 in
theorem ck_76 : mm_cks cX5_row 0 cd_76 = true := by decide +kernel
set_option maxRecDepth 100000 in
theorem sf_76 : mm_spf cd_76 = [(.getfield 16, 3, 5, 1), (.getfield 11, 3, 5, 0)] := by decide +kernel
theorem mc_76 : mm_MC mm_ct mm_CM mm_cl mm_WS mm_NW me_76 := mm_MC_of rfl rfl ck_76 (by rw [sf_76]; exact List.forall_mem_cons.mpr ⟨sq_192, List.forall_mem_cons.mpr ⟨sq_190, fun _ h => nomatch h⟩⟩)
theorem mo_76 : mm_MO mm_ct mm_CM mm_cl mm_WS mm_NW me_76 := ⟨by decide, kw_331, kw_50, by decide, by decide +kernel, mc_76⟩
theorem sq_203 : mm_Pq mm_ct mm_CM mm_cl mm_WS mm_NW "SelfSorting$Text" "" (.invokespecial 3, 3, 0, 3) := ⟨kw_332, kw_1356, kw_1357⟩
theorem sq_204 : mm_Pq mm_ct mm_CM mm_cl mm_WS mm_NW "SelfSorting$Text" "" (.newarray .int, 2, 0, 0) := kw_1
theorem sq_205 : mm_Pq mm_ct mm_CM mm_cl mm_WS mm_NW "SelfSorting$Text" "" (.putfield 9, 3, 6, 0) := ⟨⟨(RX6, TX6, 8), rfl, by decide, by decide, kw_333⟩, fun r h g => by cases h; rfl⟩
theorem sq_206 : mm_Pq mm_ct mm_CM mm_cl mm_WS mm_NW "SelfSorting$Text" "" (.putfield 15, 3, 6, 1) := ⟨⟨(RX6, TX6, 8), rfl, by decide, by decide, kw_334⟩, fun r h g => by cases h; rfl⟩
theorem sq_207 : mm_Pq mm_ct mm_CM mm_cl mm_WS mm_NW "SelfSorting$Text" "" (.putfield 18, 3, 6, 2) := ⟨⟨(RX6, TX6, 8), rfl, by decide, by decide, kw_335⟩, fun r h g => by cases h; rfl⟩
theorem sq_208 : mm_Pq mm_ct mm_CM mm_cl mm_WS mm_NW "SelfSorting$Text" "" (.putfield 21, 3, 6, 3) := ⟨⟨(RX6, TX6, 8), rfl, by decide, by decide, kw_336⟩, fun r h g => by cases h; rfl⟩
theorem sq_209 : mm_Pq mm_ct mm_CM mm_cl mm_WS mm_NW "SelfSorting$Text" "" (.putfield 24, 3, 6, 4) := ⟨⟨(RX6, TX6, 8), rfl, by decide, by decide, kw_337⟩, fun r h g => by cases h; rfl⟩
set_option maxRecDepth 100000 in
theorem ck_77 : mm_cks cX6_init 0 cd_77 = true := by decide +kernel
set_option maxRecDepth 100000 in
theorem sf_77 : mm_spf cd_77 = [(.invokespecial 3, 3, 0, 3), (.newarray .int, 2, 0, 0), (.putfield 9, 3, 6, 0), (.newarray .int, 2, 0, 0), (.putfield 15, 3, 6, 1), (.newarray .int, 2, 0, 0), (.putfield 18, 3, 6, 2), (.newarray .int, 2, 0, 0), (.putfield 21, 3, 6, 3), (.newarray .int, 2, 0, 0), (.putfield 24, 3, 6, 4)] := by decide +kernel
theorem mc_77 : mm_MC mm_ct mm_CM mm_cl mm_WS mm_NW me_77 := mm_MC_of rfl rfl ck_77 (by rw [sf_77]; exact List.forall_mem_cons.mpr ⟨sq_203, List.forall_mem_cons.mpr ⟨sq_204, List.forall_mem_cons.mpr ⟨sq_205, List.forall_mem_cons.mpr ⟨sq_204, List.forall_mem_cons.mpr ⟨sq_206, List.forall_mem_cons.mpr ⟨sq_204, List.forall_mem_cons.mpr ⟨sq_207, List.forall_mem_cons.mpr ⟨sq_204, List.forall_mem_cons.mpr ⟨sq_208, List.forall_mem_cons.mpr ⟨sq_204, List.forall_mem_cons.mpr ⟨sq_209, fun _ h => nomatch h⟩⟩⟩⟩⟩⟩⟩⟩⟩⟩⟩)
theorem mo_77 : mm_MO mm_ct mm_CM mm_cl mm_WS mm_NW me_77 := ⟨by decide, kw_338, kw_64, by decide, by decide +kernel, mc_77⟩
theorem sq_210 : mm_Pq mm_ct mm_CM mm_cl mm_WS mm_NW "SelfSorting$Text" "" (.putfield 27, 3, 6, 5) := ⟨⟨(RX6, TX6, 8), rfl, by decide, by decide, kw_339⟩, fun r h g => by cases h; cases g⟩
theorem sq_211 : mm_Pq mm_ct mm_CM mm_cl mm_WS mm_NW "SelfSorting$Text" "" (.putfield 31, 3, 6, 6) := ⟨⟨(RX6, TX6, 8), rfl, by decide, by decide, kw_340⟩, fun r h g => by cases h; cases g⟩
theorem sq_212 : mm_Pq mm_ct mm_CM mm_cl mm_WS mm_NW "SelfSorting$Text" "" (.putfield 34, 3, 6, 7) := ⟨⟨(RX6, TX6, 8), rfl, by decide, by decide, kw_341⟩, fun r h g => by cases h; cases g⟩
theorem sq_213 : mm_Pq mm_ct mm_CM mm_cl mm_WS mm_NW "SelfSorting$Text" "" (.getfield 21, 3, 6, 3) := ⟨(RX6, TX6, 8), rfl, by decide, by decide, kw_336⟩
theorem sq_214 : mm_Pq mm_ct mm_CM mm_cl mm_WS mm_NW "SelfSorting$Text" "" (.getfield 24, 3, 6, 4) := ⟨(RX6, TX6, 8), rfl, by decide, by decide, kw_337⟩
set_option maxRecDepth 100000 in
theorem ck_78 : mm_cks cX6_clearText 0 cd_78 = true := by decide +kernel
set_option maxRecDepth 100000 in
theorem sf_78 : mm_spf cd_78 = [(.putfield 27, 3, 6, 5), (.putfield 31, 3, 6, 6), (.putfield 34, 3, 6, 7), (.getfield 21, 3, 6, 3), (.getfield 24, 3, 6, 4)] := by decide +kernel
theorem mc_78 : mm_MC mm_ct mm_CM mm_cl mm_WS mm_NW me_78 := mm_MC_of rfl rfl ck_78 (by rw [sf_78]; exact List.forall_mem_cons.mpr ⟨sq_210, List.forall_mem_cons.mpr ⟨sq_211, List.forall_mem_cons.mpr ⟨sq_212, List.forall_mem_cons.mpr ⟨sq_213, List.forall_mem_cons.mpr ⟨sq_214, fun _ h => nomatch h⟩⟩⟩⟩⟩)
theorem mo_78 : mm_MO mm_ct mm_CM mm_cl mm_WS mm_NW me_78 := ⟨by decide, kw_342, kw_64, by decide, by decide +kernel, mc_78⟩
theorem sq_215 : mm_Pq mm_ct mm_CM mm_cl mm_WS mm_NW "SelfSorting$Text" "" (.getfield 9, 3, 6, 0) := ⟨(RX6, TX6, 8), rfl, by decide, by decide, kw_333⟩
theorem sq_216 : mm_Pq mm_ct mm_CM mm_cl mm_WS mm_NW "SelfSorting$Text" "" (.invokestatic 37, 3, 0, 4) := ⟨kw_343, kw_1353, kw_1354, kw_1355⟩
theorem sq_217 : mm_Pq mm_ct mm_CM mm_cl mm_WS mm_NW "SelfSorting$Text" "" (.getfield 15, 3, 6, 1) := ⟨(RX6, TX6, 8), rfl, by decide, by decide, kw_334⟩
theorem sq_218 : mm_Pq mm_ct mm_CM mm_cl mm_WS mm_NW "SelfSorting$Text" "" (.getfield 18, 3, 6, 2) := ⟨(RX6, TX6, 8), rfl, by decide, by decide, kw_335⟩
theorem sq_219 : mm_Pq mm_ct mm_CM mm_cl mm_WS mm_NW "SelfSorting$Text" "" (.getfield 27, 3, 6, 5) := ⟨(RX6, TX6, 8), rfl, by decide, by decide, kw_339⟩
theorem sq_220 : mm_Pq mm_ct mm_CM mm_cl mm_WS mm_NW "SelfSorting$Text" "" (.getfield 31, 3, 6, 6) := ⟨(RX6, TX6, 8), rfl, by decide, by decide, kw_340⟩
theorem sq_221 : mm_Pq mm_ct mm_CM mm_cl mm_WS mm_NW "SelfSorting$Text" "" (.getfield 34, 3, 6, 7) := ⟨(RX6, TX6, 8), rfl, by decide, by decide, kw_341⟩
set_option maxRecDepth 100000 in
theorem ck_79 : mm_cks cX6_copyText 0 cd_79 = true := by decide +kernel
set_option maxRecDepth 100000 in
theorem sf_79 : mm_spf cd_79 = [(.getfield 9, 3, 6, 0), (.getfield 9, 3, 6, 0), (.invokestatic 37, 3, 0, 4), (.getfield 15, 3, 6, 1), (.getfield 15, 3, 6, 1), (.invokestatic 37, 3, 0, 4), (.getfield 18, 3, 6, 2), (.getfield 18, 3, 6, 2), (.invokestatic 37, 3, 0, 4), (.getfield 21, 3, 6, 3), (.getfield 21, 3, 6, 3), (.invokestatic 37, 3, 0, 4), (.getfield 24, 3, 6, 4), (.getfield 24, 3, 6, 4), (.invokestatic 37, 3, 0, 4), (.getfield 27, 3, 6, 5), (.putfield 27, 3, 6, 5), (.getfield 31, 3, 6, 6), (.putfield 31, 3, 6, 6), (.getfield 34, 3, 6, 7), (.putfield 34, 3, 6, 7)] := by decide +kernel
theorem mc_79 : mm_MC mm_ct mm_CM mm_cl mm_WS mm_NW me_79 := mm_MC_of rfl rfl ck_79 (by rw [sf_79]; exact List.forall_mem_cons.mpr ⟨sq_215, List.forall_mem_cons.mpr ⟨sq_215, List.forall_mem_cons.mpr ⟨sq_216, List.forall_mem_cons.mpr ⟨sq_217, List.forall_mem_cons.mpr ⟨sq_217, List.forall_mem_cons.mpr ⟨sq_216, List.forall_mem_cons.mpr ⟨sq_218, List.forall_mem_cons.mpr ⟨sq_218, List.forall_mem_cons.mpr ⟨sq_216, List.forall_mem_cons.mpr ⟨sq_213, List.forall_mem_cons.mpr ⟨sq_213, List.forall_mem_cons.mpr ⟨sq_216, List.forall_mem_cons.mpr ⟨sq_214, List.forall_mem_cons.mpr ⟨sq_214, List.forall_mem_cons.mpr ⟨sq_216, List.forall_mem_cons.mpr ⟨sq_219, List.forall_mem_cons.mpr ⟨sq_210, List.forall_mem_cons.mpr ⟨sq_220, List.forall_mem_cons.mpr ⟨sq_211, List.forall_mem_cons.mpr ⟨sq_221, List.forall_mem_cons.mpr ⟨sq_212, fun _ h => nomatch h⟩⟩⟩⟩⟩⟩⟩⟩⟩⟩⟩⟩⟩⟩⟩⟩⟩⟩⟩⟩⟩)
theorem mo_79 : mm_MO mm_ct mm_CM mm_cl mm_WS mm_NW me_79 := ⟨by decide, kw_344, kw_64, by decide, by decide +kernel, mc_79⟩
set_option maxRecDepth 100000 in
theorem ck_80 : mm_cks cX6_tellsSlot 0 cd_80 = true := by decide +kernel
set_option maxRecDepth 100000 in
theorem sf_80 : mm_spf cd_80 = [(.getfield 21, 3, 6, 3), (.getfield 24, 3, 6, 4)] := by decide +kernel
theorem mc_80 : mm_MC mm_ct mm_CM mm_cl mm_WS mm_NW me_80 := mm_MC_of rfl rfl ck_80 (by rw [sf_80]; exact List.forall_mem_cons.mpr ⟨sq_213, List.forall_mem_cons.mpr ⟨sq_214, fun _ h => nomatch h⟩⟩)
theorem mo_80 : mm_MO mm_ct mm_CM mm_cl mm_WS mm_NW me_80 := ⟨by decide, kw_345, kw_64, by decide, by decide +kernel, mc_80⟩
set_option maxRecDepth 100000 in
theorem ck_81 : mm_cks cX6_clauseWord 0 cd_81 = true := by decide +kernel
set_option maxRecDepth 100000 in
theorem sf_81 : mm_spf cd_81 = [(.getfield 27, 3, 6, 5), (.getfield 9, 3, 6, 0)] := by decide +kernel
theorem mc_81 : mm_MC mm_ct mm_CM mm_cl mm_WS mm_NW me_81 := mm_MC_of rfl rfl ck_81 (by rw [sf_81]; exact List.forall_mem_cons.mpr ⟨sq_219, List.forall_mem_cons.mpr ⟨sq_215, fun _ h => nomatch h⟩⟩)
theorem mo_81 : mm_MO mm_ct mm_CM mm_cl mm_WS mm_NW me_81 := ⟨by decide, kw_346, kw_64, by decide, by decide +kernel, mc_81⟩
set_option maxRecDepth 100000 in
theorem ck_82 : mm_cks cX6_told 0 cd_82 = true := by decide +kernel
set_option maxRecDepth 100000 in
theorem sf_82 : mm_spf cd_82 = [(.getfield 27, 3, 6, 5), (.getfield 15, 3, 6, 1)] := by decide +kernel
theorem mc_82 : mm_MC mm_ct mm_CM mm_cl mm_WS mm_NW me_82 := mm_MC_of rfl rfl ck_82 (by rw [sf_82]; exact List.forall_mem_cons.mpr ⟨sq_219, List.forall_mem_cons.mpr ⟨sq_217, fun _ h => nomatch h⟩⟩)
theorem mo_82 : mm_MO mm_ct mm_CM mm_cl mm_WS mm_NW me_82 := ⟨by decide, kw_347, kw_64, by decide, by decide +kernel, mc_82⟩
set_option maxRecDepth 100000 in
theorem ck_83 : mm_cks cX6_add 0 cd_83 = true := by decide +kernel
set_option maxRecDepth 100000 in
theorem sf_83 : mm_spf cd_83 = [(.getfield 31, 3, 6, 6), (.getfield 18, 3, 6, 2), (.getfield 31, 3, 6, 6), (.getfield 31, 3, 6, 6), (.putfield 31, 3, 6, 6)] := by decide +kernel
theorem mc_83 : mm_MC mm_ct mm_CM mm_cl mm_WS mm_NW me_83 := mm_MC_of rfl rfl ck_83 (by rw [sf_83]; exact List.forall_mem_cons.mpr ⟨sq_220, List.forall_mem_cons.mpr ⟨sq_218, List.forall_mem_cons.mpr ⟨sq_220, List.forall_mem_cons.mpr ⟨sq_220, List.forall_mem_cons.mpr ⟨sq_211, fun _ h => nomatch h⟩⟩⟩⟩⟩)
theorem mo_83 : mm_MO mm_ct mm_CM mm_cl mm_WS mm_NW me_83 := ⟨by decide, kw_348, kw_64, by decide, by decide +kernel, mc_83⟩
theorem sq_222 : mm_Pq mm_ct mm_CM mm_cl mm_WS mm_NW "SelfSorting" "" (.invokespecial 1, 3, 0, 3) := ⟨kw_349, kw_1356, kw_1357⟩
theorem sq_223 : mm_Pq mm_ct mm_CM mm_cl mm_WS mm_NW "SelfSorting" "" (.new 7, 3, 1, 13) := ⟨(RX1, TX1, 13), rfl, by decide, rfl, kw_350, kw_351, kw_67⟩
theorem sq_224 : mm_Pq mm_ct mm_CM mm_cl mm_WS mm_NW "SelfSorting" "" (.invokespecial 9, 3, 9, 2) := ⟨rfl, rfl, kw_353, Or.inl kw_352⟩
theorem sq_225 : mm_Pq mm_ct mm_CM mm_cl mm_WS mm_NW "SelfSorting" "" (.putfield 10, 3, 7, 0) := ⟨⟨(RX7, TX7, 8), rfl, by decide, by decide, kw_354⟩, fun r h g => by cases h; rfl⟩
theorem sq_226 : mm_Pq mm_ct mm_CM mm_cl mm_WS mm_NW "SelfSorting" "" (.putfield 16, 3, 7, 1) := ⟨⟨(RX7, TX7, 8), rfl, by decide, by decide, kw_355⟩, fun r h g => by cases h; rfl⟩
theorem sq_227 : mm_Pq mm_ct mm_CM mm_cl mm_WS mm_NW "SelfSorting" "" (.new 19, 3, 0, 2) := ⟨(RX0, TX0, 2), rfl, by decide, rfl, kw_356, kw_357, kw_5⟩
theorem sq_228 : mm_Pq mm_ct mm_CM mm_cl mm_WS mm_NW "SelfSorting" "" (.invokespecial 21, 3, 0, 2) := ⟨rfl, rfl, kw_358, Or.inr ⟨_, nw_4⟩⟩
theorem sq_229 : mm_Pq mm_ct mm_CM mm_cl mm_WS mm_NW "SelfSorting" "" (.putfield 22, 3, 7, 2) := ⟨⟨(RX7, TX7, 8), rfl, by decide, by decide, kw_359⟩, fun r h g => by cases h; rfl⟩
theorem sq_230 : mm_Pq mm_ct mm_CM mm_cl mm_WS mm_NW "SelfSorting" "" (.new 26, 3, 4, 10) := ⟨(RX4, TX4, 10), rfl, by decide, rfl, kw_360, kw_361, kw_201⟩
theorem sq_231 : mm_Pq mm_ct mm_CM mm_cl mm_WS mm_NW "SelfSorting" "" (.invokespecial 28, 3, 43, 2) := ⟨rfl, rfl, kw_362, Or.inr ⟨_, nw_5⟩⟩
theorem sq_232 : mm_Pq mm_ct mm_CM mm_cl mm_WS mm_NW "SelfSorting" "" (.putfield 29, 3, 7, 3) := ⟨⟨(RX7, TX7, 8), rfl, by decide, by decide, kw_363⟩, fun r h g => by cases h; rfl⟩
theorem sq_233 : mm_Pq mm_ct mm_CM mm_cl mm_WS mm_NW "SelfSorting" "" (.new 33, 3, 2, 4) := ⟨(RX2, TX2, 4), rfl, by decide, rfl, kw_364, kw_365, kw_93⟩
theorem sq_234 : mm_Pq mm_ct mm_CM mm_cl mm_WS mm_NW "SelfSorting" "" (.invokespecial 35, 3, 15, 2) := ⟨rfl, rfl, kw_366, Or.inr ⟨_, nw_7⟩⟩
theorem sq_235 : mm_Pq mm_ct mm_CM mm_cl mm_WS mm_NW "SelfSorting" "" (.putfield 36, 3, 7, 4) := ⟨⟨(RX7, TX7, 8), rfl, by decide, by decide, kw_367⟩, fun r h g => by cases h; rfl⟩
theorem sq_236 : mm_Pq mm_ct mm_CM mm_cl mm_WS mm_NW "SelfSorting" "" (.new 40, 3, 3, 5) := ⟨(RX3, TX3, 5), rfl, by decide, rfl, kw_368, kw_369, kw_159⟩
theorem sq_237 : mm_Pq mm_ct mm_CM mm_cl mm_WS mm_NW "SelfSorting" "" (.invokespecial 42, 3, 32, 2) := ⟨rfl, rfl, kw_370, Or.inr ⟨_, nw_8⟩⟩
theorem sq_238 : mm_Pq mm_ct mm_CM mm_cl mm_WS mm_NW "SelfSorting" "" (.putfield 43, 3, 7, 5) := ⟨⟨(RX7, TX7, 8), rfl, by decide, by decide, kw_371⟩, fun r h g => by cases h; rfl⟩
theorem sq_239 : mm_Pq mm_ct mm_CM mm_cl mm_WS mm_NW "SelfSorting" "" (.newarray .int, 2, 0, 0) := kw_1
theorem sq_240 : mm_Pq mm_ct mm_CM mm_cl mm_WS mm_NW "SelfSorting" "" (.putfield 47, 3, 7, 6) := ⟨⟨(RX7, TX7, 8), rfl, by decide, by decide, kw_372⟩, fun r h g => by cases h; rfl⟩
set_option maxRecDepth 100000 in
theorem ck_84 : mm_cks cX7_init 0 cd_84 = true := by decide +kernel
set_option maxRecDepth 100000 in
theorem sf_84 : mm_spf cd_84 = [(.invokespecial 1, 3, 0, 3), (.new 7, 3, 1, 13), (.invokespecial 9, 3, 9, 2), (.putfield 10, 3, 7, 0), (.new 7, 3, 1, 13), (.invokespecial 9, 3, 9, 2), (.putfield 16, 3, 7, 1), (.new 19, 3, 0, 2), (.invokespecial 21, 3, 0, 2), (.putfield 22, 3, 7, 2), (.new 26, 3, 4, 10), (.invokespecial 28, 3, 43, 2), (.putfield 29, 3, 7, 3), (.new 33, 3, 2, 4), (.invokespecial 35, 3, 15, 2), (.putfield 36, 3, 7, 4), (.new 40, 3, 3, 5), (.invokespecial 42, 3, 32, 2), (.putfield 43, 3, 7, 5), (.newarray .int, 2, 0, 0), (.putfield 47, 3, 7, 6)] := by decide +kernel
theorem mc_84 : mm_MC mm_ct mm_CM mm_cl mm_WS mm_NW me_84 := mm_MC_of rfl rfl ck_84 (by rw [sf_84]; exact List.forall_mem_cons.mpr ⟨sq_222, List.forall_mem_cons.mpr ⟨sq_223, List.forall_mem_cons.mpr ⟨sq_224, List.forall_mem_cons.mpr ⟨sq_225, List.forall_mem_cons.mpr ⟨sq_223, List.forall_mem_cons.mpr ⟨sq_224, List.forall_mem_cons.mpr ⟨sq_226, List.forall_mem_cons.mpr ⟨sq_227, List.forall_mem_cons.mpr ⟨sq_228, List.forall_mem_cons.mpr ⟨sq_229, List.forall_mem_cons.mpr ⟨sq_230, List.forall_mem_cons.mpr ⟨sq_231, List.forall_mem_cons.mpr ⟨sq_232, List.forall_mem_cons.mpr ⟨sq_233, List.forall_mem_cons.mpr ⟨sq_234, List.forall_mem_cons.mpr ⟨sq_235, List.forall_mem_cons.mpr ⟨sq_236, List.forall_mem_cons.mpr ⟨sq_237, List.forall_mem_cons.mpr ⟨sq_238, List.forall_mem_cons.mpr ⟨sq_239, List.forall_mem_cons.mpr ⟨sq_240, fun _ h => nomatch h⟩⟩⟩⟩⟩⟩⟩⟩⟩⟩⟩⟩⟩⟩⟩⟩⟩⟩⟩⟩⟩)
theorem mo_84 : mm_MO mm_ct mm_CM mm_cl mm_WS mm_NW me_84 := ⟨by decide, kw_373, kw_374, by decide, by decide +kernel, mc_84⟩
theorem sq_241 : mm_Pq mm_ct mm_CM mm_cl mm_WS mm_NW "SelfSorting" "" (.invokestatic 51, 3, 125, 0) := ⟨kw_376, Or.inl kw_375⟩
theorem sq_242 : mm_Pq mm_ct mm_CM mm_cl mm_WS mm_NW "SelfSorting" "" (.getfield 22, 3, 7, 2) := ⟨(RX7, TX7, 8), rfl, by decide, by decide, kw_359⟩
theorem sq_243 : mm_Pq mm_ct mm_CM mm_cl mm_WS mm_NW "SelfSorting" "" (.getfield 10, 3, 7, 0) := ⟨(RX7, TX7, 8), rfl, by decide, by decide, kw_354⟩
theorem sq_244 : mm_Pq mm_ct mm_CM mm_cl mm_WS mm_NW "SelfSorting" "" (.invokevirtual 55, 3, 4, 1) := ⟨kw_378, kw_379, kw_377, _, _, rfl⟩
theorem sq_245 : mm_Pq mm_ct mm_CM mm_cl mm_WS mm_NW "SelfSorting" "" (.getfield 59, 3, 1, 2) := ⟨(RX1, TX1, 13), rfl, by decide, by decide, kw_380⟩
set_option maxRecDepth 100000 in
theorem ck_85 : mm_cks cX7_wide 0 cd_85 = true := by decide +kernel
set_option maxRecDepth 100000 in
theorem sf_85 : mm_spf cd_85 = [(.invokestatic 51, 3, 125, 0), (.getfield 22, 3, 7, 2), (.getfield 10, 3, 7, 0), (.invokevirtual 55, 3, 4, 1), (.getfield 10, 3, 7, 0), (.getfield 59, 3, 1, 2)] := by decide +kernel
theorem mc_85 : mm_MC mm_ct mm_CM mm_cl mm_WS mm_NW me_85 := mm_MC_of rfl rfl ck_85 (by rw [sf_85]; exact List.forall_mem_cons.mpr ⟨sq_241, List.forall_mem_cons.mpr ⟨sq_242, List.forall_mem_cons.mpr ⟨sq_243, List.forall_mem_cons.mpr ⟨sq_244, List.forall_mem_cons.mpr ⟨sq_243, List.forall_mem_cons.mpr ⟨sq_245, fun _ h => nomatch h⟩⟩⟩⟩⟩⟩)
theorem mo_85 : mm_MO mm_ct mm_CM mm_cl mm_WS mm_NW me_85 := ⟨by decide, kw_381, kw_374, by decide, by decide +kernel, mc_85⟩
theorem sq_246 : mm_Pq mm_ct mm_CM mm_cl mm_WS mm_NW "SelfSorting" "" (.getfield 62, 3, 1, 8) := ⟨(RX1, TX1, 13), rfl, by decide, by decide, kw_382⟩
theorem sq_247 : mm_Pq mm_ct mm_CM mm_cl mm_WS mm_NW "SelfSorting" "" (.invokestatic 66, 3, 126, 0) := ⟨kw_384, Or.inl kw_383⟩
theorem sq_248 : mm_Pq mm_ct mm_CM mm_cl mm_WS mm_NW "SelfSorting" "" (.getfield 69, 3, 1, 3) := ⟨(RX1, TX1, 13), rfl, by decide, by decide, kw_385⟩
theorem sq_249 : mm_Pq mm_ct mm_CM mm_cl mm_WS mm_NW "SelfSorting" "" (.putfield 62, 3, 1, 8) := ⟨⟨(RX1, TX1, 13), rfl, by decide, by decide, kw_382⟩, fun r h g => by cases h; cases g⟩
set_option maxRecDepth 100000 in
theorem ck_86 : mm_cks cX7_book 0 cd_86 = true := by decide +kernel
set_option maxRecDepth 100000 in
theorem sf_86 : mm_spf cd_86 = [(.getfield 10, 3, 7, 0), (.getfield 62, 3, 1, 8), (.invokestatic 66, 3, 126, 0), (.invokestatic 66, 3, 126, 0), (.invokestatic 66, 3, 126, 0), (.invokestatic 66, 3, 126, 0), (.getfield 10, 3, 7, 0), (.getfield 69, 3, 1, 3), (.getfield 10, 3, 7, 0), (.getfield 62, 3, 1, 8), (.getfield 10, 3, 7, 0), (.getfield 62, 3, 1, 8), (.putfield 62, 3, 1, 8), (.getfield 10, 3, 7, 0), (.getfield 62, 3, 1, 8)] := by decide +kernel
theorem mc_86 : mm_MC mm_ct mm_CM mm_cl mm_WS mm_NW me_86 := mm_MC_of rfl rfl ck_86 (by rw [sf_86]; exact List.forall_mem_cons.mpr ⟨sq_243, List.forall_mem_cons.mpr ⟨sq_246, List.forall_mem_cons.mpr ⟨sq_247, List.forall_mem_cons.mpr ⟨sq_247, List.forall_mem_cons.mpr ⟨sq_247, List.forall_mem_cons.mpr ⟨sq_247, List.forall_mem_cons.mpr ⟨sq_243, List.forall_mem_cons.mpr ⟨sq_248, List.forall_mem_cons.mpr ⟨sq_243, List.forall_mem_cons.mpr ⟨sq_246, List.forall_mem_cons.mpr ⟨sq_243, List.forall_mem_cons.mpr ⟨sq_246, List.forall_mem_cons.mpr ⟨sq_249, List.forall_mem_cons.mpr ⟨sq_243, List.forall_mem_cons.mpr ⟨sq_246, fun _ h => nomatch h⟩⟩⟩⟩⟩⟩⟩⟩⟩⟩⟩⟩⟩⟩⟩)
theorem mo_86 : mm_MO mm_ct mm_CM mm_cl mm_WS mm_NW me_86 := ⟨by decide, kw_386, kw_374, by decide, by decide +kernel, mc_86⟩
theorem sq_250 : mm_Pq mm_ct mm_CM mm_cl mm_WS mm_NW "SelfSorting" "" (.putfield 73, 3, 1, 9) := ⟨⟨(RX1, TX1, 13), rfl, by decide, by decide, kw_387⟩, fun r h g => by cases h; cases g⟩
set_option maxRecDepth 100000 in
theorem ck_87 : mm_cks cX7_need 0 cd_87 = true := by decide +kernel
set_option maxRecDepth 100000 in
theorem sf_87 : mm_spf cd_87 = [(.getfield 10, 3, 7, 0), (.putfield 73, 3, 1, 9)] := by decide +kernel
theorem mc_87 : mm_MC mm_ct mm_CM mm_cl mm_WS mm_NW me_87 := mm_MC_of rfl rfl ck_87 (by rw [sf_87]; exact List.forall_mem_cons.mpr ⟨sq_243, List.forall_mem_cons.mpr ⟨sq_250, fun _ h => nomatch h⟩⟩)
theorem mo_87 : mm_MO mm_ct mm_CM mm_cl mm_WS mm_NW me_87 := ⟨by decide, kw_388, kw_374, by decide, by decide +kernel, mc_87⟩
theorem sq_251 : mm_Pq mm_ct mm_CM mm_cl mm_WS mm_NW "SelfSorting" "" (.getfield 76, 3, 7, 7) := ⟨(RX7, TX7, 8), rfl, by decide, by decide, kw_389⟩
theorem sq_252 : mm_Pq mm_ct mm_CM mm_cl mm_WS mm_NW "SelfSorting" "" (.invokevirtual 79, 3, 134, 1) := ⟨kw_391, kw_392, kw_390, _, _, rfl⟩
set_option maxRecDepth 100000 in
theorem ck_88 : mm_cks cX7_feed 0 cd_88 = true := by decide +kernel
set_option maxRecDepth 100000 in
theorem sf_88 : mm_spf cd_88 = [(.getfield 76, 3, 7, 7), (.invokevirtual 79, 3, 134, 1), (.invokevirtual 79, 3, 134, 1), (.invokevirtual 79, 3, 134, 1), (.invokevirtual 79, 3, 134, 1), (.invokevirtual 79, 3, 134, 1), (.getfield 76, 3, 7, 7)] := by decide +kernel
theorem mc_88 : mm_MC mm_ct mm_CM mm_cl mm_WS mm_NW me_88 := mm_MC_of rfl rfl ck_88 (by rw [sf_88]; exact List.forall_mem_cons.mpr ⟨sq_251, List.forall_mem_cons.mpr ⟨sq_252, List.forall_mem_cons.mpr ⟨sq_252, List.forall_mem_cons.mpr ⟨sq_252, List.forall_mem_cons.mpr ⟨sq_252, List.forall_mem_cons.mpr ⟨sq_252, List.forall_mem_cons.mpr ⟨sq_251, fun _ h => nomatch h⟩⟩⟩⟩⟩⟩⟩)
theorem mo_88 : mm_MO mm_ct mm_CM mm_cl mm_WS mm_NW me_88 := ⟨by decide, kw_393, kw_374, by decide, by decide +kernel, mc_88⟩
theorem sq_253 : mm_Pq mm_ct mm_CM mm_cl mm_WS mm_NW "SelfSorting" "" (.putfield 76, 3, 7, 7) := ⟨⟨(RX7, TX7, 8), rfl, by decide, by decide, kw_389⟩, fun r h g => by cases h; cases g⟩
set_option maxRecDepth 100000 in
theorem ck_89 : mm_cks cX7_end 0 cd_89 = true := by decide +kernel
set_option maxRecDepth 100000 in
theorem sf_89 : mm_spf cd_89 = [(.getfield 76, 3, 7, 7), (.putfield 76, 3, 7, 7)] := by decide +kernel
theorem mc_89 : mm_MC mm_ct mm_CM mm_cl mm_WS mm_NW me_89 := mm_MC_of rfl rfl ck_89 (by rw [sf_89]; exact List.forall_mem_cons.mpr ⟨sq_251, List.forall_mem_cons.mpr ⟨sq_253, fun _ h => nomatch h⟩⟩)
theorem mo_89 : mm_MO mm_ct mm_CM mm_cl mm_WS mm_NW me_89 := ⟨by decide, kw_394, kw_374, by decide, by decide +kernel, mc_89⟩
theorem sq_254 : mm_Pq mm_ct mm_CM mm_cl mm_WS mm_NW "SelfSorting" "" (.getfield 83, 3, 1, 10) := ⟨(RX1, TX1, 13), rfl, by decide, by decide, kw_395⟩
theorem sq_255 : mm_Pq mm_ct mm_CM mm_cl mm_WS mm_NW "SelfSorting" "" (.invokevirtual 86, 3, 13, 1) := ⟨kw_8, kw_9, kw_396, _, _, rfl⟩
theorem sq_256 : mm_Pq mm_ct mm_CM mm_cl mm_WS mm_NW "SelfSorting" "" (.getfield 29, 3, 7, 3) := ⟨(RX7, TX7, 8), rfl, by decide, by decide, kw_363⟩
theorem sq_257 : mm_Pq mm_ct mm_CM mm_cl mm_WS mm_NW "SelfSorting" "" (.getfield 47, 3, 7, 6) := ⟨(RX7, TX7, 8), rfl, by decide, by decide, kw_372⟩
theorem sq_258 : mm_Pq mm_ct mm_CM mm_cl mm_WS mm_NW "SelfSorting" "" (.invokevirtual 90, 3, 44, 1) := ⟨kw_398, kw_399, kw_397, _, _, rfl⟩
theorem sq_259 : mm_Pq mm_ct mm_CM mm_cl mm_WS mm_NW "SelfSorting" "" (.putfield 83, 3, 1, 10) := ⟨⟨(RX1, TX1, 13), rfl, by decide, by decide, kw_395⟩, fun r h g => by cases h; cases g⟩
set_option maxRecDepth 100000 in
theorem ck_90 : mm_cks cX7_text 0 cd_90 = true := by decide +kernel
set_option maxRecDepth 100000 in
theorem sf_90 : mm_spf cd_90 = [(.getfield 10, 3, 7, 0), (.getfield 10, 3, 7, 0), (.getfield 83, 3, 1, 10), (.invokevirtual 86, 3, 13, 1), (.getfield 29, 3, 7, 3), (.getfield 47, 3, 7, 6), (.getfield 76, 3, 7, 7), (.invokevirtual 90, 3, 44, 1), (.putfield 76, 3, 7, 7), (.getfield 10, 3, 7, 0), (.getfield 83, 3, 1, 10), (.putfield 83, 3, 1, 10), (.getfield 10, 3, 7, 0), (.getfield 83, 3, 1, 10)] := by decide +kernel
theorem mc_90 : mm_MC mm_ct mm_CM mm_cl mm_WS mm_NW me_90 := mm_MC_of rfl rfl ck_90 (by rw [sf_90]; exact List.forall_mem_cons.mpr ⟨sq_243, List.forall_mem_cons.mpr ⟨sq_243, List.forall_mem_cons.mpr ⟨sq_254, List.forall_mem_cons.mpr ⟨sq_255, List.forall_mem_cons.mpr ⟨sq_256, List.forall_mem_cons.mpr ⟨sq_257, List.forall_mem_cons.mpr ⟨sq_251, List.forall_mem_cons.mpr ⟨sq_258, List.forall_mem_cons.mpr ⟨sq_253, List.forall_mem_cons.mpr ⟨sq_243, List.forall_mem_cons.mpr ⟨sq_254, List.forall_mem_cons.mpr ⟨sq_259, List.forall_mem_cons.mpr ⟨sq_243, List.forall_mem_cons.mpr ⟨sq_254, fun _ h => nomatch h⟩⟩⟩⟩⟩⟩⟩⟩⟩⟩⟩⟩⟩⟩)
theorem mo_90 : mm_MO mm_ct mm_CM mm_cl mm_WS mm_NW me_90 := ⟨by decide, kw_400, kw_374, by decide, by decide +kernel, mc_90⟩
theorem sq_260 : mm_Pq mm_ct mm_CM mm_cl mm_WS mm_NW "SelfSorting" "" (.getfield 94, 3, 4, 8) := ⟨(RX4, TX4, 10), rfl, by decide, by decide, kw_401⟩
theorem sq_261 : mm_Pq mm_ct mm_CM mm_cl mm_WS mm_NW "SelfSorting" "" (.getfield 97, 3, 4, 9) := ⟨(RX4, TX4, 10), rfl, by decide, by decide, kw_402⟩
set_option maxRecDepth 100000 in
theorem ck_91 : mm_cks cX7_fault 0 cd_91 = true := by decide +kernel
set_option maxRecDepth 100000 in
theorem sf_91 : mm_spf cd_91 = [(.getfield 29, 3, 7, 3), (.getfield 94, 3, 4, 8), (.getfield 29, 3, 7, 3), (.getfield 97, 3, 4, 9)] := by decide +kernel
theorem mc_91 : mm_MC mm_ct mm_CM mm_cl mm_WS mm_NW me_91 := mm_MC_of rfl rfl ck_91 (by rw [sf_91]; exact List.forall_mem_cons.mpr ⟨sq_256, List.forall_mem_cons.mpr ⟨sq_260, List.forall_mem_cons.mpr ⟨sq_256, List.forall_mem_cons.mpr ⟨sq_261, fun _ h => nomatch h⟩⟩⟩⟩)
theorem mo_91 : mm_MO mm_ct mm_CM mm_cl mm_WS mm_NW me_91 := ⟨by decide, kw_403, kw_374, by decide, by decide +kernel, mc_91⟩
theorem sq_262 : mm_Pq mm_ct mm_CM mm_cl mm_WS mm_NW "SelfSorting" "" (.invokevirtual 100, 3, 130, 1) := ⟨kw_405, kw_406, kw_404, _, _, rfl⟩
theorem sq_263 : mm_Pq mm_ct mm_CM mm_cl mm_WS mm_NW "SelfSorting" "" (.putfield 103, 3, 1, 11) := ⟨⟨(RX1, TX1, 13), rfl, by decide, by decide, kw_407⟩, fun r h g => by cases h; cases g⟩
set_option maxRecDepth 100000 in
theorem ck_92 : mm_cks cX7_by 0 cd_92 = true := by decide +kernel
set_option maxRecDepth 100000 in
theorem sf_92 : mm_spf cd_92 = [(.invokevirtual 100, 3, 130, 1), (.getfield 10, 3, 7, 0), (.putfield 103, 3, 1, 11)] := by decide +kernel
theorem mc_92 : mm_MC mm_ct mm_CM mm_cl mm_WS mm_NW me_92 := mm_MC_of rfl rfl ck_92 (by rw [sf_92]; exact List.forall_mem_cons.mpr ⟨sq_262, List.forall_mem_cons.mpr ⟨sq_243, List.forall_mem_cons.mpr ⟨sq_263, fun _ h => nomatch h⟩⟩⟩)
theorem mo_92 : mm_MO mm_ct mm_CM mm_cl mm_WS mm_NW me_92 := ⟨by decide, kw_408, kw_374, by decide, by decide +kernel, mc_92⟩
theorem sq_264 : mm_Pq mm_ct mm_CM mm_cl mm_WS mm_NW "SelfSorting" "" (.getfield 106, 3, 1, 0) := ⟨(RX1, TX1, 13), rfl, by decide, by decide, kw_409⟩
theorem sq_265 : mm_Pq mm_ct mm_CM mm_cl mm_WS mm_NW "SelfSorting" "" (.getfield 110, 3, 5, 6) := ⟨(RX5, TX5, 8), rfl, by decide, by decide, kw_410⟩
theorem sq_266 : mm_Pq mm_ct mm_CM mm_cl mm_WS mm_NW "SelfSorting" "" (.invokevirtual 115, 3, 136, 1) := ⟨kw_412, kw_413, kw_411, _, _, rfl⟩
set_option maxRecDepth 100000 in
theorem ck_93 : mm_cks cX7_night 0 cd_93 = true := by decide +kernel
set_option maxRecDepth 100000 in
theorem sf_93 : mm_spf cd_93 = [(.getfield 10, 3, 7, 0), (.getfield 106, 3, 1, 0), (.getfield 110, 3, 5, 6), (.invokevirtual 115, 3, 136, 1)] := by decide +kernel
theorem mc_93 : mm_MC mm_ct mm_CM mm_cl mm_WS mm_NW me_93 := mm_MC_of rfl rfl ck_93 (by rw [sf_93]; exact List.forall_mem_cons.mpr ⟨sq_243, List.forall_mem_cons.mpr ⟨sq_264, List.forall_mem_cons.mpr ⟨sq_265, List.forall_mem_cons.mpr ⟨sq_266, fun _ h => nomatch h⟩⟩⟩⟩)
theorem mo_93 : mm_MO mm_ct mm_CM mm_cl mm_WS mm_NW me_93 := ⟨by decide, kw_414, kw_374, by decide, by decide +kernel, mc_93⟩
theorem sq_267 : mm_Pq mm_ct mm_CM mm_cl mm_WS mm_NW "SelfSorting" "" (.invokevirtual 119, 3, 69, 1) := ⟨kw_321, kw_322, kw_415, _, _, rfl⟩
theorem sq_268 : mm_Pq mm_ct mm_CM mm_cl mm_WS mm_NW "SelfSorting" "" (.invokevirtual 123, 3, 11, 1) := ⟨kw_417, kw_418, kw_416, _, _, rfl⟩
theorem sq_269 : mm_Pq mm_ct mm_CM mm_cl mm_WS mm_NW "SelfSorting" "" (.invokevirtual 126, 3, 71, 1) := ⟨kw_420, kw_421, kw_419, _, _, rfl⟩
theorem sq_270 : mm_Pq mm_ct mm_CM mm_cl mm_WS mm_NW "SelfSorting" "" (.invokevirtual 130, 3, 68, 1) := ⟨kw_423, kw_424, kw_422, _, _, rfl⟩
set_option maxRecDepth 100000 in
theorem ck_94 : mm_cks cX7_nudge 0 cd_94 = true := by decide +kernel
set_option maxRecDepth 100000 in
theorem sf_94 : mm_spf cd_94 = [(.getfield 10, 3, 7, 0), (.getfield 106, 3, 1, 0), (.invokestatic 51, 3, 125, 0), (.invokevirtual 119, 3, 69, 1), (.getfield 10, 3, 7, 0), (.invokevirtual 123, 3, 11, 1), (.invokevirtual 126, 3, 71, 1), (.invokevirtual 130, 3, 68, 1)] := by decide +kernel
theorem mc_94 : mm_MC mm_ct mm_CM mm_cl mm_WS mm_NW me_94 := mm_MC_of rfl rfl ck_94 (by rw [sf_94]; exact List.forall_mem_cons.mpr ⟨sq_243, List.forall_mem_cons.mpr ⟨sq_264, List.forall_mem_cons.mpr ⟨sq_241, List.forall_mem_cons.mpr ⟨sq_267, List.forall_mem_cons.mpr ⟨sq_243, List.forall_mem_cons.mpr ⟨sq_268, List.forall_mem_cons.mpr ⟨sq_269, List.forall_mem_cons.mpr ⟨sq_270, fun _ h => nomatch h⟩⟩⟩⟩⟩⟩⟩⟩)
theorem mo_94 : mm_MO mm_ct mm_CM mm_cl mm_WS mm_NW me_94 := ⟨by decide, kw_425, kw_374, by decide, by decide +kernel, mc_94⟩
theorem sq_271 : mm_Pq mm_ct mm_CM mm_cl mm_WS mm_NW "SelfSorting" "" (.invokevirtual 134, 3, 129, 1) := ⟨kw_427, kw_428, kw_426, _, _, rfl⟩
theorem sq_272 : mm_Pq mm_ct mm_CM mm_cl mm_WS mm_NW "SelfSorting" "" (.getfield 137, 3, 5, 2) := ⟨(RX5, TX5, 8), rfl, by decide, by decide, kw_429⟩
theorem sq_273 : mm_Pq mm_ct mm_CM mm_cl mm_WS mm_NW "SelfSorting" "" (.invokevirtual 140, 3, 72, 1) := ⟨kw_431, kw_432, kw_430, _, _, rfl⟩
set_option maxRecDepth 100000 in
theorem ck_95 : mm_cks cX7_take 0 cd_95 = true := by decide +kernel
set_option maxRecDepth 100000 in
theorem sf_95 : mm_spf cd_95 = [(.invokevirtual 134, 3, 129, 1), (.getfield 10, 3, 7, 0), (.getfield 106, 3, 1, 0), (.getfield 137, 3, 5, 2), (.getfield 10, 3, 7, 0), (.getfield 106, 3, 1, 0), (.getfield 137, 3, 5, 2), (.getfield 10, 3, 7, 0), (.invokevirtual 123, 3, 11, 1), (.getfield 10, 3, 7, 0), (.getfield 106, 3, 1, 0), (.invokevirtual 140, 3, 72, 1)] := by decide +kernel
theorem mc_95 : mm_MC mm_ct mm_CM mm_cl mm_WS mm_NW me_95 := mm_MC_of rfl rfl ck_95 (by rw [sf_95]; exact List.forall_mem_cons.mpr ⟨sq_271, List.forall_mem_cons.mpr ⟨sq_243, List.forall_mem_cons.mpr ⟨sq_264, List.forall_mem_cons.mpr ⟨sq_272, List.forall_mem_cons.mpr ⟨sq_243, List.forall_mem_cons.mpr ⟨sq_264, List.forall_mem_cons.mpr ⟨sq_272, List.forall_mem_cons.mpr ⟨sq_243, List.forall_mem_cons.mpr ⟨sq_268, List.forall_mem_cons.mpr ⟨sq_243, List.forall_mem_cons.mpr ⟨sq_264, List.forall_mem_cons.mpr ⟨sq_273, fun _ h => nomatch h⟩⟩⟩⟩⟩⟩⟩⟩⟩⟩⟩⟩)
theorem mo_95 : mm_MO mm_ct mm_CM mm_cl mm_WS mm_NW me_95 := ⟨by decide, kw_433, kw_374, by decide, by decide +kernel, mc_95⟩
theorem sq_274 : mm_Pq mm_ct mm_CM mm_cl mm_WS mm_NW "SelfSorting" "" (.getfield 143, 3, 5, 1) := ⟨(RX5, TX5, 8), rfl, by decide, by decide, kw_434⟩
theorem sq_275 : mm_Pq mm_ct mm_CM mm_cl mm_WS mm_NW "SelfSorting" "" (.invokevirtual 146, 3, 3, 1) := ⟨kw_31, kw_32, kw_435, _, _, rfl⟩
theorem sq_276 : mm_Pq mm_ct mm_CM mm_cl mm_WS mm_NW "SelfSorting" "" (.invokevirtual 149, 3, 73, 1) := ⟨kw_437, kw_438, kw_436, _, _, rfl⟩
set_option maxRecDepth 100000 in
theorem ck_96 : mm_cks cX7_put 0 cd_96 = true := by decide +kernel
set_option maxRecDepth 100000 in
theorem sf_96 : mm_spf cd_96 = [(.getfield 10, 3, 7, 0), (.getfield 106, 3, 1, 0), (.invokevirtual 134, 3, 129, 1), (.invokestatic 51, 3, 125, 0), (.getfield 137, 3, 5, 2), (.getfield 143, 3, 5, 1), (.getfield 22, 3, 7, 2), (.getfield 10, 3, 7, 0), (.invokevirtual 55, 3, 4, 1), (.getfield 22, 3, 7, 2), (.getfield 10, 3, 7, 0), (.invokevirtual 146, 3, 3, 1), (.getfield 10, 3, 7, 0), (.getfield 59, 3, 1, 2), (.getfield 10, 3, 7, 0), (.invokevirtual 123, 3, 11, 1), (.invokevirtual 149, 3, 73, 1), (.getfield 143, 3, 5, 1)] := by decide +kernel
theorem mc_96 : mm_MC mm_ct mm_CM mm_cl mm_WS mm_NW me_96 := mm_MC_of rfl rfl ck_96 (by rw [sf_96]; exact List.forall_mem_cons.mpr ⟨sq_243, List.forall_mem_cons.mpr ⟨sq_264, List.forall_mem_cons.mpr ⟨sq_271, List.forall_mem_cons.mpr ⟨sq_241, List.forall_mem_cons.mpr ⟨sq_272, List.forall_mem_cons.mpr ⟨sq_274, List.forall_mem_cons.mpr ⟨sq_242, List.forall_mem_cons.mpr ⟨sq_243, List.forall_mem_cons.mpr ⟨sq_244, List.forall_mem_cons.mpr ⟨sq_242, List.forall_mem_cons.mpr ⟨sq_243, List.forall_mem_cons.mpr ⟨sq_275, List.forall_mem_cons.mpr ⟨sq_243, List.forall_mem_cons.mpr ⟨sq_245, List.forall_mem_cons.mpr ⟨sq_243, List.forall_mem_cons.mpr ⟨sq_268, List.forall_mem_cons.mpr ⟨sq_276, List.forall_mem_cons.mpr ⟨sq_274, fun _ h => nomatch h⟩⟩⟩⟩⟩⟩⟩⟩⟩⟩⟩⟩⟩⟩⟩⟩⟩⟩)
theorem mo_96 : mm_MO mm_ct mm_CM mm_cl mm_WS mm_NW me_96 := ⟨by decide, kw_439, kw_374, by decide, by decide +kernel, mc_96⟩
theorem sq_277 : mm_Pq mm_ct mm_CM mm_cl mm_WS mm_NW "SelfSorting" "" (.getfield 153, 3, 5, 5) := ⟨(RX5, TX5, 8), rfl, by decide, by decide, kw_440⟩
theorem sq_278 : mm_Pq mm_ct mm_CM mm_cl mm_WS mm_NW "SelfSorting" "" (.invokevirtual 157, 3, 138, 1) := ⟨kw_442, kw_443, kw_441, _, _, rfl⟩
set_option maxRecDepth 100000 in
theorem ck_97 : mm_cks cX7_wet 0 cd_97 = true := by decide +kernel
set_option maxRecDepth 100000 in
theorem sf_97 : mm_spf cd_97 = [(.getfield 10, 3, 7, 0), (.getfield 106, 3, 1, 0), (.getfield 153, 3, 5, 5), (.getfield 10, 3, 7, 0), (.invokevirtual 123, 3, 11, 1), (.invokevirtual 157, 3, 138, 1)] := by decide +kernel
theorem mc_97 : mm_MC mm_ct mm_CM mm_cl mm_WS mm_NW me_97 := mm_MC_of rfl rfl ck_97 (by rw [sf_97]; exact List.forall_mem_cons.mpr ⟨sq_243, List.forall_mem_cons.mpr ⟨sq_264, List.forall_mem_cons.mpr ⟨sq_277, List.forall_mem_cons.mpr ⟨sq_243, List.forall_mem_cons.mpr ⟨sq_268, List.forall_mem_cons.mpr ⟨sq_278, fun _ h => nomatch h⟩⟩⟩⟩⟩⟩)
theorem mo_97 : mm_MO mm_ct mm_CM mm_cl mm_WS mm_NW me_97 := ⟨by decide, kw_444, kw_374, by decide, by decide +kernel, mc_97⟩
theorem sq_279 : mm_Pq mm_ct mm_CM mm_cl mm_WS mm_NW "SelfSorting" "" (.getfield 161, 3, 6, 5) := ⟨(RX6, TX6, 8), rfl, by decide, by decide, kw_445⟩
theorem sq_280 : mm_Pq mm_ct mm_CM mm_cl mm_WS mm_NW "SelfSorting" "" (.invokevirtual 166, 3, 81, 1) := ⟨kw_447, kw_448, kw_446, _, _, rfl⟩
theorem sq_281 : mm_Pq mm_ct mm_CM mm_cl mm_WS mm_NW "SelfSorting" "" (.invokevirtual 170, 3, 82, 1) := ⟨kw_278, kw_279, kw_449, _, _, rfl⟩
theorem sq_282 : mm_Pq mm_ct mm_CM mm_cl mm_WS mm_NW "SelfSorting" "" (.invokevirtual 173, 3, 93, 1) := ⟨kw_451, kw_452, kw_450, _, _, rfl⟩
theorem sq_283 : mm_Pq mm_ct mm_CM mm_cl mm_WS mm_NW "SelfSorting" "" (.invokevirtual 175, 3, 94, 1) := ⟨kw_454, kw_455, kw_453, _, _, rfl⟩
theorem sq_284 : mm_Pq mm_ct mm_CM mm_cl mm_WS mm_NW "SelfSorting" "" (.invokevirtual 178, 3, 95, 1) := ⟨kw_457, kw_458, kw_456, _, _, rfl⟩
theorem sq_285 : mm_Pq mm_ct mm_CM mm_cl mm_WS mm_NW "SelfSorting" "" (.invokevirtual 181, 3, 96, 1) := ⟨kw_460, kw_461, kw_459, _, _, rfl⟩
theorem sq_286 : mm_Pq mm_ct mm_CM mm_cl mm_WS mm_NW "SelfSorting" "" (.invokevirtual 185, 3, 97, 1) := ⟨kw_463, kw_464, kw_462, _, _, rfl⟩
set_option maxRecDepth 100000 in
theorem ck_98 : mm_cks cX7_played 0 cd_98 = true := by decide +kernel
set_option maxRecDepth 100000 in
theorem sf_98 : mm_spf cd_98 = [(.invokevirtual 100, 3, 130, 1), (.getfield 10, 3, 7, 0), (.invokevirtual 86, 3, 13, 1), (.getfield 161, 3, 6, 5), (.invokevirtual 166, 3, 81, 1), (.invokevirtual 170, 3, 82, 1), (.invokevirtual 173, 3, 93, 1), (.invokevirtual 170, 3, 82, 1), (.invokevirtual 170, 3, 82, 1), (.invokevirtual 175, 3, 94, 1), (.invokevirtual 170, 3, 82, 1), (.invokevirtual 178, 3, 95, 1), (.invokevirtual 170, 3, 82, 1), (.invokevirtual 170, 3, 82, 1), (.invokevirtual 170, 3, 82, 1), (.invokevirtual 181, 3, 96, 1), (.invokevirtual 185, 3, 97, 1), (.invokevirtual 185, 3, 97, 1)] := by decide +kernel
theorem mc_98 : mm_MC mm_ct mm_CM mm_cl mm_WS mm_NW me_98 := mm_MC_of rfl rfl ck_98 (by rw [sf_98]; exact List.forall_mem_cons.mpr ⟨sq_262, List.forall_mem_cons.mpr ⟨sq_243, List.forall_mem_cons.mpr ⟨sq_255, List.forall_mem_cons.mpr ⟨sq_279, List.forall_mem_cons.mpr ⟨sq_280, List.forall_mem_cons.mpr ⟨sq_281, List.forall_mem_cons.mpr ⟨sq_282, List.forall_mem_cons.mpr ⟨sq_281, List.forall_mem_cons.mpr ⟨sq_281, List.forall_mem_cons.mpr ⟨sq_283, List.forall_mem_cons.mpr ⟨sq_281, List.forall_mem_cons.mpr ⟨sq_284, List.forall_mem_cons.mpr ⟨sq_281, List.forall_mem_cons.mpr ⟨sq_281, List.forall_mem_cons.mpr ⟨sq_281, List.forall_mem_cons.mpr ⟨sq_285, List.forall_mem_cons.mpr ⟨sq_286, List.forall_mem_cons.mpr ⟨sq_286, fun _ h => nomatch h⟩⟩⟩⟩⟩⟩⟩⟩⟩⟩⟩⟩⟩⟩⟩⟩⟩⟩)
theorem mo_98 : mm_MO mm_ct mm_CM mm_cl mm_WS mm_NW me_98 := ⟨by decide, kw_465, kw_374, by decide, by decide +kernel, mc_98⟩
theorem sq_287 : mm_Pq mm_ct mm_CM mm_cl mm_WS mm_NW "SelfSorting" "" (.putfield 187, 3, 5, 7) := ⟨⟨(RX5, TX5, 8), rfl, by decide, by decide, kw_466⟩, fun r h g => by cases h; cases g⟩
theorem sq_288 : mm_Pq mm_ct mm_CM mm_cl mm_WS mm_NW "SelfSorting" "" (.invokevirtual 190, 3, 140, 1) := ⟨kw_468, kw_469, kw_467, _, _, rfl⟩
set_option maxRecDepth 100000 in
theorem ck_99 : mm_cks cX7_year 0 cd_99 = true := by decide +kernel
set_option maxRecDepth 100000 in
theorem sf_99 : mm_spf cd_99 = [(.getfield 10, 3, 7, 0), (.getfield 62, 3, 1, 8), (.getfield 10, 3, 7, 0), (.invokevirtual 123, 3, 11, 1), (.getfield 10, 3, 7, 0), (.getfield 106, 3, 1, 0), (.putfield 187, 3, 5, 7), (.invokevirtual 190, 3, 140, 1)] := by decide +kernel
theorem mc_99 : mm_MC mm_ct mm_CM mm_cl mm_WS mm_NW me_99 := mm_MC_of rfl rfl ck_99 (by rw [sf_99]; exact List.forall_mem_cons.mpr ⟨sq_243, List.forall_mem_cons.mpr ⟨sq_246, List.forall_mem_cons.mpr ⟨sq_243, List.forall_mem_cons.mpr ⟨sq_268, List.forall_mem_cons.mpr ⟨sq_243, List.forall_mem_cons.mpr ⟨sq_264, List.forall_mem_cons.mpr ⟨sq_287, List.forall_mem_cons.mpr ⟨sq_288, fun _ h => nomatch h⟩⟩⟩⟩⟩⟩⟩⟩)
theorem mo_99 : mm_MO mm_ct mm_CM mm_cl mm_WS mm_NW me_99 := ⟨by decide, kw_470, kw_374, by decide, by decide +kernel, mc_99⟩
theorem sq_289 : mm_Pq mm_ct mm_CM mm_cl mm_WS mm_NW "SelfSorting" "" (.invokevirtual 194, 3, 12, 1) := ⟨kw_472, kw_473, kw_471, _, _, rfl⟩
set_option maxRecDepth 100000 in
theorem ck_100 : mm_cks cX7_undo 0 cd_100 = true := by decide +kernel
set_option maxRecDepth 100000 in
theorem sf_100 : mm_spf cd_100 = [(.getfield 10, 3, 7, 0), (.invokevirtual 194, 3, 12, 1)] := by decide +kernel
theorem mc_100 : mm_MC mm_ct mm_CM mm_cl mm_WS mm_NW me_100 := mm_MC_of rfl rfl ck_100 (by rw [sf_100]; exact List.forall_mem_cons.mpr ⟨sq_243, List.forall_mem_cons.mpr ⟨sq_289, fun _ h => nomatch h⟩⟩)
theorem mo_100 : mm_MO mm_ct mm_CM mm_cl mm_WS mm_NW me_100 := ⟨by decide, kw_474, kw_374, by decide, by decide +kernel, mc_100⟩
set_option maxRecDepth 100000 in
theorem ck_101 : mm_cks cX7_at 0 cd_101 = true := by decide +kernel
set_option maxRecDepth 100000 in
theorem sf_101 : mm_spf cd_101 = [(.invokestatic 51, 3, 125, 0), (.getfield 10, 3, 7, 0), (.getfield 106, 3, 1, 0), (.getfield 143, 3, 5, 1), (.getfield 10, 3, 7, 0), (.getfield 106, 3, 1, 0), (.invokevirtual 130, 3, 68, 1)] := by decide +kernel
theorem mc_101 : mm_MC mm_ct mm_CM mm_cl mm_WS mm_NW me_101 := mm_MC_of rfl rfl ck_101 (by rw [sf_101]; exact List.forall_mem_cons.mpr ⟨sq_241, List.forall_mem_cons.mpr ⟨sq_243, List.forall_mem_cons.mpr ⟨sq_264, List.forall_mem_cons.mpr ⟨sq_274, List.forall_mem_cons.mpr ⟨sq_243, List.forall_mem_cons.mpr ⟨sq_264, List.forall_mem_cons.mpr ⟨sq_270, fun _ h => nomatch h⟩⟩⟩⟩⟩⟩⟩)
theorem mo_101 : mm_MO mm_ct mm_CM mm_cl mm_WS mm_NW me_101 := ⟨by decide, kw_475, kw_374, by decide, by decide +kernel, mc_101⟩
theorem sq_290 : mm_Pq mm_ct mm_CM mm_cl mm_WS mm_NW "SelfSorting" "" (.invokevirtual 197, 3, 70, 1) := ⟨kw_325, kw_326, kw_476, _, _, rfl⟩
set_option maxRecDepth 100000 in
theorem ck_102 : mm_cks cX7_of 0 cd_102 = true := by decide +kernel
set_option maxRecDepth 100000 in
theorem sf_102 : mm_spf cd_102 = [(.invokevirtual 134, 3, 129, 1), (.getfield 10, 3, 7, 0), (.getfield 106, 3, 1, 0), (.getfield 137, 3, 5, 2), (.getfield 10, 3, 7, 0), (.getfield 106, 3, 1, 0), (.invokevirtual 197, 3, 70, 1), (.getfield 10, 3, 7, 0), (.getfield 69, 3, 1, 3), (.getfield 10, 3, 7, 0), (.getfield 69, 3, 1, 3), (.getfield 10, 3, 7, 0), (.getfield 69, 3, 1, 3), (.getfield 10, 3, 7, 0), (.getfield 69, 3, 1, 3), (.getfield 10, 3, 7, 0), (.getfield 69, 3, 1, 3), (.getfield 22, 3, 7, 2), (.getfield 10, 3, 7, 0), (.invokevirtual 146, 3, 3, 1)] := by decide +kernel
theorem mc_102 : mm_MC mm_ct mm_CM mm_cl mm_WS mm_NW me_102 := mm_MC_of rfl rfl ck_102 (by rw [sf_102]; exact List.forall_mem_cons.mpr ⟨sq_271, List.forall_mem_cons.mpr ⟨sq_243, List.forall_mem_cons.mpr ⟨sq_264, List.forall_mem_cons.mpr ⟨sq_272, List.forall_mem_cons.mpr ⟨sq_243, List.forall_mem_cons.mpr ⟨sq_264, List.forall_mem_cons.mpr ⟨sq_290, List.forall_mem_cons.mpr ⟨sq_243, List.forall_mem_cons.mpr ⟨sq_248, List.forall_mem_cons.mpr ⟨sq_243, List.forall_mem_cons.mpr ⟨sq_248, List.forall_mem_cons.mpr ⟨sq_243, List.forall_mem_cons.mpr ⟨sq_248, List.forall_mem_cons.mpr ⟨sq_243, List.forall_mem_cons.mpr ⟨sq_248, List.forall_mem_cons.mpr ⟨sq_243, List.forall_mem_cons.mpr ⟨sq_248, List.forall_mem_cons.mpr ⟨sq_242, List.forall_mem_cons.mpr ⟨sq_243, List.forall_mem_cons.mpr ⟨sq_275, fun _ h => nomatch h⟩⟩⟩⟩⟩⟩⟩⟩⟩⟩⟩⟩⟩⟩⟩⟩⟩⟩⟩⟩)
theorem mo_102 : mm_MO mm_ct mm_CM mm_cl mm_WS mm_NW me_102 := ⟨by decide, kw_477, kw_374, by decide, by decide +kernel, mc_102⟩
