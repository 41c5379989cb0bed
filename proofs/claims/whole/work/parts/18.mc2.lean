/-! Every method is known (2). -/
set_option maxRecDepth 100000 in
theorem ck_230 : mm_cks cX8_wet 0 cd_230 = true := by decide +kernel
set_option maxRecDepth 100000 in
theorem sf_230 : mm_spf cd_230 = [(.getfield 7, 3, 8, 0), (.invokevirtual 339, 3, 214, 1), (.getfield 7, 3, 8, 0), (.invokevirtual 348, 3, 224, 1)] := by decide +kernel
theorem mc_230 : mm_MC mm_ct mm_CM mm_cl mm_WS mm_NW me_230 := mm_MC_of rfl rfl ck_230 (by rw [sf_230]; exact List.forall_mem_cons.mpr ⟨sq_375, List.forall_mem_cons.mpr ⟨sq_476, List.forall_mem_cons.mpr ⟨sq_375, List.forall_mem_cons.mpr ⟨sq_479, fun _ h => nomatch h⟩⟩⟩⟩)
theorem mo_230 : mm_MO mm_ct mm_CM mm_cl mm_WS mm_NW me_230 := ⟨by decide, kw_940, kw_653, by decide, by decide +kernel, mc_230⟩
theorem sq_484 : mm_Pq mm_ct mm_CM mm_cl mm_WS mm_NW "SelfSortingModel" "" (.invokevirtual 360, 3, 226, 1) := ⟨kw_942, kw_943, kw_941, _, _, rfl⟩
theorem sq_485 : mm_Pq mm_ct mm_CM mm_cl mm_WS mm_NW "SelfSortingModel" "" (.invokevirtual 363, 3, 227, 1) := ⟨kw_945, kw_946, kw_944, _, _, rfl⟩
theorem sq_486 : mm_Pq mm_ct mm_CM mm_cl mm_WS mm_NW "SelfSortingModel" "" (.invokevirtual 366, 3, 228, 1) := ⟨kw_948, kw_949, kw_947, _, _, rfl⟩
theorem sq_487 : mm_Pq mm_ct mm_CM mm_cl mm_WS mm_NW "SelfSortingModel" "" (.invokevirtual 369, 3, 229, 1) := ⟨kw_951, kw_952, kw_950, _, _, rfl⟩
theorem sq_488 : mm_Pq mm_ct mm_CM mm_cl mm_WS mm_NW "SelfSortingModel" "" (.invokevirtual 372, 3, 230, 1) := ⟨kw_954, kw_955, kw_953, _, _, rfl⟩
set_option maxRecDepth 100000 in
theorem ck_231 : mm_cks cX8_isPlayed 0 cd_231 = true := by decide +kernel
set_option maxRecDepth 100000 in
theorem sf_231 : mm_spf cd_231 = [(.getfield 16, 3, 8, 2), (.getfield 16, 3, 8, 2), (.invokevirtual 360, 3, 226, 1), (.getfield 16, 3, 8, 2), (.getfield 16, 3, 8, 2), (.invokevirtual 363, 3, 227, 1), (.getfield 16, 3, 8, 2), (.invokevirtual 366, 3, 228, 1), (.getfield 16, 3, 8, 2), (.getfield 16, 3, 8, 2), (.getfield 16, 3, 8, 2), (.invokevirtual 369, 3, 229, 1), (.invokevirtual 372, 3, 230, 1), (.invokevirtual 372, 3, 230, 1)] := by decide +kernel
theorem mc_231 : mm_MC mm_ct mm_CM mm_cl mm_WS mm_NW me_231 := mm_MC_of rfl rfl ck_231 (by rw [sf_231]; exact List.forall_mem_cons.mpr ⟨sq_403, List.forall_mem_cons.mpr ⟨sq_403, List.forall_mem_cons.mpr ⟨sq_484, List.forall_mem_cons.mpr ⟨sq_403, List.forall_mem_cons.mpr ⟨sq_403, List.forall_mem_cons.mpr ⟨sq_485, List.forall_mem_cons.mpr ⟨sq_403, List.forall_mem_cons.mpr ⟨sq_486, List.forall_mem_cons.mpr ⟨sq_403, List.forall_mem_cons.mpr ⟨sq_403, List.forall_mem_cons.mpr ⟨sq_403, List.forall_mem_cons.mpr ⟨sq_487, List.forall_mem_cons.mpr ⟨sq_488, List.forall_mem_cons.mpr ⟨sq_488, fun _ h => nomatch h⟩⟩⟩⟩⟩⟩⟩⟩⟩⟩⟩⟩⟩⟩)
theorem mo_231 : mm_MO mm_ct mm_CM mm_cl mm_WS mm_NW me_231 := ⟨by decide, kw_956, kw_653, by decide, by decide +kernel, mc_231⟩
theorem sq_489 : mm_Pq mm_ct mm_CM mm_cl mm_WS mm_NW "SelfSortingModel" "" (.invokevirtual 376, 3, 231, 1) := ⟨kw_958, kw_959, kw_957, _, _, rfl⟩
set_option maxRecDepth 100000 in
theorem ck_232 : mm_cks cX8_played 0 cd_232 = true := by decide +kernel
set_option maxRecDepth 100000 in
theorem sf_232 : mm_spf cd_232 = [(.getfield 7, 3, 8, 0), (.invokestatic 89, 3, 148, 0), (.getfield 16, 3, 8, 2), (.invokevirtual 376, 3, 231, 1)] := by decide +kernel
theorem mc_232 : mm_MC mm_ct mm_CM mm_cl mm_WS mm_NW me_232 := mm_MC_of rfl rfl ck_232 (by rw [sf_232]; exact List.forall_mem_cons.mpr ⟨sq_375, List.forall_mem_cons.mpr ⟨sq_378, List.forall_mem_cons.mpr ⟨sq_403, List.forall_mem_cons.mpr ⟨sq_489, fun _ h => nomatch h⟩⟩⟩⟩)
theorem mo_232 : mm_MO mm_ct mm_CM mm_cl mm_WS mm_NW me_232 := ⟨by decide, kw_960, kw_653, by decide, by decide +kernel, mc_232⟩
set_option maxRecDepth 100000 in
theorem ck_233 : mm_cks cX8_anew 0 cd_233 = true := by decide +kernel
set_option maxRecDepth 100000 in
theorem sf_233 : mm_spf cd_233 = [] := by decide +kernel
theorem mc_233 : mm_MC mm_ct mm_CM mm_cl mm_WS mm_NW me_233 := mm_MC_of rfl rfl ck_233 (by rw [sf_233]; exact fun _ h => nomatch h)
theorem mo_233 : mm_MO mm_ct mm_CM mm_cl mm_WS mm_NW me_233 := ⟨by decide, kw_961, kw_653, by decide, by decide +kernel, mc_233⟩
theorem sq_490 : mm_Pq mm_ct mm_CM mm_cl mm_WS mm_NW "SelfSortingModel" "" (.invokestatic 379, 3, 233, 0) := ⟨kw_963, Or.inl kw_962⟩
theorem sq_491 : mm_Pq mm_ct mm_CM mm_cl mm_WS mm_NW "SelfSortingModel" "" (.invokevirtual 382, 3, 156, 1) := ⟨kw_965, kw_966, kw_964, _, _, rfl⟩
set_option maxRecDepth 100000 in
theorem ck_234 : mm_cks cX8_year 0 cd_234 = true := by decide +kernel
set_option maxRecDepth 100000 in
theorem sf_234 : mm_spf cd_234 = [(.invokestatic 89, 3, 148, 0), (.invokestatic 89, 3, 148, 0), (.getfield 7, 3, 8, 0), (.invokevirtual 339, 3, 214, 1), (.getfield 7, 3, 8, 0), (.invokestatic 379, 3, 233, 0), (.invokevirtual 382, 3, 156, 1), (.getfield 7, 3, 8, 0), (.invokevirtual 97, 3, 153, 1), (.invokevirtual 97, 3, 153, 1), (.invokevirtual 354, 3, 157, 1), (.getfield 7, 3, 8, 0), (.invokestatic 379, 3, 233, 0), (.invokevirtual 333, 3, 217, 1), (.invokevirtual 357, 3, 218, 1), (.getfield 7, 3, 8, 0), (.getfield 7, 3, 8, 0), (.getfield 345, 3, 8, 25), (.getfield 7, 3, 8, 0), (.invokevirtual 348, 3, 224, 1), (.putfield 345, 3, 8, 25), (.invokestatic 379, 3, 233, 0), (.getfield 7, 3, 8, 0)] := by decide +kernel
theorem mc_234 : mm_MC mm_ct mm_CM mm_cl mm_WS mm_NW me_234 := mm_MC_of rfl rfl ck_234 (by rw [sf_234]; exact List.forall_mem_cons.mpr ⟨sq_378, List.forall_mem_cons.mpr ⟨sq_378, List.forall_mem_cons.mpr ⟨sq_375, List.forall_mem_cons.mpr ⟨sq_476, List.forall_mem_cons.mpr ⟨sq_375, List.forall_mem_cons.mpr ⟨sq_490, List.forall_mem_cons.mpr ⟨sq_491, List.forall_mem_cons.mpr ⟨sq_375, List.forall_mem_cons.mpr ⟨sq_380, List.forall_mem_cons.mpr ⟨sq_380, List.forall_mem_cons.mpr ⟨sq_482, List.forall_mem_cons.mpr ⟨sq_375, List.forall_mem_cons.mpr ⟨sq_490, List.forall_mem_cons.mpr ⟨sq_474, List.forall_mem_cons.mpr ⟨sq_483, List.forall_mem_cons.mpr ⟨sq_375, List.forall_mem_cons.mpr ⟨sq_375, List.forall_mem_cons.mpr ⟨sq_478, List.forall_mem_cons.mpr ⟨sq_375, List.forall_mem_cons.mpr ⟨sq_479, List.forall_mem_cons.mpr ⟨sq_480, List.forall_mem_cons.mpr ⟨sq_490, List.forall_mem_cons.mpr ⟨sq_375, fun _ h => nomatch h⟩⟩⟩⟩⟩⟩⟩⟩⟩⟩⟩⟩⟩⟩⟩⟩⟩⟩⟩⟩⟩⟩⟩)
theorem mo_234 : mm_MO mm_ct mm_CM mm_cl mm_WS mm_NW me_234 := ⟨by decide, kw_967, kw_653, by decide, by decide +kernel, mc_234⟩
set_option maxRecDepth 100000 in
theorem ck_235 : mm_cks cX8_at 0 cd_235 = true := by decide +kernel
set_option maxRecDepth 100000 in
theorem sf_235 : mm_spf cd_235 = [(.invokestatic 310, 3, 152, 0), (.getfield 7, 3, 8, 0), (.getfield 7, 3, 8, 0), (.invokestatic 89, 3, 148, 0), (.invokevirtual 101, 3, 155, 1)] := by decide +kernel
theorem mc_235 : mm_MC mm_ct mm_CM mm_cl mm_WS mm_NW me_235 := mm_MC_of rfl rfl ck_235 (by rw [sf_235]; exact List.forall_mem_cons.mpr ⟨sq_467, List.forall_mem_cons.mpr ⟨sq_375, List.forall_mem_cons.mpr ⟨sq_375, List.forall_mem_cons.mpr ⟨sq_378, List.forall_mem_cons.mpr ⟨sq_381, fun _ h => nomatch h⟩⟩⟩⟩⟩)
theorem mo_235 : mm_MO mm_ct mm_CM mm_cl mm_WS mm_NW me_235 := ⟨by decide, kw_968, kw_653, by decide, by decide +kernel, mc_235⟩
set_option maxRecDepth 100000 in
theorem ck_236 : mm_cks cX8_of 0 cd_236 = true := by decide +kernel
set_option maxRecDepth 100000 in
theorem sf_236 : mm_spf cd_236 = [(.invokevirtual 93, 3, 151, 1), (.invokestatic 89, 3, 148, 0), (.invokevirtual 97, 3, 153, 1), (.invokevirtual 382, 3, 156, 1), (.invokevirtual 354, 3, 157, 1), (.invokevirtual 296, 3, 207, 1), (.invokevirtual 97, 3, 153, 1)] := by decide +kernel
theorem mc_236 : mm_MC mm_ct mm_CM mm_cl mm_WS mm_NW me_236 := mm_MC_of rfl rfl ck_236 (by rw [sf_236]; exact List.forall_mem_cons.mpr ⟨sq_379, List.forall_mem_cons.mpr ⟨sq_378, List.forall_mem_cons.mpr ⟨sq_380, List.forall_mem_cons.mpr ⟨sq_491, List.forall_mem_cons.mpr ⟨sq_482, List.forall_mem_cons.mpr ⟨sq_463, List.forall_mem_cons.mpr ⟨sq_380, fun _ h => nomatch h⟩⟩⟩⟩⟩⟩⟩)
theorem mo_236 : mm_MO mm_ct mm_CM mm_cl mm_WS mm_NW me_236 := ⟨by decide, kw_969, kw_653, by decide, by decide +kernel, mc_236⟩
set_option maxRecDepth 100000 in
theorem ck_237 : mm_cks cX8_shelf 0 cd_237 = true := by decide +kernel
set_option maxRecDepth 100000 in
theorem sf_237 : mm_spf cd_237 = [(.invokestatic 310, 3, 152, 0), (.invokestatic 89, 3, 148, 0), (.getfield 7, 3, 8, 0), (.invokevirtual 313, 3, 208, 1)] := by decide +kernel
theorem mc_237 : mm_MC mm_ct mm_CM mm_cl mm_WS mm_NW me_237 := mm_MC_of rfl rfl ck_237 (by rw [sf_237]; exact List.forall_mem_cons.mpr ⟨sq_467, List.forall_mem_cons.mpr ⟨sq_378, List.forall_mem_cons.mpr ⟨sq_375, List.forall_mem_cons.mpr ⟨sq_468, fun _ h => nomatch h⟩⟩⟩⟩)
theorem mo_237 : mm_MO mm_ct mm_CM mm_cl mm_WS mm_NW me_237 := ⟨by decide, kw_970, kw_653, by decide, by decide +kernel, mc_237⟩
set_option maxRecDepth 100000 in
theorem ck_238 : mm_cks cX8_written 0 cd_238 = true := by decide +kernel
set_option maxRecDepth 100000 in
theorem sf_238 : mm_spf cd_238 = [(.getfield 7, 3, 8, 0), (.getfield 7, 3, 8, 0), (.invokestatic 89, 3, 148, 0), (.invokestatic 89, 3, 148, 0), (.getfield 7, 3, 8, 0), (.getfield 7, 3, 8, 0)] := by decide +kernel
theorem mc_238 : mm_MC mm_ct mm_CM mm_cl mm_WS mm_NW me_238 := mm_MC_of rfl rfl ck_238 (by rw [sf_238]; exact List.forall_mem_cons.mpr ⟨sq_375, List.forall_mem_cons.mpr ⟨sq_375, List.forall_mem_cons.mpr ⟨sq_378, List.forall_mem_cons.mpr ⟨sq_378, List.forall_mem_cons.mpr ⟨sq_375, List.forall_mem_cons.mpr ⟨sq_375, fun _ h => nomatch h⟩⟩⟩⟩⟩⟩)
theorem mo_238 : mm_MO mm_ct mm_CM mm_cl mm_WS mm_NW me_238 := ⟨by decide, kw_971, kw_653, by decide, by decide +kernel, mc_238⟩
theorem sq_492 : mm_Pq mm_ct mm_CM mm_cl mm_WS mm_NW "SelfSortingModel" "" (.getfield 43, 3, 8, 26) := ⟨(RX8, TX8, 43), rfl, by decide, by decide, kw_636⟩
set_option maxRecDepth 100000 in
theorem ck_239 : mm_cks cX8_findChanges 0 cd_239 = true := by decide +kernel
set_option maxRecDepth 100000 in
theorem sf_239 : mm_spf cd_239 = [(.getfield 7, 3, 8, 0), (.getfield 7, 3, 8, 0), (.getfield 43, 3, 8, 26), (.invokevirtual 319, 3, 211, 1)] := by decide +kernel
theorem mc_239 : mm_MC mm_ct mm_CM mm_cl mm_WS mm_NW me_239 := mm_MC_of rfl rfl ck_239 (by rw [sf_239]; exact List.forall_mem_cons.mpr ⟨sq_375, List.forall_mem_cons.mpr ⟨sq_375, List.forall_mem_cons.mpr ⟨sq_492, List.forall_mem_cons.mpr ⟨sq_470, fun _ h => nomatch h⟩⟩⟩⟩)
theorem mo_239 : mm_MO mm_ct mm_CM mm_cl mm_WS mm_NW me_239 := ⟨by decide, kw_972, kw_653, by decide, by decide +kernel, mc_239⟩
theorem sq_493 : mm_Pq mm_ct mm_CM mm_cl mm_WS mm_NW "SelfSortingModel" "" (.invokevirtual 385, 3, 239, 1) := ⟨kw_974, kw_975, kw_973, _, _, rfl⟩
theorem sq_494 : mm_Pq mm_ct mm_CM mm_cl mm_WS mm_NW "SelfSortingModel" "" (.putfield 388, 3, 8, 28) := ⟨⟨(RX8, TX8, 43), rfl, by decide, by decide, kw_976⟩, fun r h g => by cases h; cases g⟩
theorem sq_495 : mm_Pq mm_ct mm_CM mm_cl mm_WS mm_NW "SelfSortingModel" "" (.getfield 46, 3, 8, 27) := ⟨(RX8, TX8, 43), rfl, by decide, by decide, kw_637⟩
theorem sq_496 : mm_Pq mm_ct mm_CM mm_cl mm_WS mm_NW "SelfSortingModel" "" (.getfield 388, 3, 8, 28) := ⟨(RX8, TX8, 43), rfl, by decide, by decide, kw_976⟩
set_option maxRecDepth 100000 in
theorem ck_240 : mm_cks cX8_layRow 0 cd_240 = true := by decide +kernel
set_option maxRecDepth 100000 in
theorem sf_240 : mm_spf cd_240 = [(.invokevirtual 385, 3, 239, 1), (.putfield 388, 3, 8, 28), (.getfield 7, 3, 8, 0), (.invokevirtual 101, 3, 155, 1), (.getfield 46, 3, 8, 27), (.getfield 388, 3, 8, 28), (.invokevirtual 101, 3, 155, 1), (.getfield 388, 3, 8, 28), (.putfield 388, 3, 8, 28)] := by decide +kernel
theorem mc_240 : mm_MC mm_ct mm_CM mm_cl mm_WS mm_NW me_240 := mm_MC_of rfl rfl ck_240 (by rw [sf_240]; exact List.forall_mem_cons.mpr ⟨sq_493, List.forall_mem_cons.mpr ⟨sq_494, List.forall_mem_cons.mpr ⟨sq_375, List.forall_mem_cons.mpr ⟨sq_381, List.forall_mem_cons.mpr ⟨sq_495, List.forall_mem_cons.mpr ⟨sq_496, List.forall_mem_cons.mpr ⟨sq_381, List.forall_mem_cons.mpr ⟨sq_496, List.forall_mem_cons.mpr ⟨sq_494, fun _ h => nomatch h⟩⟩⟩⟩⟩⟩⟩⟩⟩)
theorem mo_240 : mm_MO mm_ct mm_CM mm_cl mm_WS mm_NW me_240 := ⟨by decide, kw_977, kw_653, by decide, by decide +kernel, mc_240⟩
set_option maxRecDepth 100000 in
theorem ck_241 : mm_cks cX8_isCalm 0 cd_241 = true := by decide +kernel
set_option maxRecDepth 100000 in
theorem sf_241 : mm_spf cd_241 = [(.getfield 388, 3, 8, 28), (.getfield 43, 3, 8, 26), (.getfield 46, 3, 8, 27), (.getfield 46, 3, 8, 27)] := by decide +kernel
theorem mc_241 : mm_MC mm_ct mm_CM mm_cl mm_WS mm_NW me_241 := mm_MC_of rfl rfl ck_241 (by rw [sf_241]; exact List.forall_mem_cons.mpr ⟨sq_496, List.forall_mem_cons.mpr ⟨sq_492, List.forall_mem_cons.mpr ⟨sq_495, List.forall_mem_cons.mpr ⟨sq_495, fun _ h => nomatch h⟩⟩⟩⟩)
theorem mo_241 : mm_MO mm_ct mm_CM mm_cl mm_WS mm_NW me_241 := ⟨by decide, kw_978, kw_653, by decide, by decide +kernel, mc_241⟩
set_option maxRecDepth 100000 in
theorem ck_242 : mm_cks cX8_swapRow 0 cd_242 = true := by decide +kernel
set_option maxRecDepth 100000 in
theorem sf_242 : mm_spf cd_242 = [(.getfield 46, 3, 8, 27), (.getfield 46, 3, 8, 27), (.getfield 46, 3, 8, 27), (.getfield 46, 3, 8, 27)] := by decide +kernel
theorem mc_242 : mm_MC mm_ct mm_CM mm_cl mm_WS mm_NW me_242 := mm_MC_of rfl rfl ck_242 (by rw [sf_242]; exact List.forall_mem_cons.mpr ⟨sq_495, List.forall_mem_cons.mpr ⟨sq_495, List.forall_mem_cons.mpr ⟨sq_495, List.forall_mem_cons.mpr ⟨sq_495, fun _ h => nomatch h⟩⟩⟩⟩)
theorem mo_242 : mm_MO mm_ct mm_CM mm_cl mm_WS mm_NW me_242 := ⟨by decide, kw_979, kw_653, by decide, by decide +kernel, mc_242⟩
theorem sq_497 : mm_Pq mm_ct mm_CM mm_cl mm_WS mm_NW "SelfSortingModel" "" (.invokevirtual 391, 3, 242, 1) := ⟨kw_981, kw_982, kw_980, _, _, rfl⟩
set_option maxRecDepth 100000 in
theorem ck_243 : mm_cks cX8_nightOn 0 cd_243 = true := by decide +kernel
set_option maxRecDepth 100000 in
theorem sf_243 : mm_spf cd_243 = [(.getfield 388, 3, 8, 28), (.getfield 43, 3, 8, 26), (.getfield 46, 3, 8, 27), (.getfield 46, 3, 8, 27), (.invokevirtual 391, 3, 242, 1)] := by decide +kernel
theorem mc_243 : mm_MC mm_ct mm_CM mm_cl mm_WS mm_NW me_243 := mm_MC_of rfl rfl ck_243 (by rw [sf_243]; exact List.forall_mem_cons.mpr ⟨sq_496, List.forall_mem_cons.mpr ⟨sq_492, List.forall_mem_cons.mpr ⟨sq_495, List.forall_mem_cons.mpr ⟨sq_495, List.forall_mem_cons.mpr ⟨sq_497, fun _ h => nomatch h⟩⟩⟩⟩⟩)
theorem mo_243 : mm_MO mm_ct mm_CM mm_cl mm_WS mm_NW me_243 := ⟨by decide, kw_983, kw_653, by decide, by decide +kernel, mc_243⟩
theorem sq_498 : mm_Pq mm_ct mm_CM mm_cl mm_WS mm_NW "SelfSortingModel" "" (.invokevirtual 394, 3, 241, 1) := ⟨kw_985, kw_986, kw_984, _, _, rfl⟩
theorem sq_499 : mm_Pq mm_ct mm_CM mm_cl mm_WS mm_NW "SelfSortingModel" "" (.invokevirtual 397, 3, 243, 1) := ⟨kw_988, kw_989, kw_987, _, _, rfl⟩
set_option maxRecDepth 100000 in
theorem ck_244 : mm_cks cX8_goToRest 0 cd_244 = true := by decide +kernel
set_option maxRecDepth 100000 in
theorem sf_244 : mm_spf cd_244 = [(.invokevirtual 394, 3, 241, 1), (.getfield 7, 3, 8, 0), (.invokevirtual 397, 3, 243, 1)] := by decide +kernel
theorem mc_244 : mm_MC mm_ct mm_CM mm_cl mm_WS mm_NW me_244 := mm_MC_of rfl rfl ck_244 (by rw [sf_244]; exact List.forall_mem_cons.mpr ⟨sq_498, List.forall_mem_cons.mpr ⟨sq_375, List.forall_mem_cons.mpr ⟨sq_499, fun _ h => nomatch h⟩⟩⟩)
theorem mo_244 : mm_MO mm_ct mm_CM mm_cl mm_WS mm_NW me_244 := ⟨by decide, kw_990, kw_653, by decide, by decide +kernel, mc_244⟩
theorem sq_500 : mm_Pq mm_ct mm_CM mm_cl mm_WS mm_NW "SelfSortingModel" "" (.invokevirtual 400, 3, 240, 1) := ⟨kw_992, kw_993, kw_991, _, _, rfl⟩
theorem sq_501 : mm_Pq mm_ct mm_CM mm_cl mm_WS mm_NW "SelfSortingModel" "" (.invokevirtual 403, 3, 244, 1) := ⟨kw_995, kw_996, kw_994, _, _, rfl⟩
set_option maxRecDepth 100000 in
theorem ck_245 : mm_cks cX8_rest 0 cd_245 = true := by decide +kernel
set_option maxRecDepth 100000 in
theorem sf_245 : mm_spf cd_245 = [(.invokestatic 310, 3, 152, 0), (.invokevirtual 400, 3, 240, 1), (.invokevirtual 403, 3, 244, 1)] := by decide +kernel
theorem mc_245 : mm_MC mm_ct mm_CM mm_cl mm_WS mm_NW me_245 := mm_MC_of rfl rfl ck_245 (by rw [sf_245]; exact List.forall_mem_cons.mpr ⟨sq_467, List.forall_mem_cons.mpr ⟨sq_500, List.forall_mem_cons.mpr ⟨sq_501, fun _ h => nomatch h⟩⟩⟩)
theorem mo_245 : mm_MO mm_ct mm_CM mm_cl mm_WS mm_NW me_245 := ⟨by decide, kw_997, kw_653, by decide, by decide +kernel, mc_245⟩
theorem sq_502 : mm_Pq mm_ct mm_CM mm_cl mm_WS mm_NW "SelfSortingModel" "" (.ldc2_w 406, 3, 10, 0) := ⟨rfl, kw_998⟩
set_option maxRecDepth 100000 in
theorem ck_246 : mm_cks cX8_rowNumber 0 cd_246 = true := by decide +kernel
set_option maxRecDepth 100000 in
theorem sf_246 : mm_spf cd_246 = [(.getfield 388, 3, 8, 28), (.ldc2_w 406, 3, 10, 0), (.getfield 46, 3, 8, 27)] := by decide +kernel
theorem mc_246 : mm_MC mm_ct mm_CM mm_cl mm_WS mm_NW me_246 := mm_MC_of rfl rfl ck_246 (by rw [sf_246]; exact List.forall_mem_cons.mpr ⟨sq_496, List.forall_mem_cons.mpr ⟨sq_502, List.forall_mem_cons.mpr ⟨sq_495, fun _ h => nomatch h⟩⟩⟩)
theorem mo_246 : mm_MO mm_ct mm_CM mm_cl mm_WS mm_NW me_246 := ⟨by decide, kw_999, kw_653, by decide, by decide +kernel, mc_246⟩
theorem sq_503 : mm_Pq mm_ct mm_CM mm_cl mm_WS mm_NW "SelfSortingModel" "" (.getfield 49, 3, 8, 29) := ⟨(RX8, TX8, 43), rfl, by decide, by decide, kw_638⟩
theorem sq_504 : mm_Pq mm_ct mm_CM mm_cl mm_WS mm_NW "SelfSortingModel" "" (.invokevirtual 408, 3, 246, 1) := ⟨kw_1001, kw_1002, kw_1000, _, _, rfl⟩
set_option maxRecDepth 100000 in
theorem ck_247 : mm_cks cX8_round 0 cd_247 = true := by decide +kernel
set_option maxRecDepth 100000 in
theorem sf_247 : mm_spf cd_247 = [(.invokestatic 310, 3, 152, 0), (.invokevirtual 400, 3, 240, 1), (.invokevirtual 394, 3, 241, 1), (.getfield 49, 3, 8, 29), (.invokevirtual 408, 3, 246, 1), (.getfield 7, 3, 8, 0), (.invokevirtual 397, 3, 243, 1), (.getfield 49, 3, 8, 29), (.getfield 49, 3, 8, 29)] := by decide +kernel
theorem mc_247 : mm_MC mm_ct mm_CM mm_cl mm_WS mm_NW me_247 := mm_MC_of rfl rfl ck_247 (by rw [sf_247]; exact List.forall_mem_cons.mpr ⟨sq_467, List.forall_mem_cons.mpr ⟨sq_500, List.forall_mem_cons.mpr ⟨sq_498, List.forall_mem_cons.mpr ⟨sq_503, List.forall_mem_cons.mpr ⟨sq_504, List.forall_mem_cons.mpr ⟨sq_375, List.forall_mem_cons.mpr ⟨sq_499, List.forall_mem_cons.mpr ⟨sq_503, List.forall_mem_cons.mpr ⟨sq_503, fun _ h => nomatch h⟩⟩⟩⟩⟩⟩⟩⟩⟩)
theorem mo_247 : mm_MO mm_ct mm_CM mm_cl mm_WS mm_NW me_247 := ⟨by decide, kw_1003, kw_653, by decide, by decide +kernel, mc_247⟩
set_option maxRecDepth 100000 in
theorem ck_248 : mm_cks cX8_factorial 0 cd_248 = true := by decide +kernel
set_option maxRecDepth 100000 in
theorem sf_248 : mm_spf cd_248 = [] := by decide +kernel
theorem mc_248 : mm_MC mm_ct mm_CM mm_cl mm_WS mm_NW me_248 := mm_MC_of rfl rfl ck_248 (by rw [sf_248]; exact fun _ h => nomatch h)
theorem mo_248 : mm_MO mm_ct mm_CM mm_cl mm_WS mm_NW me_248 := ⟨by decide, kw_1004, kw_653, by decide, by decide +kernel, mc_248⟩
theorem sq_505 : mm_Pq mm_ct mm_CM mm_cl mm_WS mm_NW "SelfSortingModel" "" (.getfield 412, 3, 8, 34) := ⟨(RX8, TX8, 43), rfl, by decide, by decide, kw_1005⟩
theorem sq_506 : mm_Pq mm_ct mm_CM mm_cl mm_WS mm_NW "SelfSortingModel" "" (.getfield 64, 3, 8, 36) := ⟨(RX8, TX8, 43), rfl, by decide, by decide, kw_643⟩
set_option maxRecDepth 100000 in
theorem ck_249 : mm_cks cX8_orderOf 0 cd_249 = true := by decide +kernel
set_option maxRecDepth 100000 in
theorem sf_249 : mm_spf cd_249 = [(.getfield 412, 3, 8, 34), (.getfield 412, 3, 8, 34), (.getfield 64, 3, 8, 36), (.getfield 64, 3, 8, 36), (.getfield 412, 3, 8, 34)] := by decide +kernel
theorem mc_249 : mm_MC mm_ct mm_CM mm_cl mm_WS mm_NW me_249 := mm_MC_of rfl rfl ck_249 (by rw [sf_249]; exact List.forall_mem_cons.mpr ⟨sq_505, List.forall_mem_cons.mpr ⟨sq_505, List.forall_mem_cons.mpr ⟨sq_506, List.forall_mem_cons.mpr ⟨sq_506, List.forall_mem_cons.mpr ⟨sq_505, fun _ h => nomatch h⟩⟩⟩⟩⟩)
theorem mo_249 : mm_MO mm_ct mm_CM mm_cl mm_WS mm_NW me_249 := ⟨by decide, kw_1006, kw_653, by decide, by decide +kernel, mc_249⟩
theorem sq_507 : mm_Pq mm_ct mm_CM mm_cl mm_WS mm_NW "SelfSortingModel" "" (.getfield 52, 3, 8, 30) := ⟨(RX8, TX8, 43), rfl, by decide, by decide, kw_639⟩
set_option maxRecDepth 100000 in
theorem ck_250 : mm_cks cX8_takeOrder 0 cd_250 = true := by decide +kernel
set_option maxRecDepth 100000 in
theorem sf_250 : mm_spf cd_250 = [(.getfield 412, 3, 8, 34), (.getfield 64, 3, 8, 36), (.getfield 52, 3, 8, 30)] := by decide +kernel
theorem mc_250 : mm_MC mm_ct mm_CM mm_cl mm_WS mm_NW me_250 := mm_MC_of rfl rfl ck_250 (by rw [sf_250]; exact List.forall_mem_cons.mpr ⟨sq_505, List.forall_mem_cons.mpr ⟨sq_506, List.forall_mem_cons.mpr ⟨sq_507, fun _ h => nomatch h⟩⟩⟩)
theorem mo_250 : mm_MO mm_ct mm_CM mm_cl mm_WS mm_NW me_250 := ⟨by decide, kw_1007, kw_653, by decide, by decide +kernel, mc_250⟩
set_option maxRecDepth 100000 in
theorem ck_251 : mm_cks cX8_changeOrder 0 cd_251 = true := by decide +kernel
set_option maxRecDepth 100000 in
theorem sf_251 : mm_spf cd_251 = [(.getfield 64, 3, 8, 36), (.getfield 64, 3, 8, 36), (.getfield 64, 3, 8, 36), (.getfield 64, 3, 8, 36)] := by decide +kernel
theorem mc_251 : mm_MC mm_ct mm_CM mm_cl mm_WS mm_NW me_251 := mm_MC_of rfl rfl ck_251 (by rw [sf_251]; exact List.forall_mem_cons.mpr ⟨sq_506, List.forall_mem_cons.mpr ⟨sq_506, List.forall_mem_cons.mpr ⟨sq_506, List.forall_mem_cons.mpr ⟨sq_506, fun _ h => nomatch h⟩⟩⟩⟩)
theorem mo_251 : mm_MO mm_ct mm_CM mm_cl mm_WS mm_NW me_251 := ⟨by decide, kw_1008, kw_653, by decide, by decide +kernel, mc_251⟩
theorem sq_508 : mm_Pq mm_ct mm_CM mm_cl mm_WS mm_NW "SelfSortingModel" "" (.getfield 61, 3, 8, 33) := ⟨(RX8, TX8, 43), rfl, by decide, by decide, kw_642⟩
set_option maxRecDepth 100000 in
theorem ck_252 : mm_cks cX8_doOrder 0 cd_252 = true := by decide +kernel
set_option maxRecDepth 100000 in
theorem sf_252 : mm_spf cd_252 = [(.getfield 43, 3, 8, 26), (.getfield 61, 3, 8, 33), (.getfield 64, 3, 8, 36), (.getfield 61, 3, 8, 33), (.getfield 64, 3, 8, 36)] := by decide +kernel
theorem mc_252 : mm_MC mm_ct mm_CM mm_cl mm_WS mm_NW me_252 := mm_MC_of rfl rfl ck_252 (by rw [sf_252]; exact List.forall_mem_cons.mpr ⟨sq_492, List.forall_mem_cons.mpr ⟨sq_508, List.forall_mem_cons.mpr ⟨sq_506, List.forall_mem_cons.mpr ⟨sq_508, List.forall_mem_cons.mpr ⟨sq_506, fun _ h => nomatch h⟩⟩⟩⟩⟩)
theorem mo_252 : mm_MO mm_ct mm_CM mm_cl mm_WS mm_NW me_252 := ⟨by decide, kw_1009, kw_653, by decide, by decide +kernel, mc_252⟩
theorem sq_509 : mm_Pq mm_ct mm_CM mm_cl mm_WS mm_NW "SelfSortingModel" "" (.invokestatic 415, 3, 248, 0) := ⟨kw_1011, Or.inl kw_1010⟩
theorem sq_510 : mm_Pq mm_ct mm_CM mm_cl mm_WS mm_NW "SelfSortingModel" "" (.putfield 418, 3, 8, 35) := ⟨⟨(RX8, TX8, 43), rfl, by decide, by decide, kw_1012⟩, fun r h g => by cases h; cases g⟩
theorem sq_511 : mm_Pq mm_ct mm_CM mm_cl mm_WS mm_NW "SelfSortingModel" "" (.getfield 418, 3, 8, 35) := ⟨(RX8, TX8, 43), rfl, by decide, by decide, kw_1012⟩
theorem sq_512 : mm_Pq mm_ct mm_CM mm_cl mm_WS mm_NW "SelfSortingModel" "" (.invokestatic 421, 3, 149, 0) := ⟨kw_1014, Or.inl kw_1013⟩
set_option maxRecDepth 100000 in
theorem ck_253 : mm_cks cX8_findOrders 0 cd_253 = true := by decide +kernel
set_option maxRecDepth 100000 in
theorem sf_253 : mm_spf cd_253 = [(.getfield 412, 3, 8, 34), (.invokestatic 415, 3, 248, 0), (.putfield 418, 3, 8, 35), (.getfield 418, 3, 8, 35), (.getfield 412, 3, 8, 34), (.getfield 412, 3, 8, 34), (.invokestatic 415, 3, 248, 0), (.invokestatic 421, 3, 149, 0), (.invokestatic 421, 3, 149, 0), (.getfield 52, 3, 8, 30)] := by decide +kernel
theorem mc_253 : mm_MC mm_ct mm_CM mm_cl mm_WS mm_NW me_253 := mm_MC_of rfl rfl ck_253 (by rw [sf_253]; exact List.forall_mem_cons.mpr ⟨sq_505, List.forall_mem_cons.mpr ⟨sq_509, List.forall_mem_cons.mpr ⟨sq_510, List.forall_mem_cons.mpr ⟨sq_511, List.forall_mem_cons.mpr ⟨sq_505, List.forall_mem_cons.mpr ⟨sq_505, List.forall_mem_cons.mpr ⟨sq_509, List.forall_mem_cons.mpr ⟨sq_512, List.forall_mem_cons.mpr ⟨sq_512, List.forall_mem_cons.mpr ⟨sq_507, fun _ h => nomatch h⟩⟩⟩⟩⟩⟩⟩⟩⟩⟩)
theorem mo_253 : mm_MO mm_ct mm_CM mm_cl mm_WS mm_NW me_253 := ⟨by decide, kw_1015, kw_653, by decide, by decide +kernel, mc_253⟩
theorem sq_513 : mm_Pq mm_ct mm_CM mm_cl mm_WS mm_NW "SelfSortingModel" "" (.invokevirtual 424, 3, 250, 1) := ⟨kw_1017, kw_1018, kw_1016, _, _, rfl⟩
theorem sq_514 : mm_Pq mm_ct mm_CM mm_cl mm_WS mm_NW "SelfSortingModel" "" (.invokevirtual 427, 3, 252, 1) := ⟨kw_1020, kw_1021, kw_1019, _, _, rfl⟩
theorem sq_515 : mm_Pq mm_ct mm_CM mm_cl mm_WS mm_NW "SelfSortingModel" "" (.invokevirtual 430, 3, 251, 1) := ⟨kw_1023, kw_1024, kw_1022, _, _, rfl⟩
theorem sq_516 : mm_Pq mm_ct mm_CM mm_cl mm_WS mm_NW "SelfSortingModel" "" (.getfield 55, 3, 8, 31) := ⟨(RX8, TX8, 43), rfl, by decide, by decide, kw_640⟩
theorem sq_517 : mm_Pq mm_ct mm_CM mm_cl mm_WS mm_NW "SelfSortingModel" "" (.invokevirtual 433, 3, 249, 1) := ⟨kw_1026, kw_1027, kw_1025, _, _, rfl⟩
theorem sq_518 : mm_Pq mm_ct mm_CM mm_cl mm_WS mm_NW "SelfSortingModel" "" (.getfield 58, 3, 8, 32) := ⟨(RX8, TX8, 43), rfl, by decide, by decide, kw_641⟩
set_option maxRecDepth 100000 in
theorem ck_254 : mm_cks cX8_findLeads 0 cd_254 = true := by decide +kernel
set_option maxRecDepth 100000 in
theorem sf_254 : mm_spf cd_254 = [(.getfield 418, 3, 8, 35), (.invokevirtual 424, 3, 250, 1), (.getfield 412, 3, 8, 34), (.invokevirtual 427, 3, 252, 1), (.invokevirtual 430, 3, 251, 1), (.getfield 55, 3, 8, 31), (.invokevirtual 433, 3, 249, 1), (.invokevirtual 424, 3, 250, 1), (.getfield 58, 3, 8, 32), (.getfield 412, 3, 8, 34), (.getfield 58, 3, 8, 32), (.getfield 58, 3, 8, 32), (.invokevirtual 427, 3, 252, 1)] := by decide +kernel
theorem mc_254 : mm_MC mm_ct mm_CM mm_cl mm_WS mm_NW me_254 := mm_MC_of rfl rfl ck_254 (by rw [sf_254]; exact List.forall_mem_cons.mpr ⟨sq_511, List.forall_mem_cons.mpr ⟨sq_513, List.forall_mem_cons.mpr ⟨sq_505, List.forall_mem_cons.mpr ⟨sq_514, List.forall_mem_cons.mpr ⟨sq_515, List.forall_mem_cons.mpr ⟨sq_516, List.forall_mem_cons.mpr ⟨sq_517, List.forall_mem_cons.mpr ⟨sq_513, List.forall_mem_cons.mpr ⟨sq_518, List.forall_mem_cons.mpr ⟨sq_505, List.forall_mem_cons.mpr ⟨sq_518, List.forall_mem_cons.mpr ⟨sq_518, List.forall_mem_cons.mpr ⟨sq_514, fun _ h => nomatch h⟩⟩⟩⟩⟩⟩⟩⟩⟩⟩⟩⟩⟩)
theorem mo_254 : mm_MO mm_ct mm_CM mm_cl mm_WS mm_NW me_254 := ⟨by decide, kw_1028, kw_653, by decide, by decide +kernel, mc_254⟩
theorem sq_519 : mm_Pq mm_ct mm_CM mm_cl mm_WS mm_NW "SelfSortingModel" "" (.putfield 412, 3, 8, 34) := ⟨⟨(RX8, TX8, 43), rfl, by decide, by decide, kw_1005⟩, fun r h g => by cases h; cases g⟩
theorem sq_520 : mm_Pq mm_ct mm_CM mm_cl mm_WS mm_NW "SelfSortingModel" "" (.invokevirtual 436, 3, 253, 1) := ⟨kw_1030, kw_1031, kw_1029, _, _, rfl⟩
theorem sq_521 : mm_Pq mm_ct mm_CM mm_cl mm_WS mm_NW "SelfSortingModel" "" (.invokevirtual 439, 3, 254, 1) := ⟨kw_1033, kw_1034, kw_1032, _, _, rfl⟩
set_option maxRecDepth 100000 in
theorem ck_255 : mm_cks cX8_layElements 0 cd_255 = true := by decide +kernel
set_option maxRecDepth 100000 in
theorem sf_255 : mm_spf cd_255 = [(.putfield 412, 3, 8, 34), (.getfield 7, 3, 8, 0), (.invokestatic 421, 3, 149, 0), (.getfield 61, 3, 8, 33), (.getfield 412, 3, 8, 34), (.getfield 412, 3, 8, 34), (.putfield 412, 3, 8, 34), (.invokevirtual 436, 3, 253, 1), (.invokevirtual 439, 3, 254, 1)] := by decide +kernel
theorem mc_255 : mm_MC mm_ct mm_CM mm_cl mm_WS mm_NW me_255 := mm_MC_of rfl rfl ck_255 (by rw [sf_255]; exact List.forall_mem_cons.mpr ⟨sq_519, List.forall_mem_cons.mpr ⟨sq_375, List.forall_mem_cons.mpr ⟨sq_512, List.forall_mem_cons.mpr ⟨sq_508, List.forall_mem_cons.mpr ⟨sq_505, List.forall_mem_cons.mpr ⟨sq_505, List.forall_mem_cons.mpr ⟨sq_519, List.forall_mem_cons.mpr ⟨sq_520, List.forall_mem_cons.mpr ⟨sq_521, fun _ h => nomatch h⟩⟩⟩⟩⟩⟩⟩⟩⟩)
theorem mo_255 : mm_MO mm_ct mm_CM mm_cl mm_WS mm_NW me_255 := ⟨by decide, kw_1035, kw_653, by decide, by decide +kernel, mc_255⟩
theorem sq_522 : mm_Pq mm_ct mm_CM mm_cl mm_WS mm_NW "SelfSortingModel" "" (.invokestatic 442, 3, 150, 0) := ⟨kw_1037, Or.inl kw_1036⟩
set_option maxRecDepth 100000 in
theorem ck_256 : mm_cks cX8_isSet 0 cd_256 = true := by decide +kernel
set_option maxRecDepth 100000 in
theorem sf_256 : mm_spf cd_256 = [(.getfield 7, 3, 8, 0), (.invokestatic 89, 3, 148, 0), (.invokestatic 442, 3, 150, 0)] := by decide +kernel
theorem mc_256 : mm_MC mm_ct mm_CM mm_cl mm_WS mm_NW me_256 := mm_MC_of rfl rfl ck_256 (by rw [sf_256]; exact List.forall_mem_cons.mpr ⟨sq_375, List.forall_mem_cons.mpr ⟨sq_378, List.forall_mem_cons.mpr ⟨sq_522, fun _ h => nomatch h⟩⟩⟩)
theorem mo_256 : mm_MO mm_ct mm_CM mm_cl mm_WS mm_NW me_256 := ⟨by decide, kw_1038, kw_653, by decide, by decide +kernel, mc_256⟩
theorem sq_523 : mm_Pq mm_ct mm_CM mm_cl mm_WS mm_NW "SelfSortingModel" "" (.invokevirtual 445, 3, 255, 1) := ⟨kw_1040, kw_1041, kw_1039, _, _, rfl⟩
set_option maxRecDepth 100000 in
theorem ck_257 : mm_cks cX8_laySet 0 cd_257 = true := by decide +kernel
set_option maxRecDepth 100000 in
theorem sf_257 : mm_spf cd_257 = [(.invokevirtual 385, 3, 239, 1), (.invokevirtual 445, 3, 255, 1)] := by decide +kernel
theorem mc_257 : mm_MC mm_ct mm_CM mm_cl mm_WS mm_NW me_257 := mm_MC_of rfl rfl ck_257 (by rw [sf_257]; exact List.forall_mem_cons.mpr ⟨sq_493, List.forall_mem_cons.mpr ⟨sq_523, fun _ h => nomatch h⟩⟩)
theorem mo_257 : mm_MO mm_ct mm_CM mm_cl mm_WS mm_NW me_257 := ⟨by decide, kw_1042, kw_653, by decide, by decide +kernel, mc_257⟩
set_option maxRecDepth 100000 in
theorem ck_258 : mm_cks cX8_calmOrder 0 cd_258 = true := by decide +kernel
set_option maxRecDepth 100000 in
theorem sf_258 : mm_spf cd_258 = [(.getfield 418, 3, 8, 35), (.getfield 58, 3, 8, 32)] := by decide +kernel
theorem mc_258 : mm_MC mm_ct mm_CM mm_cl mm_WS mm_NW me_258 := mm_MC_of rfl rfl ck_258 (by rw [sf_258]; exact List.forall_mem_cons.mpr ⟨sq_511, List.forall_mem_cons.mpr ⟨sq_518, fun _ h => nomatch h⟩⟩)
theorem mo_258 : mm_MO mm_ct mm_CM mm_cl mm_WS mm_NW me_258 := ⟨by decide, kw_1043, kw_653, by decide, by decide +kernel, mc_258⟩
theorem sq_524 : mm_Pq mm_ct mm_CM mm_cl mm_WS mm_NW "SelfSortingModel" "" (.invokevirtual 448, 3, 256, 1) := ⟨kw_1045, kw_1046, kw_1044, _, _, rfl⟩
theorem sq_525 : mm_Pq mm_ct mm_CM mm_cl mm_WS mm_NW "SelfSortingModel" "" (.invokevirtual 451, 3, 257, 1) := ⟨kw_1048, kw_1049, kw_1047, _, _, rfl⟩
theorem sq_526 : mm_Pq mm_ct mm_CM mm_cl mm_WS mm_NW "SelfSortingModel" "" (.invokevirtual 454, 3, 258, 1) := ⟨kw_1051, kw_1052, kw_1050, _, _, rfl⟩
set_option maxRecDepth 100000 in
theorem ck_259 : mm_cks cX8_calm 0 cd_259 = true := by decide +kernel
set_option maxRecDepth 100000 in
theorem sf_259 : mm_spf cd_259 = [(.invokevirtual 448, 3, 256, 1), (.invokevirtual 451, 3, 257, 1), (.getfield 418, 3, 8, 35), (.getfield 58, 3, 8, 32), (.invokevirtual 454, 3, 258, 1), (.getfield 412, 3, 8, 34), (.invokestatic 89, 3, 148, 0), (.getfield 61, 3, 8, 33), (.getfield 52, 3, 8, 30)] := by decide +kernel
theorem mc_259 : mm_MC mm_ct mm_CM mm_cl mm_WS mm_NW me_259 := mm_MC_of rfl rfl ck_259 (by rw [sf_259]; exact List.forall_mem_cons.mpr ⟨sq_524, List.forall_mem_cons.mpr ⟨sq_525, List.forall_mem_cons.mpr ⟨sq_511, List.forall_mem_cons.mpr ⟨sq_518, List.forall_mem_cons.mpr ⟨sq_526, List.forall_mem_cons.mpr ⟨sq_505, List.forall_mem_cons.mpr ⟨sq_378, List.forall_mem_cons.mpr ⟨sq_508, List.forall_mem_cons.mpr ⟨sq_507, fun _ h => nomatch h⟩⟩⟩⟩⟩⟩⟩⟩⟩)
theorem mo_259 : mm_MO mm_ct mm_CM mm_cl mm_WS mm_NW me_259 := ⟨by decide, kw_1053, kw_653, by decide, by decide +kernel, mc_259⟩
set_option maxRecDepth 100000 in
theorem ck_260 : mm_cks cX8_endOf 0 cd_260 = true := by decide +kernel
set_option maxRecDepth 100000 in
theorem sf_260 : mm_spf cd_260 = [(.getfield 418, 3, 8, 35), (.getfield 58, 3, 8, 32), (.getfield 55, 3, 8, 31)] := by decide +kernel
theorem mc_260 : mm_MC mm_ct mm_CM mm_cl mm_WS mm_NW me_260 := mm_MC_of rfl rfl ck_260 (by rw [sf_260]; exact List.forall_mem_cons.mpr ⟨sq_511, List.forall_mem_cons.mpr ⟨sq_518, List.forall_mem_cons.mpr ⟨sq_516, fun _ h => nomatch h⟩⟩⟩)
theorem mo_260 : mm_MO mm_ct mm_CM mm_cl mm_WS mm_NW me_260 := ⟨by decide, kw_1054, kw_653, by decide, by decide +kernel, mc_260⟩
theorem sq_527 : mm_Pq mm_ct mm_CM mm_cl mm_WS mm_NW "SelfSortingModel" "" (.invokevirtual 457, 3, 260, 1) := ⟨kw_1056, kw_1057, kw_1055, _, _, rfl⟩
set_option maxRecDepth 100000 in
theorem ck_261 : mm_cks cX8_basin 0 cd_261 = true := by decide +kernel
set_option maxRecDepth 100000 in
theorem sf_261 : mm_spf cd_261 = [(.invokevirtual 448, 3, 256, 1), (.invokevirtual 451, 3, 257, 1), (.invokevirtual 454, 3, 258, 1), (.getfield 418, 3, 8, 35), (.invokevirtual 457, 3, 260, 1)] := by decide +kernel
theorem mc_261 : mm_MC mm_ct mm_CM mm_cl mm_WS mm_NW me_261 := mm_MC_of rfl rfl ck_261 (by rw [sf_261]; exact List.forall_mem_cons.mpr ⟨sq_524, List.forall_mem_cons.mpr ⟨sq_525, List.forall_mem_cons.mpr ⟨sq_526, List.forall_mem_cons.mpr ⟨sq_511, List.forall_mem_cons.mpr ⟨sq_527, fun _ h => nomatch h⟩⟩⟩⟩⟩)
theorem mo_261 : mm_MO mm_ct mm_CM mm_cl mm_WS mm_NW me_261 := ⟨by decide, kw_1058, kw_653, by decide, by decide +kernel, mc_261⟩
set_option maxRecDepth 100000 in
theorem ck_262 : mm_cks cX8_never 0 cd_262 = true := by decide +kernel
set_option maxRecDepth 100000 in
theorem sf_262 : mm_spf cd_262 = [(.invokevirtual 448, 3, 256, 1), (.invokevirtual 451, 3, 257, 1), (.getfield 418, 3, 8, 35), (.invokevirtual 457, 3, 260, 1)] := by decide +kernel
theorem mc_262 : mm_MC mm_ct mm_CM mm_cl mm_WS mm_NW me_262 := mm_MC_of rfl rfl ck_262 (by rw [sf_262]; exact List.forall_mem_cons.mpr ⟨sq_524, List.forall_mem_cons.mpr ⟨sq_525, List.forall_mem_cons.mpr ⟨sq_511, List.forall_mem_cons.mpr ⟨sq_527, fun _ h => nomatch h⟩⟩⟩⟩)
theorem mo_262 : mm_MO mm_ct mm_CM mm_cl mm_WS mm_NW me_262 := ⟨by decide, kw_1059, kw_653, by decide, by decide +kernel, mc_262⟩
set_option maxRecDepth 100000 in
theorem ck_263 : mm_cks cX8_hasNever 0 cd_263 = true := by decide +kernel
set_option maxRecDepth 100000 in
theorem sf_263 : mm_spf cd_263 = [(.getfield 418, 3, 8, 35), (.invokevirtual 457, 3, 260, 1)] := by decide +kernel
theorem mc_263 : mm_MC mm_ct mm_CM mm_cl mm_WS mm_NW me_263 := mm_MC_of rfl rfl ck_263 (by rw [sf_263]; exact List.forall_mem_cons.mpr ⟨sq_511, List.forall_mem_cons.mpr ⟨sq_527, fun _ h => nomatch h⟩⟩)
theorem mo_263 : mm_MO mm_ct mm_CM mm_cl mm_WS mm_NW me_263 := ⟨by decide, kw_1060, kw_653, by decide, by decide +kernel, mc_263⟩
theorem sq_528 : mm_Pq mm_ct mm_CM mm_cl mm_WS mm_NW "SelfSortingModel" "" (.invokevirtual 460, 3, 263, 1) := ⟨kw_1062, kw_1063, kw_1061, _, _, rfl⟩
set_option maxRecDepth 100000 in
theorem ck_264 : mm_cks cX8_trouble 0 cd_264 = true := by decide +kernel
set_option maxRecDepth 100000 in
theorem sf_264 : mm_spf cd_264 = [(.invokevirtual 385, 3, 239, 1), (.getfield 7, 3, 8, 0), (.invokestatic 442, 3, 150, 0), (.invokevirtual 445, 3, 255, 1), (.invokevirtual 460, 3, 263, 1)] := by decide +kernel
theorem mc_264 : mm_MC mm_ct mm_CM mm_cl mm_WS mm_NW me_264 := mm_MC_of rfl rfl ck_264 (by rw [sf_264]; exact List.forall_mem_cons.mpr ⟨sq_493, List.forall_mem_cons.mpr ⟨sq_375, List.forall_mem_cons.mpr ⟨sq_522, List.forall_mem_cons.mpr ⟨sq_523, List.forall_mem_cons.mpr ⟨sq_528, fun _ h => nomatch h⟩⟩⟩⟩⟩)
theorem mo_264 : mm_MO mm_ct mm_CM mm_cl mm_WS mm_NW me_264 := ⟨by decide, kw_1064, kw_653, by decide, by decide +kernel, mc_264⟩
set_option maxRecDepth 100000 in
theorem ck_265 : mm_cks cX8_isRank 0 cd_265 = true := by decide +kernel
set_option maxRecDepth 100000 in
theorem sf_265 : mm_spf cd_265 = [(.getfield 412, 3, 8, 34), (.getfield 412, 3, 8, 34), (.getfield 61, 3, 8, 33), (.getfield 52, 3, 8, 30), (.getfield 61, 3, 8, 33), (.getfield 52, 3, 8, 30), (.getfield 43, 3, 8, 26), (.getfield 43, 3, 8, 26)] := by decide +kernel
theorem mc_265 : mm_MC mm_ct mm_CM mm_cl mm_WS mm_NW me_265 := mm_MC_of rfl rfl ck_265 (by rw [sf_265]; exact List.forall_mem_cons.mpr ⟨sq_505, List.forall_mem_cons.mpr ⟨sq_505, List.forall_mem_cons.mpr ⟨sq_508, List.forall_mem_cons.mpr ⟨sq_507, List.forall_mem_cons.mpr ⟨sq_508, List.forall_mem_cons.mpr ⟨sq_507, List.forall_mem_cons.mpr ⟨sq_492, List.forall_mem_cons.mpr ⟨sq_492, fun _ h => nomatch h⟩⟩⟩⟩⟩⟩⟩⟩)
theorem mo_265 : mm_MO mm_ct mm_CM mm_cl mm_WS mm_NW me_265 := ⟨by decide, kw_1065, kw_653, by decide, by decide +kernel, mc_265⟩
theorem sq_529 : mm_Pq mm_ct mm_CM mm_cl mm_WS mm_NW "SelfSortingModel" "" (.invokevirtual 463, 3, 265, 1) := ⟨kw_1067, kw_1068, kw_1066, _, _, rfl⟩
set_option maxRecDepth 100000 in
theorem ck_266 : mm_cks cX8_rank 0 cd_266 = true := by decide +kernel
set_option maxRecDepth 100000 in
theorem sf_266 : mm_spf cd_266 = [(.invokevirtual 448, 3, 256, 1), (.invokestatic 442, 3, 150, 0), (.invokestatic 89, 3, 148, 0), (.invokevirtual 451, 3, 257, 1), (.getfield 418, 3, 8, 35), (.invokevirtual 463, 3, 265, 1), (.getfield 61, 3, 8, 33), (.getfield 52, 3, 8, 30)] := by decide +kernel
theorem mc_266 : mm_MC mm_ct mm_CM mm_cl mm_WS mm_NW me_266 := mm_MC_of rfl rfl ck_266 (by rw [sf_266]; exact List.forall_mem_cons.mpr ⟨sq_524, List.forall_mem_cons.mpr ⟨sq_522, List.forall_mem_cons.mpr ⟨sq_378, List.forall_mem_cons.mpr ⟨sq_525, List.forall_mem_cons.mpr ⟨sq_511, List.forall_mem_cons.mpr ⟨sq_529, List.forall_mem_cons.mpr ⟨sq_508, List.forall_mem_cons.mpr ⟨sq_507, fun _ h => nomatch h⟩⟩⟩⟩⟩⟩⟩⟩)
theorem mo_266 : mm_MO mm_ct mm_CM mm_cl mm_WS mm_NW me_266 := ⟨by decide, kw_1069, kw_653, by decide, by decide +kernel, mc_266⟩
set_option maxRecDepth 100000 in
theorem ck_267 : mm_cks cX8_layShelf 0 cd_267 = true := by decide +kernel
set_option maxRecDepth 100000 in
theorem sf_267 : mm_spf cd_267 = [(.getfield 7, 3, 8, 0), (.invokevirtual 101, 3, 155, 1), (.invokevirtual 451, 3, 257, 1), (.getfield 412, 3, 8, 34), (.getfield 61, 3, 8, 33), (.invokevirtual 101, 3, 155, 1), (.getfield 64, 3, 8, 36), (.invokevirtual 433, 3, 249, 1)] := by decide +kernel
theorem mc_267 : mm_MC mm_ct mm_CM mm_cl mm_WS mm_NW me_267 := mm_MC_of rfl rfl ck_267 (by rw [sf_267]; exact List.forall_mem_cons.mpr ⟨sq_375, List.forall_mem_cons.mpr ⟨sq_381, List.forall_mem_cons.mpr ⟨sq_525, List.forall_mem_cons.mpr ⟨sq_505, List.forall_mem_cons.mpr ⟨sq_508, List.forall_mem_cons.mpr ⟨sq_381, List.forall_mem_cons.mpr ⟨sq_506, List.forall_mem_cons.mpr ⟨sq_517, fun _ h => nomatch h⟩⟩⟩⟩⟩⟩⟩⟩)
theorem mo_267 : mm_MO mm_ct mm_CM mm_cl mm_WS mm_NW me_267 := ⟨by decide, kw_1070, kw_653, by decide, by decide +kernel, mc_267⟩
set_option maxRecDepth 100000 in
theorem ck_268 : mm_cks cX8_isAt 0 cd_268 = true := by decide +kernel
set_option maxRecDepth 100000 in
theorem sf_268 : mm_spf cd_268 = [(.getfield 61, 3, 8, 33), (.getfield 52, 3, 8, 30)] := by decide +kernel
theorem mc_268 : mm_MC mm_ct mm_CM mm_cl mm_WS mm_NW me_268 := mm_MC_of rfl rfl ck_268 (by rw [sf_268]; exact List.forall_mem_cons.mpr ⟨sq_508, List.forall_mem_cons.mpr ⟨sq_507, fun _ h => nomatch h⟩⟩)
theorem mo_268 : mm_MO mm_ct mm_CM mm_cl mm_WS mm_NW me_268 := ⟨by decide, kw_1071, kw_653, by decide, by decide +kernel, mc_268⟩
set_option maxRecDepth 100000 in
theorem ck_269 : mm_cks cX8_nudged 0 cd_269 = true := by decide +kernel
set_option maxRecDepth 100000 in
theorem sf_269 : mm_spf cd_269 = [(.invokevirtual 424, 3, 250, 1), (.invokevirtual 430, 3, 251, 1), (.invokevirtual 433, 3, 249, 1)] := by decide +kernel
theorem mc_269 : mm_MC mm_ct mm_CM mm_cl mm_WS mm_NW me_269 := mm_MC_of rfl rfl ck_269 (by rw [sf_269]; exact List.forall_mem_cons.mpr ⟨sq_513, List.forall_mem_cons.mpr ⟨sq_515, List.forall_mem_cons.mpr ⟨sq_517, fun _ h => nomatch h⟩⟩⟩)
theorem mo_269 : mm_MO mm_ct mm_CM mm_cl mm_WS mm_NW me_269 := ⟨by decide, kw_1072, kw_653, by decide, by decide +kernel, mc_269⟩
set_option maxRecDepth 100000 in
theorem ck_270 : mm_cks cX8_isThere 0 cd_270 = true := by decide +kernel
set_option maxRecDepth 100000 in
theorem sf_270 : mm_spf cd_270 = [(.invokevirtual 382, 3, 156, 1), (.invokevirtual 97, 3, 153, 1), (.getfield 7, 3, 8, 0), (.invokestatic 89, 3, 148, 0)] := by decide +kernel
theorem mc_270 : mm_MC mm_ct mm_CM mm_cl mm_WS mm_NW me_270 := mm_MC_of rfl rfl ck_270 (by rw [sf_270]; exact List.forall_mem_cons.mpr ⟨sq_491, List.forall_mem_cons.mpr ⟨sq_380, List.forall_mem_cons.mpr ⟨sq_375, List.forall_mem_cons.mpr ⟨sq_378, fun _ h => nomatch h⟩⟩⟩⟩)
theorem mo_270 : mm_MO mm_ct mm_CM mm_cl mm_WS mm_NW me_270 := ⟨by decide, kw_1073, kw_653, by decide, by decide +kernel, mc_270⟩
theorem sq_530 : mm_Pq mm_ct mm_CM mm_cl mm_WS mm_NW "SelfSortingModel" "" (.invokevirtual 466, 3, 270, 1) := ⟨kw_1075, kw_1076, kw_1074, _, _, rfl⟩
theorem sq_531 : mm_Pq mm_ct mm_CM mm_cl mm_WS mm_NW "SelfSortingModel" "" (.invokevirtual 469, 3, 267, 1) := ⟨kw_1078, kw_1079, kw_1077, _, _, rfl⟩
theorem sq_532 : mm_Pq mm_ct mm_CM mm_cl mm_WS mm_NW "SelfSortingModel" "" (.getfield 70, 3, 8, 38) := ⟨(RX8, TX8, 43), rfl, by decide, by decide, kw_645⟩
theorem sq_533 : mm_Pq mm_ct mm_CM mm_cl mm_WS mm_NW "SelfSortingModel" "" (.getfield 67, 3, 8, 37) := ⟨(RX8, TX8, 43), rfl, by decide, by decide, kw_644⟩
theorem sq_534 : mm_Pq mm_ct mm_CM mm_cl mm_WS mm_NW "SelfSortingModel" "" (.invokevirtual 472, 3, 268, 1) := ⟨kw_1081, kw_1082, kw_1080, _, _, rfl⟩
theorem sq_535 : mm_Pq mm_ct mm_CM mm_cl mm_WS mm_NW "SelfSortingModel" "" (.invokevirtual 475, 3, 269, 1) := ⟨kw_1084, kw_1085, kw_1083, _, _, rfl⟩
set_option maxRecDepth 100000 in
theorem ck_271 : mm_cks cX8_nudges 0 cd_271 = true := by decide +kernel
set_option maxRecDepth 100000 in
theorem sf_271 : mm_spf cd_271 = [(.invokestatic 310, 3, 152, 0), (.getfield 7, 3, 8, 0), (.invokevirtual 466, 3, 270, 1), (.invokevirtual 466, 3, 270, 1), (.invokevirtual 469, 3, 267, 1), (.getfield 418, 3, 8, 35), (.getfield 70, 3, 8, 38), (.getfield 70, 3, 8, 38), (.getfield 67, 3, 8, 37), (.getfield 67, 3, 8, 37), (.invokevirtual 472, 3, 268, 1), (.invokevirtual 472, 3, 268, 1), (.getfield 70, 3, 8, 38), (.getfield 412, 3, 8, 34), (.invokevirtual 475, 3, 269, 1), (.getfield 70, 3, 8, 38), (.getfield 70, 3, 8, 38), (.getfield 70, 3, 8, 38), (.getfield 67, 3, 8, 37)] := by decide +kernel
theorem mc_271 : mm_MC mm_ct mm_CM mm_cl mm_WS mm_NW me_271 := mm_MC_of rfl rfl ck_271 (by rw [sf_271]; exact List.forall_mem_cons.mpr ⟨sq_467, List.forall_mem_cons.mpr ⟨sq_375, List.forall_mem_cons.mpr ⟨sq_530, List.forall_mem_cons.mpr ⟨sq_530, List.forall_mem_cons.mpr ⟨sq_531, List.forall_mem_cons.mpr ⟨sq_511, List.forall_mem_cons.mpr ⟨sq_532, List.forall_mem_cons.mpr ⟨sq_532, List.forall_mem_cons.mpr ⟨sq_533, List.forall_mem_cons.mpr ⟨sq_533, List.forall_mem_cons.mpr ⟨sq_534, List.forall_mem_cons.mpr ⟨sq_534, List.forall_mem_cons.mpr ⟨sq_532, List.forall_mem_cons.mpr ⟨sq_505, List.forall_mem_cons.mpr ⟨sq_535, List.forall_mem_cons.mpr ⟨sq_532, List.forall_mem_cons.mpr ⟨sq_532, List.forall_mem_cons.mpr ⟨sq_532, List.forall_mem_cons.mpr ⟨sq_533, fun _ h => nomatch h⟩⟩⟩⟩⟩⟩⟩⟩⟩⟩⟩⟩⟩⟩⟩⟩⟩⟩⟩)
theorem mo_271 : mm_MO mm_ct mm_CM mm_cl mm_WS mm_NW me_271 := ⟨by decide, kw_1086, kw_653, by decide, by decide +kernel, mc_271⟩
set_option maxRecDepth 100000 in
theorem ck_272 : mm_cks cX8_moved 0 cd_272 = true := by decide +kernel
set_option maxRecDepth 100000 in
theorem sf_272 : mm_spf cd_272 = [(.getfield 55, 3, 8, 31), (.invokevirtual 475, 3, 269, 1)] := by decide +kernel
theorem mc_272 : mm_MC mm_ct mm_CM mm_cl mm_WS mm_NW me_272 := mm_MC_of rfl rfl ck_272 (by rw [sf_272]; exact List.forall_mem_cons.mpr ⟨sq_516, List.forall_mem_cons.mpr ⟨sq_535, fun _ h => nomatch h⟩⟩)
theorem mo_272 : mm_MO mm_ct mm_CM mm_cl mm_WS mm_NW me_272 := ⟨by decide, kw_1087, kw_653, by decide, by decide +kernel, mc_272⟩
theorem sq_536 : mm_Pq mm_ct mm_CM mm_cl mm_WS mm_NW "SelfSortingModel" "" (.getfield 73, 3, 8, 39) := ⟨(RX8, TX8, 43), rfl, by decide, by decide, kw_646⟩
theorem sq_537 : mm_Pq mm_ct mm_CM mm_cl mm_WS mm_NW "SelfSortingModel" "" (.invokevirtual 478, 3, 272, 1) := ⟨kw_1089, kw_1090, kw_1088, _, _, rfl⟩
set_option maxRecDepth 100000 in
theorem ck_273 : mm_cks cX8_bestOf 0 cd_273 = true := by decide +kernel
set_option maxRecDepth 100000 in
theorem sf_273 : mm_spf cd_273 = [(.getfield 73, 3, 8, 39), (.invokevirtual 478, 3, 272, 1), (.getfield 412, 3, 8, 34), (.getfield 73, 3, 8, 39), (.invokevirtual 478, 3, 272, 1)] := by decide +kernel
theorem mc_273 : mm_MC mm_ct mm_CM mm_cl mm_WS mm_NW me_273 := mm_MC_of rfl rfl ck_273 (by rw [sf_273]; exact List.forall_mem_cons.mpr ⟨sq_536, List.forall_mem_cons.mpr ⟨sq_537, List.forall_mem_cons.mpr ⟨sq_505, List.forall_mem_cons.mpr ⟨sq_536, List.forall_mem_cons.mpr ⟨sq_537, fun _ h => nomatch h⟩⟩⟩⟩⟩)
theorem mo_273 : mm_MO mm_ct mm_CM mm_cl mm_WS mm_NW me_273 := ⟨by decide, kw_1091, kw_653, by decide, by decide +kernel, mc_273⟩
theorem sq_538 : mm_Pq mm_ct mm_CM mm_cl mm_WS mm_NW "SelfSortingModel" "" (.getfield 76, 3, 8, 40) := ⟨(RX8, TX8, 43), rfl, by decide, by decide, kw_647⟩
theorem sq_539 : mm_Pq mm_ct mm_CM mm_cl mm_WS mm_NW "SelfSortingModel" "" (.invokevirtual 481, 3, 273, 1) := ⟨kw_1093, kw_1094, kw_1092, _, _, rfl⟩
set_option maxRecDepth 100000 in
theorem ck_274 : mm_cks cX8_game 0 cd_274 = true := by decide +kernel
set_option maxRecDepth 100000 in
theorem sf_274 : mm_spf cd_274 = [(.invokestatic 310, 3, 152, 0), (.getfield 7, 3, 8, 0), (.invokestatic 89, 3, 148, 0), (.invokevirtual 466, 3, 270, 1), (.invokestatic 89, 3, 148, 0), (.invokevirtual 469, 3, 267, 1), (.getfield 418, 3, 8, 35), (.getfield 412, 3, 8, 34), (.invokevirtual 472, 3, 268, 1), (.getfield 73, 3, 8, 39), (.getfield 418, 3, 8, 35), (.getfield 76, 3, 8, 40), (.getfield 7, 3, 8, 0), (.invokevirtual 481, 3, 273, 1), (.getfield 418, 3, 8, 35), (.getfield 73, 3, 8, 39), (.getfield 76, 3, 8, 40), (.getfield 7, 3, 8, 0), (.invokevirtual 481, 3, 273, 1), (.getfield 73, 3, 8, 39), (.invokevirtual 478, 3, 272, 1)] := by decide +kernel
theorem mc_274 : mm_MC mm_ct mm_CM mm_cl mm_WS mm_NW me_274 := mm_MC_of rfl rfl ck_274 (by rw [sf_274]; exact List.forall_mem_cons.mpr ⟨sq_467, List.forall_mem_cons.mpr ⟨sq_375, List.forall_mem_cons.mpr ⟨sq_378, List.forall_mem_cons.mpr ⟨sq_530, List.forall_mem_cons.mpr ⟨sq_378, List.forall_mem_cons.mpr ⟨sq_531, List.forall_mem_cons.mpr ⟨sq_511, List.forall_mem_cons.mpr ⟨sq_505, List.forall_mem_cons.mpr ⟨sq_534, List.forall_mem_cons.mpr ⟨sq_536, List.forall_mem_cons.mpr ⟨sq_511, List.forall_mem_cons.mpr ⟨sq_538, List.forall_mem_cons.mpr ⟨sq_375, List.forall_mem_cons.mpr ⟨sq_539, List.forall_mem_cons.mpr ⟨sq_511, List.forall_mem_cons.mpr ⟨sq_536, List.forall_mem_cons.mpr ⟨sq_538, List.forall_mem_cons.mpr ⟨sq_375, List.forall_mem_cons.mpr ⟨sq_539, List.forall_mem_cons.mpr ⟨sq_536, List.forall_mem_cons.mpr ⟨sq_537, fun _ h => nomatch h⟩⟩⟩⟩⟩⟩⟩⟩⟩⟩⟩⟩⟩⟩⟩⟩⟩⟩⟩⟩⟩)
theorem mo_274 : mm_MO mm_ct mm_CM mm_cl mm_WS mm_NW me_274 := ⟨by decide, kw_1095, kw_653, by decide, by decide +kernel, mc_274⟩
theorem sq_540 : mm_Pq mm_ct mm_CM mm_cl mm_WS mm_NW "SelfSortingModel" "" (.getfield 79, 3, 8, 41) := ⟨(RX8, TX8, 43), rfl, by decide, by decide, kw_648⟩
set_option maxRecDepth 100000 in
theorem ck_275 : mm_cks cX8_catalogue 0 cd_275 = true := by decide +kernel
set_option maxRecDepth 100000 in
theorem sf_275 : mm_spf cd_275 = [(.invokevirtual 382, 3, 156, 1), (.invokestatic 89, 3, 148, 0), (.invokevirtual 97, 3, 153, 1), (.getfield 7, 3, 8, 0), (.invokestatic 89, 3, 148, 0), (.invokevirtual 400, 3, 240, 1), (.getfield 79, 3, 8, 41), (.getfield 388, 3, 8, 28), (.getfield 79, 3, 8, 41), (.getfield 46, 3, 8, 27), (.getfield 7, 3, 8, 0), (.invokevirtual 397, 3, 243, 1), (.getfield 79, 3, 8, 41), (.getfield 79, 3, 8, 41), (.getfield 388, 3, 8, 28), (.getfield 79, 3, 8, 41), (.getfield 79, 3, 8, 41), (.getfield 79, 3, 8, 41)] := by decide +kernel
theorem mc_275 : mm_MC mm_ct mm_CM mm_cl mm_WS mm_NW me_275 := mm_MC_of rfl rfl ck_275 (by rw [sf_275]; exact List.forall_mem_cons.mpr ⟨sq_491, List.forall_mem_cons.mpr ⟨sq_378, List.forall_mem_cons.mpr ⟨sq_380, List.forall_mem_cons.mpr ⟨sq_375, List.forall_mem_cons.mpr ⟨sq_378, List.forall_mem_cons.mpr ⟨sq_500, List.forall_mem_cons.mpr ⟨sq_540, List.forall_mem_cons.mpr ⟨sq_496, List.forall_mem_cons.mpr ⟨sq_540, List.forall_mem_cons.mpr ⟨sq_495, List.forall_mem_cons.mpr ⟨sq_375, List.forall_mem_cons.mpr ⟨sq_499, List.forall_mem_cons.mpr ⟨sq_540, List.forall_mem_cons.mpr ⟨sq_540, List.forall_mem_cons.mpr ⟨sq_496, List.forall_mem_cons.mpr ⟨sq_540, List.forall_mem_cons.mpr ⟨sq_540, List.forall_mem_cons.mpr ⟨sq_540, fun _ h => nomatch h⟩⟩⟩⟩⟩⟩⟩⟩⟩⟩⟩⟩⟩⟩⟩⟩⟩⟩)
theorem mo_275 : mm_MO mm_ct mm_CM mm_cl mm_WS mm_NW me_275 := ⟨by decide, kw_1096, kw_653, by decide, by decide +kernel, mc_275⟩
theorem sq_541 : mm_Pq mm_ct mm_CM mm_cl mm_WS mm_NW "SelfSortingModel" "" (.getfield 82, 3, 8, 42) := ⟨(RX8, TX8, 43), rfl, by decide, by decide, kw_649⟩
set_option maxRecDepth 100000 in
theorem ck_276 : mm_cks cX8_costOf 0 cd_276 = true := by decide +kernel
set_option maxRecDepth 100000 in
theorem sf_276 : mm_spf cd_276 = [(.invokevirtual 97, 3, 153, 1), (.invokevirtual 400, 3, 240, 1), (.invokevirtual 403, 3, 244, 1), (.getfield 388, 3, 8, 28), (.getfield 82, 3, 8, 42), (.getfield 46, 3, 8, 27), (.invokevirtual 400, 3, 240, 1), (.invokevirtual 403, 3, 244, 1), (.getfield 388, 3, 8, 28), (.getfield 46, 3, 8, 27), (.getfield 46, 3, 8, 27), (.getfield 82, 3, 8, 42)] := by decide +kernel
theorem mc_276 : mm_MC mm_ct mm_CM mm_cl mm_WS mm_NW me_276 := mm_MC_of rfl rfl ck_276 (by rw [sf_276]; exact List.forall_mem_cons.mpr ⟨sq_380, List.forall_mem_cons.mpr ⟨sq_500, List.forall_mem_cons.mpr ⟨sq_501, List.forall_mem_cons.mpr ⟨sq_496, List.forall_mem_cons.mpr ⟨sq_541, List.forall_mem_cons.mpr ⟨sq_495, List.forall_mem_cons.mpr ⟨sq_500, List.forall_mem_cons.mpr ⟨sq_501, List.forall_mem_cons.mpr ⟨sq_496, List.forall_mem_cons.mpr ⟨sq_495, List.forall_mem_cons.mpr ⟨sq_495, List.forall_mem_cons.mpr ⟨sq_541, fun _ h => nomatch h⟩⟩⟩⟩⟩⟩⟩⟩⟩⟩⟩⟩)
theorem mo_276 : mm_MO mm_ct mm_CM mm_cl mm_WS mm_NW me_276 := ⟨by decide, kw_1097, kw_653, by decide, by decide +kernel, mc_276⟩
theorem sq_542 : mm_Pq mm_ct mm_CM mm_cl mm_WS mm_NW "SelfSortingModel" "" (.invokevirtual 485, 3, 276, 1) := ⟨kw_1099, kw_1100, kw_1098, _, _, rfl⟩
set_option maxRecDepth 100000 in
theorem ck_277 : mm_cks cX8_theft 0 cd_277 = true := by decide +kernel
set_option maxRecDepth 100000 in
theorem sf_277 : mm_spf cd_277 = [(.invokevirtual 382, 3, 156, 1), (.invokevirtual 485, 3, 276, 1)] := by decide +kernel
theorem mc_277 : mm_MC mm_ct mm_CM mm_cl mm_WS mm_NW me_277 := mm_MC_of rfl rfl ck_277 (by rw [sf_277]; exact List.forall_mem_cons.mpr ⟨sq_491, List.forall_mem_cons.mpr ⟨sq_542, fun _ h => nomatch h⟩⟩)
theorem mo_277 : mm_MO mm_ct mm_CM mm_cl mm_WS mm_NW me_277 := ⟨by decide, kw_1101, kw_653, by decide, by decide +kernel, mc_277⟩
theorem sq_543 : mm_Pq mm_ct mm_CM mm_cl mm_WS mm_NW "SelfSortingModel" "" (.ldc_w 488, 3, 1000000, 0) := ⟨rfl, kw_1102⟩
set_option maxRecDepth 100000 in
theorem ck_278 : mm_cks cX8_cheapest 0 cd_278 = true := by decide +kernel
set_option maxRecDepth 100000 in
theorem sf_278 : mm_spf cd_278 = [(.invokestatic 310, 3, 152, 0), (.ldc_w 488, 3, 1000000, 0), (.getfield 7, 3, 8, 0), (.invokevirtual 97, 3, 153, 1), (.invokevirtual 485, 3, 276, 1)] := by decide +kernel
theorem mc_278 : mm_MC mm_ct mm_CM mm_cl mm_WS mm_NW me_278 := mm_MC_of rfl rfl ck_278 (by rw [sf_278]; exact List.forall_mem_cons.mpr ⟨sq_467, List.forall_mem_cons.mpr ⟨sq_543, List.forall_mem_cons.mpr ⟨sq_375, List.forall_mem_cons.mpr ⟨sq_380, List.forall_mem_cons.mpr ⟨sq_542, fun _ h => nomatch h⟩⟩⟩⟩⟩)
theorem mo_278 : mm_MO mm_ct mm_CM mm_cl mm_WS mm_NW me_278 := ⟨by decide, kw_1103, kw_653, by decide, by decide +kernel, mc_278⟩
set_option maxRecDepth 100000 in
theorem ck_279 : mm_cks cX8_dust 0 cd_279 = true := by decide +kernel
set_option maxRecDepth 100000 in
theorem sf_279 : mm_spf cd_279 = [(.getfield 7, 3, 8, 0), (.invokevirtual 93, 3, 151, 1), (.invokevirtual 93, 3, 151, 1), (.getfield 7, 3, 8, 0), (.getfield 7, 3, 8, 0), (.getfield 7, 3, 8, 0), (.getfield 7, 3, 8, 0), (.getfield 7, 3, 8, 0), (.getfield 7, 3, 8, 0), (.getfield 7, 3, 8, 0), (.getfield 7, 3, 8, 0)] := by decide +kernel
theorem mc_279 : mm_MC mm_ct mm_CM mm_cl mm_WS mm_NW me_279 := mm_MC_of rfl rfl ck_279 (by rw [sf_279]; exact List.forall_mem_cons.mpr ⟨sq_375, List.forall_mem_cons.mpr ⟨sq_379, List.forall_mem_cons.mpr ⟨sq_379, List.forall_mem_cons.mpr ⟨sq_375, List.forall_mem_cons.mpr ⟨sq_375, List.forall_mem_cons.mpr ⟨sq_375, List.forall_mem_cons.mpr ⟨sq_375, List.forall_mem_cons.mpr ⟨sq_375, List.forall_mem_cons.mpr ⟨sq_375, List.forall_mem_cons.mpr ⟨sq_375, List.forall_mem_cons.mpr ⟨sq_375, fun _ h => nomatch h⟩⟩⟩⟩⟩⟩⟩⟩⟩⟩⟩)
theorem mo_279 : mm_MO mm_ct mm_CM mm_cl mm_WS mm_NW me_279 := ⟨by decide, kw_1104, kw_653, by decide, by decide +kernel, mc_279⟩
set_option maxRecDepth 100000 in
theorem ck_280 : mm_cks cX8_isFit 0 cd_280 = true := by decide +kernel
set_option maxRecDepth 100000 in
theorem sf_280 : mm_spf cd_280 = [(.getfield 7, 3, 8, 0), (.getfield 7, 3, 8, 0), (.getfield 7, 3, 8, 0), (.getfield 7, 3, 8, 0), (.invokevirtual 299, 3, 209, 1), (.getfield 7, 3, 8, 0)] := by decide +kernel
theorem mc_280 : mm_MC mm_ct mm_CM mm_cl mm_WS mm_NW me_280 := mm_MC_of rfl rfl ck_280 (by rw [sf_280]; exact List.forall_mem_cons.mpr ⟨sq_375, List.forall_mem_cons.mpr ⟨sq_375, List.forall_mem_cons.mpr ⟨sq_375, List.forall_mem_cons.mpr ⟨sq_375, List.forall_mem_cons.mpr ⟨sq_464, List.forall_mem_cons.mpr ⟨sq_375, fun _ h => nomatch h⟩⟩⟩⟩⟩⟩)
theorem mo_280 : mm_MO mm_ct mm_CM mm_cl mm_WS mm_NW me_280 := ⟨by decide, kw_1105, kw_653, by decide, by decide +kernel, mc_280⟩
theorem sq_544 : mm_Pq mm_ct mm_CM mm_cl mm_WS mm_NW "SelfSortingModel" "" (.invokevirtual 489, 3, 280, 1) := ⟨kw_1107, kw_1108, kw_1106, _, _, rfl⟩
set_option maxRecDepth 100000 in
theorem ck_281 : mm_cks cX8_lawsOf 0 cd_281 = true := by decide +kernel
set_option maxRecDepth 100000 in
theorem sf_281 : mm_spf cd_281 = [(.invokevirtual 489, 3, 280, 1)] := by decide +kernel
theorem mc_281 : mm_MC mm_ct mm_CM mm_cl mm_WS mm_NW me_281 := mm_MC_of rfl rfl ck_281 (by rw [sf_281]; exact List.forall_mem_cons.mpr ⟨sq_544, fun _ h => nomatch h⟩)
theorem mo_281 : mm_MO mm_ct mm_CM mm_cl mm_WS mm_NW me_281 := ⟨by decide, kw_1109, kw_653, by decide, by decide +kernel, mc_281⟩
theorem sq_545 : mm_Pq mm_ct mm_CM mm_cl mm_WS mm_NW "SelfSortingModel" "" (.invokevirtual 492, 3, 281, 1) := ⟨kw_1111, kw_1112, kw_1110, _, _, rfl⟩
set_option maxRecDepth 100000 in
theorem ck_282 : mm_cks cX8_laws 0 cd_282 = true := by decide +kernel
set_option maxRecDepth 100000 in
theorem sf_282 : mm_spf cd_282 = [(.invokevirtual 93, 3, 151, 1), (.invokevirtual 492, 3, 281, 1)] := by decide +kernel
theorem mc_282 : mm_MC mm_ct mm_CM mm_cl mm_WS mm_NW me_282 := mm_MC_of rfl rfl ck_282 (by rw [sf_282]; exact List.forall_mem_cons.mpr ⟨sq_379, List.forall_mem_cons.mpr ⟨sq_545, fun _ h => nomatch h⟩⟩)
theorem mo_282 : mm_MO mm_ct mm_CM mm_cl mm_WS mm_NW me_282 := ⟨by decide, kw_1113, kw_653, by decide, by decide +kernel, mc_282⟩
set_option maxRecDepth 100000 in
theorem ck_283 : mm_cks cX8_tells 0 cd_283 = true := by decide +kernel
set_option maxRecDepth 100000 in
theorem sf_283 : mm_spf cd_283 = [(.invokevirtual 93, 3, 151, 1), (.invokevirtual 492, 3, 281, 1), (.ldc_w 488, 3, 1000000, 0), (.getfield 7, 3, 8, 0), (.invokestatic 421, 3, 149, 0), (.invokevirtual 299, 3, 209, 1), (.invokestatic 442, 3, 150, 0), (.invokestatic 442, 3, 150, 0)] := by decide +kernel
theorem mc_283 : mm_MC mm_ct mm_CM mm_cl mm_WS mm_NW me_283 := mm_MC_of rfl rfl ck_283 (by rw [sf_283]; exact List.forall_mem_cons.mpr ⟨sq_379, List.forall_mem_cons.mpr ⟨sq_545, List.forall_mem_cons.mpr ⟨sq_543, List.forall_mem_cons.mpr ⟨sq_375, List.forall_mem_cons.mpr ⟨sq_512, List.forall_mem_cons.mpr ⟨sq_464, List.forall_mem_cons.mpr ⟨sq_522, List.forall_mem_cons.mpr ⟨sq_522, fun _ h => nomatch h⟩⟩⟩⟩⟩⟩⟩⟩)
theorem mo_283 : mm_MO mm_ct mm_CM mm_cl mm_WS mm_NW me_283 := ⟨by decide, kw_1114, kw_653, by decide, by decide +kernel, mc_283⟩
set_option maxRecDepth 100000 in
theorem ck_284 : mm_cks cX8_fits 0 cd_284 = true := by decide +kernel
set_option maxRecDepth 100000 in
theorem sf_284 : mm_spf cd_284 = [(.invokestatic 310, 3, 152, 0), (.getfield 7, 3, 8, 0), (.invokevirtual 313, 3, 208, 1), (.getfield 7, 3, 8, 0), (.getfield 7, 3, 8, 0), (.invokestatic 421, 3, 149, 0), (.invokevirtual 97, 3, 153, 1), (.invokevirtual 296, 3, 207, 1), (.ldc_w 488, 3, 1000000, 0), (.invokestatic 442, 3, 150, 0), (.invokestatic 442, 3, 150, 0), (.invokestatic 442, 3, 150, 0), (.invokestatic 442, 3, 150, 0)] := by decide +kernel
theorem mc_284 : mm_MC mm_ct mm_CM mm_cl mm_WS mm_NW me_284 := mm_MC_of rfl rfl ck_284 (by rw [sf_284]; exact List.forall_mem_cons.mpr ⟨sq_467, List.forall_mem_cons.mpr ⟨sq_375, List.forall_mem_cons.mpr ⟨sq_468, List.forall_mem_cons.mpr ⟨sq_375, List.forall_mem_cons.mpr ⟨sq_375, List.forall_mem_cons.mpr ⟨sq_512, List.forall_mem_cons.mpr ⟨sq_380, List.forall_mem_cons.mpr ⟨sq_463, List.forall_mem_cons.mpr ⟨sq_543, List.forall_mem_cons.mpr ⟨sq_522, List.forall_mem_cons.mpr ⟨sq_522, List.forall_mem_cons.mpr ⟨sq_522, List.forall_mem_cons.mpr ⟨sq_522, fun _ h => nomatch h⟩⟩⟩⟩⟩⟩⟩⟩⟩⟩⟩⟩⟩)
theorem mo_284 : mm_MO mm_ct mm_CM mm_cl mm_WS mm_NW me_284 := ⟨by decide, kw_1115, kw_653, by decide, by decide +kernel, mc_284⟩
set_option maxRecDepth 100000 in
theorem ck_285 : mm_cks cX8_image 0 cd_285 = true := by decide +kernel
set_option maxRecDepth 100000 in
theorem sf_285 : mm_spf cd_285 = [(.getfield 7, 3, 8, 0), (.getfield 13, 3, 8, 1), (.invokestatic 85, 3, 147, 0), (.getfield 7, 3, 8, 0)] := by decide +kernel
theorem mc_285 : mm_MC mm_ct mm_CM mm_cl mm_WS mm_NW me_285 := mm_MC_of rfl rfl ck_285 (by rw [sf_285]; exact List.forall_mem_cons.mpr ⟨sq_375, List.forall_mem_cons.mpr ⟨sq_376, List.forall_mem_cons.mpr ⟨sq_377, List.forall_mem_cons.mpr ⟨sq_375, fun _ h => nomatch h⟩⟩⟩⟩)
theorem mo_285 : mm_MO mm_ct mm_CM mm_cl mm_WS mm_NW me_285 := ⟨by decide, kw_1116, kw_653, by decide, by decide +kernel, mc_285⟩
set_option maxRecDepth 100000 in
theorem ck_286 : mm_cks cX8_back 0 cd_286 = true := by decide +kernel
set_option maxRecDepth 100000 in
theorem sf_286 : mm_spf cd_286 = [(.getfield 13, 3, 8, 1), (.getfield 7, 3, 8, 0), (.invokestatic 85, 3, 147, 0), (.getfield 7, 3, 8, 0)] := by decide +kernel
theorem mc_286 : mm_MC mm_ct mm_CM mm_cl mm_WS mm_NW me_286 := mm_MC_of rfl rfl ck_286 (by rw [sf_286]; exact List.forall_mem_cons.mpr ⟨sq_376, List.forall_mem_cons.mpr ⟨sq_375, List.forall_mem_cons.mpr ⟨sq_377, List.forall_mem_cons.mpr ⟨sq_375, fun _ h => nomatch h⟩⟩⟩⟩)
theorem mo_286 : mm_MO mm_ct mm_CM mm_cl mm_WS mm_NW me_286 := ⟨by decide, kw_1117, kw_653, by decide, by decide +kernel, mc_286⟩
set_option maxRecDepth 100000 in
theorem ck_287 : mm_cks cX8_about 0 cd_287 = true := by decide +kernel
set_option maxRecDepth 100000 in
theorem sf_287 : mm_spf cd_287 = [(.getfield 7, 3, 8, 0), (.invokevirtual 97, 3, 153, 1), (.invokestatic 89, 3, 148, 0), (.getfield 7, 3, 8, 0), (.getfield 108, 3, 8, 4)] := by decide +kernel
theorem mc_287 : mm_MC mm_ct mm_CM mm_cl mm_WS mm_NW me_287 := mm_MC_of rfl rfl ck_287 (by rw [sf_287]; exact List.forall_mem_cons.mpr ⟨sq_375, List.forall_mem_cons.mpr ⟨sq_380, List.forall_mem_cons.mpr ⟨sq_378, List.forall_mem_cons.mpr ⟨sq_375, List.forall_mem_cons.mpr ⟨sq_384, fun _ h => nomatch h⟩⟩⟩⟩⟩)
theorem mo_287 : mm_MO mm_ct mm_CM mm_cl mm_WS mm_NW me_287 := ⟨by decide, kw_1118, kw_653, by decide, by decide +kernel, mc_287⟩
theorem sq_546 : mm_Pq mm_ct mm_CM mm_cl mm_WS mm_NW "java/lang/Integer" "" (.ldc_w 265, 3, 1431655765, 0) := ⟨rfl, kw_1119⟩
theorem sq_547 : mm_Pq mm_ct mm_CM mm_cl mm_WS mm_NW "java/lang/Integer" "" (.ldc_w 266, 3, 858993459, 0) := ⟨rfl, kw_1120⟩
theorem sq_548 : mm_Pq mm_ct mm_CM mm_cl mm_WS mm_NW "java/lang/Integer" "" (.ldc_w 267, 3, 252645135, 0) := ⟨rfl, kw_1121⟩
set_option maxRecDepth 100000 in
theorem ck_288 : mm_cks cJ6_bitCount_0f7a4 0 cd_288 = true := by decide +kernel
set_option maxRecDepth 100000 in
theorem sf_288 : mm_spf cd_288 = [(.ldc_w 265, 3, 1431655765, 0), (.ldc_w 266, 3, 858993459, 0), (.ldc_w 266, 3, 858993459, 0), (.ldc_w 267, 3, 252645135, 0)] := by decide +kernel
theorem mc_288 : mm_MC mm_ct mm_CM mm_cl mm_WS mm_NW me_288 := mm_MC_of rfl rfl ck_288 (by rw [sf_288]; exact List.forall_mem_cons.mpr ⟨sq_546, List.forall_mem_cons.mpr ⟨sq_547, List.forall_mem_cons.mpr ⟨sq_547, List.forall_mem_cons.mpr ⟨sq_548, fun _ h => nomatch h⟩⟩⟩⟩)
theorem mo_288 : mm_MO mm_ct mm_CM mm_cl mm_WS mm_NW me_288 := ⟨by decide, kw_1122, kw_1123, by decide, by decide +kernel, mc_288⟩
theorem sq_549 : mm_Pq mm_ct mm_CM mm_cl mm_WS mm_NW "SelfSortingLaw" "" (.new 7, 3, 7, 8) := ⟨(RX7, TX7, 8), rfl, by decide, rfl, kw_1124, kw_1125, kw_374⟩
theorem sq_550 : mm_Pq mm_ct mm_CM mm_cl mm_WS mm_NW "SelfSortingLaw" "" (.invokespecial 9, 3, 84, 2) := ⟨rfl, rfl, kw_1127, Or.inl kw_1126⟩
theorem sq_551 : mm_Pq mm_ct mm_CM mm_cl mm_WS mm_NW "SelfSortingLaw" "" (.new 10, 3, 8, 43) := ⟨(RX8, TX8, 43), rfl, by decide, rfl, kw_1128, kw_1129, kw_653⟩
theorem sq_552 : mm_Pq mm_ct mm_CM mm_cl mm_WS mm_NW "SelfSortingLaw" "" (.invokespecial 12, 3, 146, 2) := ⟨rfl, rfl, kw_1131, Or.inl kw_1130⟩
theorem sq_553 : mm_Pq mm_ct mm_CM mm_cl mm_WS mm_NW "SelfSortingLaw" "" (.invokevirtual 13, 3, 85, 1) := ⟨kw_1133, kw_1134, kw_1132, _, _, rfl⟩
theorem sq_554 : mm_Pq mm_ct mm_CM mm_cl mm_WS mm_NW "SelfSortingLaw" "" (.invokevirtual 17, 3, 213, 1) := ⟨kw_1136, kw_1137, kw_1135, _, _, rfl⟩
theorem sq_555 : mm_Pq mm_ct mm_CM mm_cl mm_WS mm_NW "SelfSortingLaw" "" (.invokevirtual 18, 3, 86, 1) := ⟨kw_1139, kw_1140, kw_1138, _, _, rfl⟩
theorem sq_556 : mm_Pq mm_ct mm_CM mm_cl mm_WS mm_NW "SelfSortingLaw" "" (.invokevirtual 22, 3, 158, 1) := ⟨kw_1142, kw_1143, kw_1141, _, _, rfl⟩
theorem sq_557 : mm_Pq mm_ct mm_CM mm_cl mm_WS mm_NW "SelfSortingLaw" "" (.invokevirtual 23, 3, 87, 1) := ⟨kw_1145, kw_1146, kw_1144, _, _, rfl⟩
theorem sq_558 : mm_Pq mm_ct mm_CM mm_cl mm_WS mm_NW "SelfSortingLaw" "" (.invokevirtual 27, 3, 159, 1) := ⟨kw_1148, kw_1149, kw_1147, _, _, rfl⟩
theorem sq_559 : mm_Pq mm_ct mm_CM mm_cl mm_WS mm_NW "SelfSortingLaw" "" (.invokevirtual 28, 3, 88, 1) := ⟨kw_1151, kw_1152, kw_1150, _, _, rfl⟩
theorem sq_560 : mm_Pq mm_ct mm_CM mm_cl mm_WS mm_NW "SelfSortingLaw" "" (.invokevirtual 31, 3, 161, 1) := ⟨kw_1154, kw_1155, kw_1153, _, _, rfl⟩
theorem sq_561 : mm_Pq mm_ct mm_CM mm_cl mm_WS mm_NW "SelfSortingLaw" "" (.invokevirtual 32, 3, 89, 1) := ⟨kw_1157, kw_1158, kw_1156, _, _, rfl⟩
theorem sq_562 : mm_Pq mm_ct mm_CM mm_cl mm_WS mm_NW "SelfSortingLaw" "" (.invokevirtual 36, 3, 162, 1) := ⟨kw_1160, kw_1161, kw_1159, _, _, rfl⟩
theorem sq_563 : mm_Pq mm_ct mm_CM mm_cl mm_WS mm_NW "SelfSortingLaw" "" (.invokevirtual 37, 3, 90, 1) := ⟨kw_1163, kw_1164, kw_1162, _, _, rfl⟩
theorem sq_564 : mm_Pq mm_ct mm_CM mm_cl mm_WS mm_NW "SelfSortingLaw" "" (.invokevirtual 41, 3, 197, 1) := ⟨kw_1166, kw_1167, kw_1165, _, _, rfl⟩
theorem sq_565 : mm_Pq mm_ct mm_CM mm_cl mm_WS mm_NW "SelfSortingLaw" "" (.invokevirtual 42, 3, 91, 1) := ⟨kw_1169, kw_1170, kw_1168, _, _, rfl⟩
theorem sq_566 : mm_Pq mm_ct mm_CM mm_cl mm_WS mm_NW "SelfSortingLaw" "" (.invokevirtual 45, 3, 198, 1) := ⟨kw_1172, kw_1173, kw_1171, _, _, rfl⟩
theorem sq_567 : mm_Pq mm_ct mm_CM mm_cl mm_WS mm_NW "SelfSortingLaw" "" (.invokevirtual 46, 3, 92, 1) := ⟨kw_1175, kw_1176, kw_1174, _, _, rfl⟩
theorem sq_568 : mm_Pq mm_ct mm_CM mm_cl mm_WS mm_NW "SelfSortingLaw" "" (.invokevirtual 49, 3, 199, 1) := ⟨kw_1178, kw_1179, kw_1177, _, _, rfl⟩
theorem sq_569 : mm_Pq mm_ct mm_CM mm_cl mm_WS mm_NW "SelfSortingLaw" "" (.invokevirtual 50, 3, 93, 1) := ⟨kw_451, kw_452, kw_1180, _, _, rfl⟩
theorem sq_570 : mm_Pq mm_ct mm_CM mm_cl mm_WS mm_NW "SelfSortingLaw" "" (.invokevirtual 53, 3, 226, 1) := ⟨kw_942, kw_943, kw_1181, _, _, rfl⟩
theorem sq_571 : mm_Pq mm_ct mm_CM mm_cl mm_WS mm_NW "SelfSortingLaw" "" (.invokevirtual 54, 3, 94, 1) := ⟨kw_454, kw_455, kw_1182, _, _, rfl⟩
theorem sq_572 : mm_Pq mm_ct mm_CM mm_cl mm_WS mm_NW "SelfSortingLaw" "" (.invokevirtual 58, 3, 227, 1) := ⟨kw_945, kw_946, kw_1183, _, _, rfl⟩
theorem sq_573 : mm_Pq mm_ct mm_CM mm_cl mm_WS mm_NW "SelfSortingLaw" "" (.invokevirtual 59, 3, 95, 1) := ⟨kw_457, kw_458, kw_1184, _, _, rfl⟩
theorem sq_574 : mm_Pq mm_ct mm_CM mm_cl mm_WS mm_NW "SelfSortingLaw" "" (.invokevirtual 62, 3, 228, 1) := ⟨kw_948, kw_949, kw_1185, _, _, rfl⟩
theorem sq_575 : mm_Pq mm_ct mm_CM mm_cl mm_WS mm_NW "SelfSortingLaw" "" (.invokevirtual 63, 3, 96, 1) := ⟨kw_460, kw_461, kw_1186, _, _, rfl⟩
theorem sq_576 : mm_Pq mm_ct mm_CM mm_cl mm_WS mm_NW "SelfSortingLaw" "" (.invokevirtual 67, 3, 229, 1) := ⟨kw_951, kw_952, kw_1187, _, _, rfl⟩
theorem sq_577 : mm_Pq mm_ct mm_CM mm_cl mm_WS mm_NW "SelfSortingLaw" "" (.invokevirtual 68, 3, 97, 1) := ⟨kw_463, kw_464, kw_1188, _, _, rfl⟩
theorem sq_578 : mm_Pq mm_ct mm_CM mm_cl mm_WS mm_NW "SelfSortingLaw" "" (.invokevirtual 72, 3, 230, 1) := ⟨kw_954, kw_955, kw_1189, _, _, rfl⟩
theorem sq_579 : mm_Pq mm_ct mm_CM mm_cl mm_WS mm_NW "SelfSortingLaw" "" (.invokevirtual 73, 3, 98, 1) := ⟨kw_1191, kw_1192, kw_1190, _, _, rfl⟩
theorem sq_580 : mm_Pq mm_ct mm_CM mm_cl mm_WS mm_NW "SelfSortingLaw" "" (.invokevirtual 76, 3, 232, 1) := ⟨kw_1194, kw_1195, kw_1193, _, _, rfl⟩
theorem sq_581 : mm_Pq mm_ct mm_CM mm_cl mm_WS mm_NW "SelfSortingLaw" "" (.invokevirtual 77, 3, 99, 1) := ⟨kw_1197, kw_1198, kw_1196, _, _, rfl⟩
theorem sq_582 : mm_Pq mm_ct mm_CM mm_cl mm_WS mm_NW "SelfSortingLaw" "" (.invokevirtual 80, 3, 234, 1) := ⟨kw_1200, kw_1201, kw_1199, _, _, rfl⟩
theorem sq_583 : mm_Pq mm_ct mm_CM mm_cl mm_WS mm_NW "SelfSortingLaw" "" (.invokevirtual 81, 3, 100, 1) := ⟨kw_1203, kw_1204, kw_1202, _, _, rfl⟩
theorem sq_584 : mm_Pq mm_ct mm_CM mm_cl mm_WS mm_NW "SelfSortingLaw" "" (.invokevirtual 84, 3, 215, 1) := ⟨kw_1206, kw_1207, kw_1205, _, _, rfl⟩
theorem sq_585 : mm_Pq mm_ct mm_CM mm_cl mm_WS mm_NW "SelfSortingLaw" "" (.invokevirtual 85, 3, 101, 1) := ⟨kw_1209, kw_1210, kw_1208, _, _, rfl⟩
theorem sq_586 : mm_Pq mm_ct mm_CM mm_cl mm_WS mm_NW "SelfSortingLaw" "" (.invokevirtual 88, 3, 235, 1) := ⟨kw_1212, kw_1213, kw_1211, _, _, rfl⟩
theorem sq_587 : mm_Pq mm_ct mm_CM mm_cl mm_WS mm_NW "SelfSortingLaw" "" (.invokevirtual 89, 3, 102, 1) := ⟨kw_1215, kw_1216, kw_1214, _, _, rfl⟩
theorem sq_588 : mm_Pq mm_ct mm_CM mm_cl mm_WS mm_NW "SelfSortingLaw" "" (.invokevirtual 92, 3, 236, 1) := ⟨kw_1218, kw_1219, kw_1217, _, _, rfl⟩
theorem sq_589 : mm_Pq mm_ct mm_CM mm_cl mm_WS mm_NW "SelfSortingLaw" "" (.invokevirtual 93, 3, 103, 1) := ⟨kw_1221, kw_1222, kw_1220, _, _, rfl⟩
theorem sq_590 : mm_Pq mm_ct mm_CM mm_cl mm_WS mm_NW "SelfSortingLaw" "" (.invokevirtual 96, 3, 237, 1) := ⟨kw_1224, kw_1225, kw_1223, _, _, rfl⟩
theorem sq_591 : mm_Pq mm_ct mm_CM mm_cl mm_WS mm_NW "SelfSortingLaw" "" (.invokevirtual 97, 3, 104, 1) := ⟨kw_1227, kw_1228, kw_1226, _, _, rfl⟩
theorem sq_592 : mm_Pq mm_ct mm_CM mm_cl mm_WS mm_NW "SelfSortingLaw" "" (.invokevirtual 101, 3, 212, 1) := ⟨kw_1230, kw_1231, kw_1229, _, _, rfl⟩
theorem sq_593 : mm_Pq mm_ct mm_CM mm_cl mm_WS mm_NW "SelfSortingLaw" "" (.invokevirtual 102, 3, 105, 1) := ⟨kw_1233, kw_1234, kw_1232, _, _, rfl⟩
theorem sq_594 : mm_Pq mm_ct mm_CM mm_cl mm_WS mm_NW "SelfSortingLaw" "" (.invokevirtual 105, 3, 238, 1) := ⟨kw_1236, kw_1237, kw_1235, _, _, rfl⟩
theorem sq_595 : mm_Pq mm_ct mm_CM mm_cl mm_WS mm_NW "SelfSortingLaw" "" (.invokevirtual 106, 3, 106, 1) := ⟨kw_1239, kw_1240, kw_1238, _, _, rfl⟩
theorem sq_596 : mm_Pq mm_ct mm_CM mm_cl mm_WS mm_NW "SelfSortingLaw" "" (.invokevirtual 109, 3, 245, 1) := ⟨kw_1242, kw_1243, kw_1241, _, _, rfl⟩
theorem sq_597 : mm_Pq mm_ct mm_CM mm_cl mm_WS mm_NW "SelfSortingLaw" "" (.invokevirtual 110, 3, 107, 1) := ⟨kw_1245, kw_1246, kw_1244, _, _, rfl⟩
theorem sq_598 : mm_Pq mm_ct mm_CM mm_cl mm_WS mm_NW "SelfSortingLaw" "" (.invokevirtual 114, 3, 247, 1) := ⟨kw_1248, kw_1249, kw_1247, _, _, rfl⟩
theorem sq_599 : mm_Pq mm_ct mm_CM mm_cl mm_WS mm_NW "SelfSortingLaw" "" (.invokevirtual 115, 3, 108, 1) := ⟨kw_1251, kw_1252, kw_1250, _, _, rfl⟩
theorem sq_600 : mm_Pq mm_ct mm_CM mm_cl mm_WS mm_NW "SelfSortingLaw" "" (.invokevirtual 118, 3, 259, 1) := ⟨kw_1254, kw_1255, kw_1253, _, _, rfl⟩
theorem sq_601 : mm_Pq mm_ct mm_CM mm_cl mm_WS mm_NW "SelfSortingLaw" "" (.invokevirtual 119, 3, 109, 1) := ⟨kw_1257, kw_1258, kw_1256, _, _, rfl⟩
theorem sq_602 : mm_Pq mm_ct mm_CM mm_cl mm_WS mm_NW "SelfSortingLaw" "" (.invokevirtual 122, 3, 261, 1) := ⟨kw_1260, kw_1261, kw_1259, _, _, rfl⟩
theorem sq_603 : mm_Pq mm_ct mm_CM mm_cl mm_WS mm_NW "SelfSortingLaw" "" (.invokevirtual 123, 3, 110, 1) := ⟨kw_1263, kw_1264, kw_1262, _, _, rfl⟩
theorem sq_604 : mm_Pq mm_ct mm_CM mm_cl mm_WS mm_NW "SelfSortingLaw" "" (.invokevirtual 126, 3, 262, 1) := ⟨kw_1266, kw_1267, kw_1265, _, _, rfl⟩
theorem sq_605 : mm_Pq mm_ct mm_CM mm_cl mm_WS mm_NW "SelfSortingLaw" "" (.invokevirtual 127, 3, 111, 1) := ⟨kw_1269, kw_1270, kw_1268, _, _, rfl⟩
theorem sq_606 : mm_Pq mm_ct mm_CM mm_cl mm_WS mm_NW "SelfSortingLaw" "" (.invokevirtual 130, 3, 264, 1) := ⟨kw_1272, kw_1273, kw_1271, _, _, rfl⟩
theorem sq_607 : mm_Pq mm_ct mm_CM mm_cl mm_WS mm_NW "SelfSortingLaw" "" (.invokevirtual 131, 3, 112, 1) := ⟨kw_1275, kw_1276, kw_1274, _, _, rfl⟩
theorem sq_608 : mm_Pq mm_ct mm_CM mm_cl mm_WS mm_NW "SelfSortingLaw" "" (.invokevirtual 134, 3, 266, 1) := ⟨kw_1278, kw_1279, kw_1277, _, _, rfl⟩
theorem sq_609 : mm_Pq mm_ct mm_CM mm_cl mm_WS mm_NW "SelfSortingLaw" "" (.invokevirtual 135, 3, 113, 1) := ⟨kw_1281, kw_1282, kw_1280, _, _, rfl⟩
theorem sq_610 : mm_Pq mm_ct mm_CM mm_cl mm_WS mm_NW "SelfSortingLaw" "" (.invokevirtual 138, 3, 271, 1) := ⟨kw_1284, kw_1285, kw_1283, _, _, rfl⟩
theorem sq_611 : mm_Pq mm_ct mm_CM mm_cl mm_WS mm_NW "SelfSortingLaw" "" (.invokevirtual 139, 3, 114, 1) := ⟨kw_1287, kw_1288, kw_1286, _, _, rfl⟩
theorem sq_612 : mm_Pq mm_ct mm_CM mm_cl mm_WS mm_NW "SelfSortingLaw" "" (.invokevirtual 143, 3, 274, 1) := ⟨kw_1290, kw_1291, kw_1289, _, _, rfl⟩
theorem sq_613 : mm_Pq mm_ct mm_CM mm_cl mm_WS mm_NW "SelfSortingLaw" "" (.invokevirtual 144, 3, 115, 1) := ⟨kw_1293, kw_1294, kw_1292, _, _, rfl⟩
theorem sq_614 : mm_Pq mm_ct mm_CM mm_cl mm_WS mm_NW "SelfSortingLaw" "" (.invokevirtual 147, 3, 275, 1) := ⟨kw_1296, kw_1297, kw_1295, _, _, rfl⟩
theorem sq_615 : mm_Pq mm_ct mm_CM mm_cl mm_WS mm_NW "SelfSortingLaw" "" (.invokevirtual 148, 3, 116, 1) := ⟨kw_1299, kw_1300, kw_1298, _, _, rfl⟩
theorem sq_616 : mm_Pq mm_ct mm_CM mm_cl mm_WS mm_NW "SelfSortingLaw" "" (.invokevirtual 151, 3, 277, 1) := ⟨kw_1302, kw_1303, kw_1301, _, _, rfl⟩
theorem sq_617 : mm_Pq mm_ct mm_CM mm_cl mm_WS mm_NW "SelfSortingLaw" "" (.invokevirtual 152, 3, 117, 1) := ⟨kw_1305, kw_1306, kw_1304, _, _, rfl⟩
theorem sq_618 : mm_Pq mm_ct mm_CM mm_cl mm_WS mm_NW "SelfSortingLaw" "" (.invokevirtual 155, 3, 278, 1) := ⟨kw_1308, kw_1309, kw_1307, _, _, rfl⟩
theorem sq_619 : mm_Pq mm_ct mm_CM mm_cl mm_WS mm_NW "SelfSortingLaw" "" (.invokevirtual 156, 3, 118, 1) := ⟨kw_1311, kw_1312, kw_1310, _, _, rfl⟩
theorem sq_620 : mm_Pq mm_ct mm_CM mm_cl mm_WS mm_NW "SelfSortingLaw" "" (.invokevirtual 160, 3, 279, 1) := ⟨kw_1314, kw_1315, kw_1313, _, _, rfl⟩
theorem sq_621 : mm_Pq mm_ct mm_CM mm_cl mm_WS mm_NW "SelfSortingLaw" "" (.invokevirtual 161, 3, 119, 1) := ⟨kw_1317, kw_1318, kw_1316, _, _, rfl⟩
theorem sq_622 : mm_Pq mm_ct mm_CM mm_cl mm_WS mm_NW "SelfSortingLaw" "" (.invokevirtual 164, 3, 282, 1) := ⟨kw_1320, kw_1321, kw_1319, _, _, rfl⟩
theorem sq_623 : mm_Pq mm_ct mm_CM mm_cl mm_WS mm_NW "SelfSortingLaw" "" (.invokevirtual 165, 3, 120, 1) := ⟨kw_1323, kw_1324, kw_1322, _, _, rfl⟩
theorem sq_624 : mm_Pq mm_ct mm_CM mm_cl mm_WS mm_NW "SelfSortingLaw" "" (.invokevirtual 168, 3, 283, 1) := ⟨kw_1326, kw_1327, kw_1325, _, _, rfl⟩
theorem sq_625 : mm_Pq mm_ct mm_CM mm_cl mm_WS mm_NW "SelfSortingLaw" "" (.invokevirtual 169, 3, 121, 1) := ⟨kw_1329, kw_1330, kw_1328, _, _, rfl⟩
theorem sq_626 : mm_Pq mm_ct mm_CM mm_cl mm_WS mm_NW "SelfSortingLaw" "" (.invokevirtual 172, 3, 284, 1) := ⟨kw_1332, kw_1333, kw_1331, _, _, rfl⟩
theorem sq_627 : mm_Pq mm_ct mm_CM mm_cl mm_WS mm_NW "SelfSortingLaw" "" (.invokevirtual 173, 3, 122, 1) := ⟨kw_1335, kw_1336, kw_1334, _, _, rfl⟩
theorem sq_628 : mm_Pq mm_ct mm_CM mm_cl mm_WS mm_NW "SelfSortingLaw" "" (.invokevirtual 176, 3, 285, 1) := ⟨kw_1338, kw_1339, kw_1337, _, _, rfl⟩
theorem sq_629 : mm_Pq mm_ct mm_CM mm_cl mm_WS mm_NW "SelfSortingLaw" "" (.invokevirtual 177, 3, 123, 1) := ⟨kw_1341, kw_1342, kw_1340, _, _, rfl⟩
theorem sq_630 : mm_Pq mm_ct mm_CM mm_cl mm_WS mm_NW "SelfSortingLaw" "" (.invokevirtual 180, 3, 286, 1) := ⟨kw_1344, kw_1345, kw_1343, _, _, rfl⟩
theorem sq_631 : mm_Pq mm_ct mm_CM mm_cl mm_WS mm_NW "SelfSortingLaw" "" (.invokevirtual 181, 3, 124, 1) := ⟨kw_1347, kw_1348, kw_1346, _, _, rfl⟩
theorem sq_632 : mm_Pq mm_ct mm_CM mm_cl mm_WS mm_NW "SelfSortingLaw" "" (.invokevirtual 184, 3, 287, 1) := ⟨kw_1350, kw_1351, kw_1349, _, _, rfl⟩
set_option maxRecDepth 100000 in
theorem ck_289_0 : mm_cks cL_law 0 cd_289_0 = true := by decide +kernel
set_option maxRecDepth 100000 in
theorem ck_289_1 : mm_cks cL_law 80 cd_289_1 = true := by decide +kernel
set_option maxRecDepth 100000 in
theorem ck_289_2 : mm_cks cL_law 160 cd_289_2 = true := by decide +kernel
set_option maxRecDepth 100000 in
theorem ck_289_3 : mm_cks cL_law 240 cd_289_3 = true := by decide +kernel
set_option maxRecDepth 100000 in
theorem ck_289_4 : mm_cks cL_law 320 cd_289_4 = true := by decide +kernel
set_option maxRecDepth 100000 in
theorem ck_289_5 : mm_cks cL_law 400 cd_289_5 = true := by decide +kernel
set_option maxRecDepth 100000 in
theorem ck_289_6 : mm_cks cL_law 480 cd_289_6 = true := by decide +kernel
set_option maxRecDepth 100000 in
theorem ck_289_7 : mm_cks cL_law 560 cd_289_7 = true := by decide +kernel
set_option maxRecDepth 100000 in
theorem ck_289_8 : mm_cks cL_law 640 cd_289_8 = true := by decide +kernel
set_option maxRecDepth 100000 in
theorem ck_289_9 : mm_cks cL_law 720 cd_289_9 = true := by decide +kernel
set_option maxRecDepth 100000 in
theorem ck_289_10 : mm_cks cL_law 800 cd_289_10 = true := by decide +kernel
set_option maxRecDepth 100000 in
theorem ck_289_11 : mm_cks cL_law 880 cd_289_11 = true := by decide +kernel
set_option maxRecDepth 100000 in
theorem ck_289_12 : mm_cks cL_law 960 cd_289_12 = true := by decide +kernel
set_option maxRecDepth 100000 in
theorem ck_289_13 : mm_cks cL_law 1040 cd_289_13 = true := by decide +kernel
set_option maxRecDepth 100000 in
theorem ck_289_14 : mm_cks cL_law 1120 cd_289_14 = true := by decide +kernel
set_option maxRecDepth 100000 in
theorem ck_289_15 : mm_cks cL_law 1200 cd_289_15 = true := by decide +kernel
set_option maxRecDepth 100000 in
theorem ck_289_16 : mm_cks cL_law 1280 cd_289_16 = true := by decide +kernel
set_option maxRecDepth 100000 in
theorem ck_289_17 : mm_cks cL_law 1360 cd_289_17 = true := by decide +kernel
set_option maxRecDepth 100000 in
theorem ck_289_18 : mm_cks cL_law 1440 cd_289_18 = true := by decide +kernel
set_option maxRecDepth 100000 in
theorem ck_289_19 : mm_cks cL_law 1520 cd_289_19 = true := by decide +kernel
theorem ck_289 : mm_cks cL_law 0 cd_289 = true := mm_cks_app ck_289_0 (by decide) (mm_cks_app ck_289_1 (by decide) (mm_cks_app ck_289_2 (by decide) (mm_cks_app ck_289_3 (by decide) (mm_cks_app ck_289_4 (by decide) (mm_cks_app ck_289_5 (by decide) (mm_cks_app ck_289_6 (by decide) (mm_cks_app ck_289_7 (by decide) (mm_cks_app ck_289_8 (by decide) (mm_cks_app ck_289_9 (by decide) (mm_cks_app ck_289_10 (by decide) (mm_cks_app ck_289_11 (by decide) (mm_cks_app ck_289_12 (by decide) (mm_cks_app ck_289_13 (by decide) (mm_cks_app ck_289_14 (by decide) (mm_cks_app ck_289_15 (by decide) (mm_cks_app ck_289_16 (by decide) (mm_cks_app ck_289_17 (by decide) (mm_cks_app ck_289_18 (by decide) (ck_289_19)))))))))))))))))))
set_option maxRecDepth 100000 in
theorem sf_289 : mm_spf cd_289 = [(.new 7, 3, 7, 8), (.invokespecial 9, 3, 84, 2), (.new 10, 3, 8, 43), (.invokespecial 12, 3, 146, 2), (.invokevirtual 13, 3, 85, 1), (.invokevirtual 17, 3, 213, 1), (.invokevirtual 18, 3, 86, 1), (.invokevirtual 22, 3, 158, 1), (.invokevirtual 23, 3, 87, 1), (.invokevirtual 27, 3, 159, 1), (.invokevirtual 28, 3, 88, 1), (.invokevirtual 31, 3, 161, 1), (.invokevirtual 32, 3, 89, 1), (.invokevirtual 36, 3, 162, 1), (.invokevirtual 37, 3, 90, 1), (.invokevirtual 41, 3, 197, 1), (.invokevirtual 42, 3, 91, 1), (.invokevirtual 45, 3, 198, 1), (.invokevirtual 46, 3, 92, 1), (.invokevirtual 49, 3, 199, 1), (.invokevirtual 50, 3, 93, 1), (.invokevirtual 53, 3, 226, 1), (.invokevirtual 54, 3, 94, 1), (.invokevirtual 58, 3, 227, 1), (.invokevirtual 59, 3, 95, 1), (.invokevirtual 62, 3, 228, 1), (.invokevirtual 63, 3, 96, 1), (.invokevirtual 67, 3, 229, 1), (.invokevirtual 68, 3, 97, 1), (.invokevirtual 72, 3, 230, 1), (.invokevirtual 73, 3, 98, 1), (.invokevirtual 76, 3, 232, 1), (.invokevirtual 77, 3, 99, 1), (.invokevirtual 80, 3, 234, 1), (.invokevirtual 81, 3, 100, 1), (.invokevirtual 84, 3, 215, 1), (.invokevirtual 85, 3, 101, 1), (.invokevirtual 88, 3, 235, 1), (.invokevirtual 89, 3, 102, 1), (.invokevirtual 92, 3, 236, 1), (.invokevirtual 93, 3, 103, 1), (.invokevirtual 96, 3, 237, 1), (.invokevirtual 97, 3, 104, 1), (.invokevirtual 101, 3, 212, 1), (.invokevirtual 102, 3, 105, 1), (.invokevirtual 105, 3, 238, 1), (.invokevirtual 106, 3, 106, 1), (.invokevirtual 109, 3, 245, 1), (.invokevirtual 110, 3, 107, 1), (.invokevirtual 114, 3, 247, 1), (.invokevirtual 115, 3, 108, 1), (.invokevirtual 118, 3, 259, 1), (.invokevirtual 119, 3, 109, 1), (.invokevirtual 122, 3, 261, 1), (.invokevirtual 123, 3, 110, 1), (.invokevirtual 126, 3, 262, 1), (.invokevirtual 127, 3, 111, 1), (.invokevirtual 130, 3, 264, 1), (.invokevirtual 131, 3, 112, 1), (.invokevirtual 134, 3, 266, 1), (.invokevirtual 135, 3, 113, 1), (.invokevirtual 138, 3, 271, 1), (.invokevirtual 139, 3, 114, 1), (.invokevirtual 143, 3, 274, 1), (.invokevirtual 144, 3, 115, 1), (.invokevirtual 147, 3, 275, 1), (.invokevirtual 148, 3, 116, 1), (.invokevirtual 151, 3, 277, 1), (.invokevirtual 152, 3, 117, 1), (.invokevirtual 155, 3, 278, 1), (.invokevirtual 156, 3, 118, 1), (.invokevirtual 160, 3, 279, 1), (.invokevirtual 161, 3, 119, 1), (.invokevirtual 164, 3, 282, 1), (.invokevirtual 165, 3, 120, 1), (.invokevirtual 168, 3, 283, 1), (.invokevirtual 169, 3, 121, 1), (.invokevirtual 172, 3, 284, 1), (.invokevirtual 173, 3, 122, 1), (.invokevirtual 176, 3, 285, 1), (.invokevirtual 177, 3, 123, 1), (.invokevirtual 180, 3, 286, 1), (.invokevirtual 181, 3, 124, 1), (.invokevirtual 184, 3, 287, 1)] := by decide +kernel
theorem mc_289 : mm_MC mm_ct mm_CM mm_cl mm_WS mm_NW me_289 := mm_MC_of rfl rfl ck_289 (by rw [sf_289]; exact List.forall_mem_cons.mpr ⟨sq_549, List.forall_mem_cons.mpr ⟨sq_550, List.forall_mem_cons.mpr ⟨sq_551, List.forall_mem_cons.mpr ⟨sq_552, List.forall_mem_cons.mpr ⟨sq_553, List.forall_mem_cons.mpr ⟨sq_554, List.forall_mem_cons.mpr ⟨sq_555, List.forall_mem_cons.mpr ⟨sq_556, List.forall_mem_cons.mpr ⟨sq_557, List.forall_mem_cons.mpr ⟨sq_558, List.forall_mem_cons.mpr ⟨sq_559, List.forall_mem_cons.mpr ⟨sq_560, List.forall_mem_cons.mpr ⟨sq_561, List.forall_mem_cons.mpr ⟨sq_562, List.forall_mem_cons.mpr ⟨sq_563, List.forall_mem_cons.mpr ⟨sq_564, List.forall_mem_cons.mpr ⟨sq_565, List.forall_mem_cons.mpr ⟨sq_566, List.forall_mem_cons.mpr ⟨sq_567, List.forall_mem_cons.mpr ⟨sq_568, List.forall_mem_cons.mpr ⟨sq_569, List.forall_mem_cons.mpr ⟨sq_570, List.forall_mem_cons.mpr ⟨sq_571, List.forall_mem_cons.mpr ⟨sq_572, List.forall_mem_cons.mpr ⟨sq_573, List.forall_mem_cons.mpr ⟨sq_574, List.forall_mem_cons.mpr ⟨sq_575, List.forall_mem_cons.mpr ⟨sq_576, List.forall_mem_cons.mpr ⟨sq_577, List.forall_mem_cons.mpr ⟨sq_578, List.forall_mem_cons.mpr ⟨sq_579, List.forall_mem_cons.mpr ⟨sq_580, List.forall_mem_cons.mpr ⟨sq_581, List.forall_mem_cons.mpr ⟨sq_582, List.forall_mem_cons.mpr ⟨sq_583, List.forall_mem_cons.mpr ⟨sq_584, List.forall_mem_cons.mpr ⟨sq_585, List.forall_mem_cons.mpr ⟨sq_586, List.forall_mem_cons.mpr ⟨sq_587, List.forall_mem_cons.mpr ⟨sq_588, List.forall_mem_cons.mpr ⟨sq_589, List.forall_mem_cons.mpr ⟨sq_590, List.forall_mem_cons.mpr ⟨sq_591, List.forall_mem_cons.mpr ⟨sq_592, List.forall_mem_cons.mpr ⟨sq_593, List.forall_mem_cons.mpr ⟨sq_594, List.forall_mem_cons.mpr ⟨sq_595, List.forall_mem_cons.mpr ⟨sq_596, List.forall_mem_cons.mpr ⟨sq_597, List.forall_mem_cons.mpr ⟨sq_598, List.forall_mem_cons.mpr ⟨sq_599, List.forall_mem_cons.mpr ⟨sq_600, List.forall_mem_cons.mpr ⟨sq_601, List.forall_mem_cons.mpr ⟨sq_602, List.forall_mem_cons.mpr ⟨sq_603, List.forall_mem_cons.mpr ⟨sq_604, List.forall_mem_cons.mpr ⟨sq_605, List.forall_mem_cons.mpr ⟨sq_606, List.forall_mem_cons.mpr ⟨sq_607, List.forall_mem_cons.mpr ⟨sq_608, List.forall_mem_cons.mpr ⟨sq_609, List.forall_mem_cons.mpr ⟨sq_610, List.forall_mem_cons.mpr ⟨sq_611, List.forall_mem_cons.mpr ⟨sq_612, List.forall_mem_cons.mpr ⟨sq_613, List.forall_mem_cons.mpr ⟨sq_614, List.forall_mem_cons.mpr ⟨sq_615, List.forall_mem_cons.mpr ⟨sq_616, List.forall_mem_cons.mpr ⟨sq_617, List.forall_mem_cons.mpr ⟨sq_618, List.forall_mem_cons.mpr ⟨sq_619, List.forall_mem_cons.mpr ⟨sq_620, List.forall_mem_cons.mpr ⟨sq_621, List.forall_mem_cons.mpr ⟨sq_622, List.forall_mem_cons.mpr ⟨sq_623, List.forall_mem_cons.mpr ⟨sq_624, List.forall_mem_cons.mpr ⟨sq_625, List.forall_mem_cons.mpr ⟨sq_626, List.forall_mem_cons.mpr ⟨sq_627, List.forall_mem_cons.mpr ⟨sq_628, List.forall_mem_cons.mpr ⟨sq_629, List.forall_mem_cons.mpr ⟨sq_630, List.forall_mem_cons.mpr ⟨sq_631, List.forall_mem_cons.mpr ⟨sq_632, fun _ h => nomatch h⟩⟩⟩⟩⟩⟩⟩⟩⟩⟩⟩⟩⟩⟩⟩⟩⟩⟩⟩⟩⟩⟩⟩⟩⟩⟩⟩⟩⟩⟩⟩⟩⟩⟩⟩⟩⟩⟩⟩⟩⟩⟩⟩⟩⟩⟩⟩⟩⟩⟩⟩⟩⟩⟩⟩⟩⟩⟩⟩⟩⟩⟩⟩⟩⟩⟩⟩⟩⟩⟩⟩⟩⟩⟩⟩⟩⟩⟩⟩⟩⟩⟩⟩⟩)
