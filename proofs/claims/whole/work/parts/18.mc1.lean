/-! Every method is known (1). -/
set_option maxRecDepth 100000 in
theorem ck_103 : mm_cks cX7_shelf 0 cd_103 = true := by decide +kernel
set_option maxRecDepth 100000 in
theorem sf_103 : mm_spf cd_103 = [(.invokestatic 51, 3, 125, 0), (.getfield 10, 3, 7, 0), (.getfield 59, 3, 1, 2), (.getfield 22, 3, 7, 2), (.getfield 10, 3, 7, 0), (.invokevirtual 55, 3, 4, 1)] := by decide +kernel
theorem mc_103 : mm_MC mm_ct mm_CM mm_cl mm_WS mm_NW me_103 := mm_MC_of rfl rfl ck_103 (by rw [sf_103]; exact List.forall_mem_cons.mpr ⟨sq_241, List.forall_mem_cons.mpr ⟨sq_243, List.forall_mem_cons.mpr ⟨sq_245, List.forall_mem_cons.mpr ⟨sq_242, List.forall_mem_cons.mpr ⟨sq_243, List.forall_mem_cons.mpr ⟨sq_244, fun _ h => nomatch h⟩⟩⟩⟩⟩⟩)
theorem mo_103 : mm_MO mm_ct mm_CM mm_cl mm_WS mm_NW me_103 := ⟨by decide, kw_478, kw_374, by decide, by decide +kernel, mc_103⟩
theorem sq_291 : mm_Pq mm_ct mm_CM mm_cl mm_WS mm_NW "SelfSorting" "" (.invokevirtual 200, 3, 1, 1) := ⟨kw_22, kw_23, kw_479, _, _, rfl⟩
set_option maxRecDepth 100000 in
theorem ck_104 : mm_cks cX7_pushes 0 cd_104 = true := by decide +kernel
set_option maxRecDepth 100000 in
theorem sf_104 : mm_spf cd_104 = [(.invokevirtual 134, 3, 129, 1), (.invokevirtual 134, 3, 129, 1), (.getfield 22, 3, 7, 2), (.getfield 10, 3, 7, 0), (.getfield 10, 3, 7, 0), (.getfield 69, 3, 1, 3), (.invokevirtual 200, 3, 1, 1)] := by decide +kernel
theorem mc_104 : mm_MC mm_ct mm_CM mm_cl mm_WS mm_NW me_104 := mm_MC_of rfl rfl ck_104 (by rw [sf_104]; exact List.forall_mem_cons.mpr ⟨sq_271, List.forall_mem_cons.mpr ⟨sq_271, List.forall_mem_cons.mpr ⟨sq_242, List.forall_mem_cons.mpr ⟨sq_243, List.forall_mem_cons.mpr ⟨sq_243, List.forall_mem_cons.mpr ⟨sq_248, List.forall_mem_cons.mpr ⟨sq_291, fun _ h => nomatch h⟩⟩⟩⟩⟩⟩⟩)
theorem mo_104 : mm_MO mm_ct mm_CM mm_cl mm_WS mm_NW me_104 := ⟨by decide, kw_480, kw_374, by decide, by decide +kernel, mc_104⟩
theorem sq_292 : mm_Pq mm_ct mm_CM mm_cl mm_WS mm_NW "SelfSorting" "" (.getfield 204, 3, 5, 4) := ⟨(RX5, TX5, 8), rfl, by decide, by decide, kw_481⟩
theorem sq_293 : mm_Pq mm_ct mm_CM mm_cl mm_WS mm_NW "SelfSorting" "" (.getfield 207, 3, 5, 3) := ⟨(RX5, TX5, 8), rfl, by decide, by decide, kw_482⟩
set_option maxRecDepth 100000 in
theorem ck_105 : mm_cks cX7_written 0 cd_105 = true := by decide +kernel
set_option maxRecDepth 100000 in
theorem sf_105 : mm_spf cd_105 = [(.getfield 10, 3, 7, 0), (.getfield 106, 3, 1, 0), (.getfield 204, 3, 5, 4), (.getfield 204, 3, 5, 4), (.getfield 207, 3, 5, 3)] := by decide +kernel
theorem mc_105 : mm_MC mm_ct mm_CM mm_cl mm_WS mm_NW me_105 := mm_MC_of rfl rfl ck_105 (by rw [sf_105]; exact List.forall_mem_cons.mpr ⟨sq_243, List.forall_mem_cons.mpr ⟨sq_264, List.forall_mem_cons.mpr ⟨sq_292, List.forall_mem_cons.mpr ⟨sq_292, List.forall_mem_cons.mpr ⟨sq_293, fun _ h => nomatch h⟩⟩⟩⟩⟩)
theorem mo_105 : mm_MO mm_ct mm_CM mm_cl mm_WS mm_NW me_105 := ⟨by decide, kw_483, kw_374, by decide, by decide +kernel, mc_105⟩
theorem sq_294 : mm_Pq mm_ct mm_CM mm_cl mm_WS mm_NW "SelfSorting" "" (.invokevirtual 210, 3, 141, 1) := ⟨kw_485, kw_486, kw_484, _, _, rfl⟩
theorem sq_295 : mm_Pq mm_ct mm_CM mm_cl mm_WS mm_NW "SelfSorting" "" (.getfield 36, 3, 7, 4) := ⟨(RX7, TX7, 8), rfl, by decide, by decide, kw_367⟩
theorem sq_296 : mm_Pq mm_ct mm_CM mm_cl mm_WS mm_NW "SelfSorting" "" (.invokevirtual 213, 3, 76, 1) := ⟨kw_488, kw_489, kw_487, _, _, rfl⟩
theorem sq_297 : mm_Pq mm_ct mm_CM mm_cl mm_WS mm_NW "SelfSorting" "" (.invokevirtual 217, 3, 22, 1) := ⟨kw_127, kw_128, kw_490, _, _, rfl⟩
set_option maxRecDepth 100000 in
theorem ck_106 : mm_cks cX7_rest 0 cd_106 = true := by decide +kernel
set_option maxRecDepth 100000 in
theorem sf_106 : mm_spf cd_106 = [(.invokestatic 51, 3, 125, 0), (.invokevirtual 210, 3, 141, 1), (.getfield 36, 3, 7, 4), (.getfield 10, 3, 7, 0), (.getfield 106, 3, 1, 0), (.invokevirtual 213, 3, 76, 1), (.getfield 10, 3, 7, 0), (.getfield 106, 3, 1, 0), (.getfield 143, 3, 5, 1), (.getfield 10, 3, 7, 0), (.getfield 106, 3, 1, 0), (.getfield 110, 3, 5, 6), (.invokevirtual 217, 3, 22, 1)] := by decide +kernel
theorem mc_106 : mm_MC mm_ct mm_CM mm_cl mm_WS mm_NW me_106 := mm_MC_of rfl rfl ck_106 (by rw [sf_106]; exact List.forall_mem_cons.mpr ⟨sq_241, List.forall_mem_cons.mpr ⟨sq_294, List.forall_mem_cons.mpr ⟨sq_295, List.forall_mem_cons.mpr ⟨sq_243, List.forall_mem_cons.mpr ⟨sq_264, List.forall_mem_cons.mpr ⟨sq_296, List.forall_mem_cons.mpr ⟨sq_243, List.forall_mem_cons.mpr ⟨sq_264, List.forall_mem_cons.mpr ⟨sq_274, List.forall_mem_cons.mpr ⟨sq_243, List.forall_mem_cons.mpr ⟨sq_264, List.forall_mem_cons.mpr ⟨sq_265, List.forall_mem_cons.mpr ⟨sq_297, fun _ h => nomatch h⟩⟩⟩⟩⟩⟩⟩⟩⟩⟩⟩⟩⟩)
theorem mo_106 : mm_MO mm_ct mm_CM mm_cl mm_WS mm_NW me_106 := ⟨by decide, kw_491, kw_374, by decide, by decide +kernel, mc_106⟩
theorem sq_298 : mm_Pq mm_ct mm_CM mm_cl mm_WS mm_NW "SelfSorting" "" (.invokevirtual 221, 3, 23, 1) := ⟨kw_493, kw_494, kw_492, _, _, rfl⟩
set_option maxRecDepth 100000 in
theorem ck_107 : mm_cks cX7_round 0 cd_107 = true := by decide +kernel
set_option maxRecDepth 100000 in
theorem sf_107 : mm_spf cd_107 = [(.invokestatic 51, 3, 125, 0), (.invokevirtual 210, 3, 141, 1), (.getfield 36, 3, 7, 4), (.getfield 10, 3, 7, 0), (.getfield 106, 3, 1, 0), (.invokevirtual 213, 3, 76, 1), (.getfield 10, 3, 7, 0), (.getfield 106, 3, 1, 0), (.getfield 143, 3, 5, 1), (.getfield 10, 3, 7, 0), (.getfield 106, 3, 1, 0), (.getfield 110, 3, 5, 6), (.invokevirtual 221, 3, 23, 1)] := by decide +kernel
theorem mc_107 : mm_MC mm_ct mm_CM mm_cl mm_WS mm_NW me_107 := mm_MC_of rfl rfl ck_107 (by rw [sf_107]; exact List.forall_mem_cons.mpr ⟨sq_241, List.forall_mem_cons.mpr ⟨sq_294, List.forall_mem_cons.mpr ⟨sq_295, List.forall_mem_cons.mpr ⟨sq_243, List.forall_mem_cons.mpr ⟨sq_264, List.forall_mem_cons.mpr ⟨sq_296, List.forall_mem_cons.mpr ⟨sq_243, List.forall_mem_cons.mpr ⟨sq_264, List.forall_mem_cons.mpr ⟨sq_274, List.forall_mem_cons.mpr ⟨sq_243, List.forall_mem_cons.mpr ⟨sq_264, List.forall_mem_cons.mpr ⟨sq_265, List.forall_mem_cons.mpr ⟨sq_298, fun _ h => nomatch h⟩⟩⟩⟩⟩⟩⟩⟩⟩⟩⟩⟩⟩)
theorem mo_107 : mm_MO mm_ct mm_CM mm_cl mm_WS mm_NW me_107 := ⟨by decide, kw_495, kw_374, by decide, by decide +kernel, mc_107⟩
theorem sq_299 : mm_Pq mm_ct mm_CM mm_cl mm_WS mm_NW "SelfSorting" "" (.invokevirtual 225, 3, 133, 1) := ⟨kw_497, kw_498, kw_496, _, _, rfl⟩
theorem sq_300 : mm_Pq mm_ct mm_CM mm_cl mm_WS mm_NW "SelfSorting" "" (.invokevirtual 228, 3, 16, 1) := ⟨kw_500, kw_501, kw_499, _, _, rfl⟩
theorem sq_301 : mm_Pq mm_ct mm_CM mm_cl mm_WS mm_NW "SelfSorting" "" (.getfield 43, 3, 7, 5) := ⟨(RX7, TX7, 8), rfl, by decide, by decide, kw_371⟩
theorem sq_302 : mm_Pq mm_ct mm_CM mm_cl mm_WS mm_NW "SelfSorting" "" (.invokevirtual 232, 3, 33, 1) := ⟨kw_503, kw_504, kw_502, _, _, rfl⟩
theorem sq_303 : mm_Pq mm_ct mm_CM mm_cl mm_WS mm_NW "SelfSorting" "" (.invokevirtual 235, 3, 37, 1) := ⟨kw_506, kw_507, kw_505, _, _, rfl⟩
theorem sq_304 : mm_Pq mm_ct mm_CM mm_cl mm_WS mm_NW "SelfSorting" "" (.invokevirtual 239, 3, 38, 1) := ⟨kw_509, kw_510, kw_508, _, _, rfl⟩
theorem sq_305 : mm_Pq mm_ct mm_CM mm_cl mm_WS mm_NW "SelfSorting" "" (.getfield 243, 3, 3, 3) := ⟨(RX3, TX3, 5), rfl, by decide, by decide, kw_511⟩
theorem sq_306 : mm_Pq mm_ct mm_CM mm_cl mm_WS mm_NW "SelfSorting" "" (.invokevirtual 245, 3, 35, 1) := ⟨kw_173, kw_174, kw_512, _, _, rfl⟩
theorem sq_307 : mm_Pq mm_ct mm_CM mm_cl mm_WS mm_NW "SelfSorting" "" (.invokestatic 246, 3, 127, 0) := ⟨kw_105, Or.inl kw_513⟩
set_option maxRecDepth 100000 in
theorem ck_108 : mm_cks cX7_calm 0 cd_108 = true := by decide +kernel
set_option maxRecDepth 100000 in
theorem sf_108 : mm_spf cd_108 = [(.invokevirtual 225, 3, 133, 1), (.getfield 36, 3, 7, 4), (.getfield 10, 3, 7, 0), (.getfield 22, 3, 7, 2), (.invokevirtual 228, 3, 16, 1), (.getfield 43, 3, 7, 5), (.invokevirtual 232, 3, 33, 1), (.getfield 43, 3, 7, 5), (.getfield 36, 3, 7, 4), (.invokevirtual 235, 3, 37, 1), (.getfield 43, 3, 7, 5), (.getfield 36, 3, 7, 4), (.invokevirtual 239, 3, 38, 1), (.getfield 43, 3, 7, 5), (.getfield 243, 3, 3, 3), (.getfield 43, 3, 7, 5), (.invokevirtual 245, 3, 35, 1), (.invokestatic 246, 3, 127, 0)] := by decide +kernel
theorem mc_108 : mm_MC mm_ct mm_CM mm_cl mm_WS mm_NW me_108 := mm_MC_of rfl rfl ck_108 (by rw [sf_108]; exact List.forall_mem_cons.mpr ⟨sq_299, List.forall_mem_cons.mpr ⟨sq_295, List.forall_mem_cons.mpr ⟨sq_243, List.forall_mem_cons.mpr ⟨sq_242, List.forall_mem_cons.mpr ⟨sq_300, List.forall_mem_cons.mpr ⟨sq_301, List.forall_mem_cons.mpr ⟨sq_302, List.forall_mem_cons.mpr ⟨sq_301, List.forall_mem_cons.mpr ⟨sq_295, List.forall_mem_cons.mpr ⟨sq_303, List.forall_mem_cons.mpr ⟨sq_301, List.forall_mem_cons.mpr ⟨sq_295, List.forall_mem_cons.mpr ⟨sq_304, List.forall_mem_cons.mpr ⟨sq_301, List.forall_mem_cons.mpr ⟨sq_305, List.forall_mem_cons.mpr ⟨sq_301, List.forall_mem_cons.mpr ⟨sq_306, List.forall_mem_cons.mpr ⟨sq_307, fun _ h => nomatch h⟩⟩⟩⟩⟩⟩⟩⟩⟩⟩⟩⟩⟩⟩⟩⟩⟩⟩)
theorem mo_108 : mm_MO mm_ct mm_CM mm_cl mm_WS mm_NW me_108 := ⟨by decide, kw_514, kw_374, by decide, by decide +kernel, mc_108⟩
theorem sq_308 : mm_Pq mm_ct mm_CM mm_cl mm_WS mm_NW "SelfSorting" "" (.invokevirtual 250, 3, 39, 1) := ⟨kw_516, kw_517, kw_515, _, _, rfl⟩
set_option maxRecDepth 100000 in
theorem ck_109 : mm_cks cX7_basin 0 cd_109 = true := by decide +kernel
set_option maxRecDepth 100000 in
theorem sf_109 : mm_spf cd_109 = [(.invokevirtual 225, 3, 133, 1), (.getfield 36, 3, 7, 4), (.getfield 10, 3, 7, 0), (.getfield 22, 3, 7, 2), (.invokevirtual 228, 3, 16, 1), (.getfield 43, 3, 7, 5), (.invokevirtual 232, 3, 33, 1), (.getfield 43, 3, 7, 5), (.getfield 36, 3, 7, 4), (.invokevirtual 239, 3, 38, 1), (.getfield 43, 3, 7, 5), (.getfield 36, 3, 7, 4), (.invokevirtual 250, 3, 39, 1)] := by decide +kernel
theorem mc_109 : mm_MC mm_ct mm_CM mm_cl mm_WS mm_NW me_109 := mm_MC_of rfl rfl ck_109 (by rw [sf_109]; exact List.forall_mem_cons.mpr ⟨sq_299, List.forall_mem_cons.mpr ⟨sq_295, List.forall_mem_cons.mpr ⟨sq_243, List.forall_mem_cons.mpr ⟨sq_242, List.forall_mem_cons.mpr ⟨sq_300, List.forall_mem_cons.mpr ⟨sq_301, List.forall_mem_cons.mpr ⟨sq_302, List.forall_mem_cons.mpr ⟨sq_301, List.forall_mem_cons.mpr ⟨sq_295, List.forall_mem_cons.mpr ⟨sq_304, List.forall_mem_cons.mpr ⟨sq_301, List.forall_mem_cons.mpr ⟨sq_295, List.forall_mem_cons.mpr ⟨sq_308, fun _ h => nomatch h⟩⟩⟩⟩⟩⟩⟩⟩⟩⟩⟩⟩⟩)
theorem mo_109 : mm_MO mm_ct mm_CM mm_cl mm_WS mm_NW me_109 := ⟨by decide, kw_518, kw_374, by decide, by decide +kernel, mc_109⟩
set_option maxRecDepth 100000 in
theorem ck_110 : mm_cks cX7_never 0 cd_110 = true := by decide +kernel
set_option maxRecDepth 100000 in
theorem sf_110 : mm_spf cd_110 = [(.invokevirtual 225, 3, 133, 1), (.getfield 36, 3, 7, 4), (.getfield 10, 3, 7, 0), (.getfield 22, 3, 7, 2), (.invokevirtual 228, 3, 16, 1), (.getfield 43, 3, 7, 5), (.invokevirtual 232, 3, 33, 1), (.getfield 43, 3, 7, 5), (.getfield 36, 3, 7, 4), (.invokevirtual 250, 3, 39, 1)] := by decide +kernel
theorem mc_110 : mm_MC mm_ct mm_CM mm_cl mm_WS mm_NW me_110 := mm_MC_of rfl rfl ck_110 (by rw [sf_110]; exact List.forall_mem_cons.mpr ⟨sq_299, List.forall_mem_cons.mpr ⟨sq_295, List.forall_mem_cons.mpr ⟨sq_243, List.forall_mem_cons.mpr ⟨sq_242, List.forall_mem_cons.mpr ⟨sq_300, List.forall_mem_cons.mpr ⟨sq_301, List.forall_mem_cons.mpr ⟨sq_302, List.forall_mem_cons.mpr ⟨sq_301, List.forall_mem_cons.mpr ⟨sq_295, List.forall_mem_cons.mpr ⟨sq_308, fun _ h => nomatch h⟩⟩⟩⟩⟩⟩⟩⟩⟩⟩)
theorem mo_110 : mm_MO mm_ct mm_CM mm_cl mm_WS mm_NW me_110 := ⟨by decide, kw_519, kw_374, by decide, by decide +kernel, mc_110⟩
theorem sq_309 : mm_Pq mm_ct mm_CM mm_cl mm_WS mm_NW "SelfSorting" "" (.invokevirtual 253, 3, 17, 1) := ⟨kw_107, kw_108, kw_520, _, _, rfl⟩
set_option maxRecDepth 100000 in
theorem ck_111 : mm_cks cX7_trouble 0 cd_111 = true := by decide +kernel
set_option maxRecDepth 100000 in
theorem sf_111 : mm_spf cd_111 = [(.getfield 36, 3, 7, 4), (.getfield 10, 3, 7, 0), (.getfield 22, 3, 7, 2), (.getfield 10, 3, 7, 0), (.getfield 62, 3, 1, 8), (.invokevirtual 228, 3, 16, 1), (.getfield 10, 3, 7, 0), (.getfield 62, 3, 1, 8), (.getfield 36, 3, 7, 4), (.invokevirtual 253, 3, 17, 1), (.getfield 36, 3, 7, 4), (.invokevirtual 253, 3, 17, 1)] := by decide +kernel
theorem mc_111 : mm_MC mm_ct mm_CM mm_cl mm_WS mm_NW me_111 := mm_MC_of rfl rfl ck_111 (by rw [sf_111]; exact List.forall_mem_cons.mpr ⟨sq_295, List.forall_mem_cons.mpr ⟨sq_243, List.forall_mem_cons.mpr ⟨sq_242, List.forall_mem_cons.mpr ⟨sq_243, List.forall_mem_cons.mpr ⟨sq_246, List.forall_mem_cons.mpr ⟨sq_300, List.forall_mem_cons.mpr ⟨sq_243, List.forall_mem_cons.mpr ⟨sq_246, List.forall_mem_cons.mpr ⟨sq_295, List.forall_mem_cons.mpr ⟨sq_309, List.forall_mem_cons.mpr ⟨sq_295, List.forall_mem_cons.mpr ⟨sq_309, fun _ h => nomatch h⟩⟩⟩⟩⟩⟩⟩⟩⟩⟩⟩⟩)
theorem mo_111 : mm_MO mm_ct mm_CM mm_cl mm_WS mm_NW me_111 := ⟨by decide, kw_521, kw_374, by decide, by decide +kernel, mc_111⟩
theorem sq_310 : mm_Pq mm_ct mm_CM mm_cl mm_WS mm_NW "SelfSorting" "" (.invokestatic 256, 3, 288, 0) := ⟨kw_102, Or.inl kw_522⟩
theorem sq_311 : mm_Pq mm_ct mm_CM mm_cl mm_WS mm_NW "SelfSorting" "" (.invokevirtual 261, 3, 41, 1) := ⟨kw_524, kw_525, kw_523, _, _, rfl⟩
set_option maxRecDepth 100000 in
theorem ck_112 : mm_cks cX7_rank 0 cd_112 = true := by decide +kernel
set_option maxRecDepth 100000 in
theorem sf_112 : mm_spf cd_112 = [(.invokevirtual 225, 3, 133, 1), (.invokestatic 256, 3, 288, 0), (.getfield 36, 3, 7, 4), (.getfield 10, 3, 7, 0), (.getfield 22, 3, 7, 2), (.invokevirtual 228, 3, 16, 1), (.getfield 43, 3, 7, 5), (.getfield 36, 3, 7, 4), (.invokevirtual 261, 3, 41, 1)] := by decide +kernel
theorem mc_112 : mm_MC mm_ct mm_CM mm_cl mm_WS mm_NW me_112 := mm_MC_of rfl rfl ck_112 (by rw [sf_112]; exact List.forall_mem_cons.mpr ⟨sq_299, List.forall_mem_cons.mpr ⟨sq_310, List.forall_mem_cons.mpr ⟨sq_295, List.forall_mem_cons.mpr ⟨sq_243, List.forall_mem_cons.mpr ⟨sq_242, List.forall_mem_cons.mpr ⟨sq_300, List.forall_mem_cons.mpr ⟨sq_301, List.forall_mem_cons.mpr ⟨sq_295, List.forall_mem_cons.mpr ⟨sq_311, fun _ h => nomatch h⟩⟩⟩⟩⟩⟩⟩⟩⟩)
theorem mo_112 : mm_MO mm_ct mm_CM mm_cl mm_WS mm_NW me_112 := ⟨by decide, kw_526, kw_374, by decide, by decide +kernel, mc_112⟩
theorem sq_312 : mm_Pq mm_ct mm_CM mm_cl mm_WS mm_NW "SelfSorting" "" (.invokevirtual 265, 3, 132, 1) := ⟨kw_528, kw_529, kw_527, _, _, rfl⟩
theorem sq_313 : mm_Pq mm_ct mm_CM mm_cl mm_WS mm_NW "SelfSorting" "" (.invokevirtual 268, 3, 131, 1) := ⟨kw_531, kw_532, kw_530, _, _, rfl⟩
theorem sq_314 : mm_Pq mm_ct mm_CM mm_cl mm_WS mm_NW "SelfSorting" "" (.invokestatic 271, 3, 0, 7) := ⟨kw_533, kw_534, kw_149, kw_535⟩
set_option maxRecDepth 100000 in
theorem ck_113 : mm_cks cX7_nudges 0 cd_113 = true := by decide +kernel
set_option maxRecDepth 100000 in
theorem sf_113 : mm_spf cd_113 = [(.invokestatic 51, 3, 125, 0), (.getfield 10, 3, 7, 0), (.getfield 106, 3, 1, 0), (.getfield 143, 3, 5, 1), (.invokevirtual 265, 3, 132, 1), (.invokevirtual 268, 3, 131, 1), (.getfield 10, 3, 7, 0), (.getfield 106, 3, 1, 0), (.invokevirtual 197, 3, 70, 1), (.invokestatic 271, 3, 0, 7), (.invokevirtual 265, 3, 132, 1), (.invokevirtual 268, 3, 131, 1), (.getfield 10, 3, 7, 0), (.getfield 106, 3, 1, 0), (.invokevirtual 197, 3, 70, 1), (.getfield 10, 3, 7, 0), (.getfield 106, 3, 1, 0), (.invokevirtual 197, 3, 70, 1), (.getfield 10, 3, 7, 0), (.getfield 106, 3, 1, 0), (.invokevirtual 197, 3, 70, 1), (.invokestatic 271, 3, 0, 7), (.invokestatic 271, 3, 0, 7), (.invokestatic 271, 3, 0, 7), (.invokestatic 271, 3, 0, 7)] := by decide +kernel
theorem mc_113 : mm_MC mm_ct mm_CM mm_cl mm_WS mm_NW me_113 := mm_MC_of rfl rfl ck_113 (by rw [sf_113]; exact List.forall_mem_cons.mpr ⟨sq_241, List.forall_mem_cons.mpr ⟨sq_243, List.forall_mem_cons.mpr ⟨sq_264, List.forall_mem_cons.mpr ⟨sq_274, List.forall_mem_cons.mpr ⟨sq_312, List.forall_mem_cons.mpr ⟨sq_313, List.forall_mem_cons.mpr ⟨sq_243, List.forall_mem_cons.mpr ⟨sq_264, List.forall_mem_cons.mpr ⟨sq_290, List.forall_mem_cons.mpr ⟨sq_314, List.forall_mem_cons.mpr ⟨sq_312, List.forall_mem_cons.mpr ⟨sq_313, List.forall_mem_cons.mpr ⟨sq_243, List.forall_mem_cons.mpr ⟨sq_264, List.forall_mem_cons.mpr ⟨sq_290, List.forall_mem_cons.mpr ⟨sq_243, List.forall_mem_cons.mpr ⟨sq_264, List.forall_mem_cons.mpr ⟨sq_290, List.forall_mem_cons.mpr ⟨sq_243, List.forall_mem_cons.mpr ⟨sq_264, List.forall_mem_cons.mpr ⟨sq_290, List.forall_mem_cons.mpr ⟨sq_314, List.forall_mem_cons.mpr ⟨sq_314, List.forall_mem_cons.mpr ⟨sq_314, List.forall_mem_cons.mpr ⟨sq_314, fun _ h => nomatch h⟩⟩⟩⟩⟩⟩⟩⟩⟩⟩⟩⟩⟩⟩⟩⟩⟩⟩⟩⟩⟩⟩⟩⟩⟩)
theorem mo_113 : mm_MO mm_ct mm_CM mm_cl mm_WS mm_NW me_113 := ⟨by decide, kw_536, kw_374, by decide, by decide +kernel, mc_113⟩
theorem sq_315 : mm_Pq mm_ct mm_CM mm_cl mm_WS mm_NW "SelfSorting" "" (.invokevirtual 276, 3, 30, 1) := ⟨kw_144, kw_145, kw_537, _, _, rfl⟩
theorem sq_316 : mm_Pq mm_ct mm_CM mm_cl mm_WS mm_NW "SelfSorting" "" (.invokevirtual 280, 3, 31, 1) := ⟨kw_539, kw_540, kw_538, _, _, rfl⟩
set_option maxRecDepth 100000 in
theorem ck_114 : mm_cks cX7_game 0 cd_114 = true := by decide +kernel
set_option maxRecDepth 100000 in
theorem sf_114 : mm_spf cd_114 = [(.invokestatic 51, 3, 125, 0), (.invokevirtual 265, 3, 132, 1), (.getfield 10, 3, 7, 0), (.getfield 106, 3, 1, 0), (.getfield 143, 3, 5, 1), (.invokevirtual 210, 3, 141, 1), (.getfield 10, 3, 7, 0), (.getfield 106, 3, 1, 0), (.invokevirtual 213, 3, 76, 1), (.getfield 36, 3, 7, 4), (.getfield 10, 3, 7, 0), (.getfield 106, 3, 1, 0), (.getfield 110, 3, 5, 6), (.invokevirtual 276, 3, 30, 1), (.getfield 36, 3, 7, 4), (.getfield 10, 3, 7, 0), (.getfield 106, 3, 1, 0), (.getfield 110, 3, 5, 6), (.invokevirtual 280, 3, 31, 1)] := by decide +kernel
theorem mc_114 : mm_MC mm_ct mm_CM mm_cl mm_WS mm_NW me_114 := mm_MC_of rfl rfl ck_114 (by rw [sf_114]; exact List.forall_mem_cons.mpr ⟨sq_241, List.forall_mem_cons.mpr ⟨sq_312, List.forall_mem_cons.mpr ⟨sq_243, List.forall_mem_cons.mpr ⟨sq_264, List.forall_mem_cons.mpr ⟨sq_274, List.forall_mem_cons.mpr ⟨sq_294, List.forall_mem_cons.mpr ⟨sq_243, List.forall_mem_cons.mpr ⟨sq_264, List.forall_mem_cons.mpr ⟨sq_296, List.forall_mem_cons.mpr ⟨sq_295, List.forall_mem_cons.mpr ⟨sq_243, List.forall_mem_cons.mpr ⟨sq_264, List.forall_mem_cons.mpr ⟨sq_265, List.forall_mem_cons.mpr ⟨sq_315, List.forall_mem_cons.mpr ⟨sq_295, List.forall_mem_cons.mpr ⟨sq_243, List.forall_mem_cons.mpr ⟨sq_264, List.forall_mem_cons.mpr ⟨sq_265, List.forall_mem_cons.mpr ⟨sq_316, fun _ h => nomatch h⟩⟩⟩⟩⟩⟩⟩⟩⟩⟩⟩⟩⟩⟩⟩⟩⟩⟩⟩)
theorem mo_114 : mm_MO mm_ct mm_CM mm_cl mm_WS mm_NW me_114 := ⟨by decide, kw_541, kw_374, by decide, by decide +kernel, mc_114⟩
theorem sq_317 : mm_Pq mm_ct mm_CM mm_cl mm_WS mm_NW "SelfSorting" "" (.invokevirtual 284, 3, 25, 1) := ⟨kw_543, kw_544, kw_542, _, _, rfl⟩
theorem sq_318 : mm_Pq mm_ct mm_CM mm_cl mm_WS mm_NW "SelfSorting" "" (.invokevirtual 288, 3, 26, 1) := ⟨kw_546, kw_547, kw_545, _, _, rfl⟩
theorem sq_319 : mm_Pq mm_ct mm_CM mm_cl mm_WS mm_NW "SelfSorting" "" (.getfield 291, 3, 2, 0) := ⟨(RX2, TX2, 4), rfl, by decide, by decide, kw_548⟩
set_option maxRecDepth 100000 in
theorem ck_115 : mm_cks cX7_catalogue 0 cd_115 = true := by decide +kernel
set_option maxRecDepth 100000 in
theorem sf_115 : mm_spf cd_115 = [(.invokevirtual 134, 3, 129, 1), (.getfield 10, 3, 7, 0), (.getfield 106, 3, 1, 0), (.getfield 137, 3, 5, 2), (.getfield 10, 3, 7, 0), (.getfield 106, 3, 1, 0), (.getfield 137, 3, 5, 2), (.invokevirtual 268, 3, 131, 1), (.invokevirtual 210, 3, 141, 1), (.getfield 36, 3, 7, 4), (.getfield 10, 3, 7, 0), (.getfield 106, 3, 1, 0), (.invokevirtual 213, 3, 76, 1), (.getfield 10, 3, 7, 0), (.getfield 106, 3, 1, 0), (.getfield 143, 3, 5, 1), (.getfield 10, 3, 7, 0), (.getfield 106, 3, 1, 0), (.getfield 110, 3, 5, 6), (.invokevirtual 284, 3, 25, 1), (.getfield 36, 3, 7, 4), (.getfield 10, 3, 7, 0), (.getfield 106, 3, 1, 0), (.getfield 143, 3, 5, 1), (.invokevirtual 288, 3, 26, 1), (.getfield 36, 3, 7, 4), (.getfield 291, 3, 2, 0)] := by decide +kernel
theorem mc_115 : mm_MC mm_ct mm_CM mm_cl mm_WS mm_NW me_115 := mm_MC_of rfl rfl ck_115 (by rw [sf_115]; exact List.forall_mem_cons.mpr ⟨sq_271, List.forall_mem_cons.mpr ⟨sq_243, List.forall_mem_cons.mpr ⟨sq_264, List.forall_mem_cons.mpr ⟨sq_272, List.forall_mem_cons.mpr ⟨sq_243, List.forall_mem_cons.mpr ⟨sq_264, List.forall_mem_cons.mpr ⟨sq_272, List.forall_mem_cons.mpr ⟨sq_313, List.forall_mem_cons.mpr ⟨sq_294, List.forall_mem_cons.mpr ⟨sq_295, List.forall_mem_cons.mpr ⟨sq_243, List.forall_mem_cons.mpr ⟨sq_264, List.forall_mem_cons.mpr ⟨sq_296, List.forall_mem_cons.mpr ⟨sq_243, List.forall_mem_cons.mpr ⟨sq_264, List.forall_mem_cons.mpr ⟨sq_274, List.forall_mem_cons.mpr ⟨sq_243, List.forall_mem_cons.mpr ⟨sq_264, List.forall_mem_cons.mpr ⟨sq_265, List.forall_mem_cons.mpr ⟨sq_317, List.forall_mem_cons.mpr ⟨sq_295, List.forall_mem_cons.mpr ⟨sq_243, List.forall_mem_cons.mpr ⟨sq_264, List.forall_mem_cons.mpr ⟨sq_274, List.forall_mem_cons.mpr ⟨sq_318, List.forall_mem_cons.mpr ⟨sq_295, List.forall_mem_cons.mpr ⟨sq_319, fun _ h => nomatch h⟩⟩⟩⟩⟩⟩⟩⟩⟩⟩⟩⟩⟩⟩⟩⟩⟩⟩⟩⟩⟩⟩⟩⟩⟩⟩⟩)
theorem mo_115 : mm_MO mm_ct mm_CM mm_cl mm_WS mm_NW me_115 := ⟨by decide, kw_549, kw_374, by decide, by decide +kernel, mc_115⟩
theorem sq_320 : mm_Pq mm_ct mm_CM mm_cl mm_WS mm_NW "SelfSorting" "" (.invokevirtual 294, 3, 28, 1) := ⟨kw_551, kw_552, kw_550, _, _, rfl⟩
set_option maxRecDepth 100000 in
theorem ck_116 : mm_cks cX7_theft 0 cd_116 = true := by decide +kernel
set_option maxRecDepth 100000 in
theorem sf_116 : mm_spf cd_116 = [(.invokevirtual 134, 3, 129, 1), (.getfield 10, 3, 7, 0), (.getfield 106, 3, 1, 0), (.getfield 137, 3, 5, 2), (.getfield 10, 3, 7, 0), (.getfield 106, 3, 1, 0), (.getfield 137, 3, 5, 2), (.invokevirtual 210, 3, 141, 1), (.getfield 36, 3, 7, 4), (.getfield 10, 3, 7, 0), (.getfield 106, 3, 1, 0), (.invokevirtual 213, 3, 76, 1), (.getfield 10, 3, 7, 0), (.getfield 106, 3, 1, 0), (.getfield 143, 3, 5, 1), (.getfield 10, 3, 7, 0), (.getfield 106, 3, 1, 0), (.getfield 110, 3, 5, 6), (.invokevirtual 294, 3, 28, 1)] := by decide +kernel
theorem mc_116 : mm_MC mm_ct mm_CM mm_cl mm_WS mm_NW me_116 := mm_MC_of rfl rfl ck_116 (by rw [sf_116]; exact List.forall_mem_cons.mpr ⟨sq_271, List.forall_mem_cons.mpr ⟨sq_243, List.forall_mem_cons.mpr ⟨sq_264, List.forall_mem_cons.mpr ⟨sq_272, List.forall_mem_cons.mpr ⟨sq_243, List.forall_mem_cons.mpr ⟨sq_264, List.forall_mem_cons.mpr ⟨sq_272, List.forall_mem_cons.mpr ⟨sq_294, List.forall_mem_cons.mpr ⟨sq_295, List.forall_mem_cons.mpr ⟨sq_243, List.forall_mem_cons.mpr ⟨sq_264, List.forall_mem_cons.mpr ⟨sq_296, List.forall_mem_cons.mpr ⟨sq_243, List.forall_mem_cons.mpr ⟨sq_264, List.forall_mem_cons.mpr ⟨sq_274, List.forall_mem_cons.mpr ⟨sq_243, List.forall_mem_cons.mpr ⟨sq_264, List.forall_mem_cons.mpr ⟨sq_265, List.forall_mem_cons.mpr ⟨sq_320, fun _ h => nomatch h⟩⟩⟩⟩⟩⟩⟩⟩⟩⟩⟩⟩⟩⟩⟩⟩⟩⟩⟩)
theorem mo_116 : mm_MO mm_ct mm_CM mm_cl mm_WS mm_NW me_116 := ⟨by decide, kw_553, kw_374, by decide, by decide +kernel, mc_116⟩
set_option maxRecDepth 100000 in
theorem ck_117 : mm_cks cX7_cheapest 0 cd_117 = true := by decide +kernel
set_option maxRecDepth 100000 in
theorem sf_117 : mm_spf cd_117 = [(.invokestatic 51, 3, 125, 0), (.invokevirtual 210, 3, 141, 1), (.getfield 10, 3, 7, 0), (.getfield 106, 3, 1, 0), (.invokevirtual 213, 3, 76, 1), (.getfield 36, 3, 7, 4), (.getfield 10, 3, 7, 0), (.getfield 106, 3, 1, 0), (.getfield 143, 3, 5, 1), (.getfield 10, 3, 7, 0), (.getfield 106, 3, 1, 0), (.getfield 110, 3, 5, 6), (.invokevirtual 217, 3, 22, 1), (.getfield 10, 3, 7, 0), (.getfield 62, 3, 1, 8), (.getfield 10, 3, 7, 0), (.getfield 106, 3, 1, 0), (.getfield 137, 3, 5, 2), (.getfield 36, 3, 7, 4), (.getfield 10, 3, 7, 0), (.getfield 106, 3, 1, 0), (.getfield 143, 3, 5, 1), (.getfield 10, 3, 7, 0), (.getfield 106, 3, 1, 0), (.getfield 110, 3, 5, 6), (.invokevirtual 294, 3, 28, 1)] := by decide +kernel
theorem mc_117 : mm_MC mm_ct mm_CM mm_cl mm_WS mm_NW me_117 := mm_MC_of rfl rfl ck_117 (by rw [sf_117]; exact List.forall_mem_cons.mpr ⟨sq_241, List.forall_mem_cons.mpr ⟨sq_294, List.forall_mem_cons.mpr ⟨sq_243, List.forall_mem_cons.mpr ⟨sq_264, List.forall_mem_cons.mpr ⟨sq_296, List.forall_mem_cons.mpr ⟨sq_295, List.forall_mem_cons.mpr ⟨sq_243, List.forall_mem_cons.mpr ⟨sq_264, List.forall_mem_cons.mpr ⟨sq_274, List.forall_mem_cons.mpr ⟨sq_243, List.forall_mem_cons.mpr ⟨sq_264, List.forall_mem_cons.mpr ⟨sq_265, List.forall_mem_cons.mpr ⟨sq_297, List.forall_mem_cons.mpr ⟨sq_243, List.forall_mem_cons.mpr ⟨sq_246, List.forall_mem_cons.mpr ⟨sq_243, List.forall_mem_cons.mpr ⟨sq_264, List.forall_mem_cons.mpr ⟨sq_272, List.forall_mem_cons.mpr ⟨sq_295, List.forall_mem_cons.mpr ⟨sq_243, List.forall_mem_cons.mpr ⟨sq_264, List.forall_mem_cons.mpr ⟨sq_274, List.forall_mem_cons.mpr ⟨sq_243, List.forall_mem_cons.mpr ⟨sq_264, List.forall_mem_cons.mpr ⟨sq_265, List.forall_mem_cons.mpr ⟨sq_320, fun _ h => nomatch h⟩⟩⟩⟩⟩⟩⟩⟩⟩⟩⟩⟩⟩⟩⟩⟩⟩⟩⟩⟩⟩⟩⟩⟩⟩⟩)
theorem mo_117 : mm_MO mm_ct mm_CM mm_cl mm_WS mm_NW me_117 := ⟨by decide, kw_554, kw_374, by decide, by decide +kernel, mc_117⟩
theorem sq_321 : mm_Pq mm_ct mm_CM mm_cl mm_WS mm_NW "SelfSorting" "" (.putfield 298, 3, 1, 12) := ⟨⟨(RX1, TX1, 13), rfl, by decide, by decide, kw_555⟩, fun r h g => by cases h; cases g⟩
theorem sq_322 : mm_Pq mm_ct mm_CM mm_cl mm_WS mm_NW "SelfSorting" "" (.getfield 298, 3, 1, 12) := ⟨(RX1, TX1, 13), rfl, by decide, by decide, kw_555⟩
theorem sq_323 : mm_Pq mm_ct mm_CM mm_cl mm_WS mm_NW "SelfSorting" "" (.getfield 301, 3, 1, 5) := ⟨(RX1, TX1, 13), rfl, by decide, by decide, kw_556⟩
set_option maxRecDepth 100000 in
theorem ck_118 : mm_cks cX7_dust 0 cd_118 = true := by decide +kernel
set_option maxRecDepth 100000 in
theorem sf_118 : mm_spf cd_118 = [(.getfield 10, 3, 7, 0), (.putfield 298, 3, 1, 12), (.invokevirtual 134, 3, 129, 1), (.invokevirtual 134, 3, 129, 1), (.getfield 10, 3, 7, 0), (.getfield 298, 3, 1, 12), (.getfield 10, 3, 7, 0), (.getfield 301, 3, 1, 5), (.getfield 10, 3, 7, 0), (.getfield 298, 3, 1, 12), (.getfield 10, 3, 7, 0), (.getfield 298, 3, 1, 12), (.putfield 298, 3, 1, 12), (.getfield 10, 3, 7, 0), (.getfield 298, 3, 1, 12)] := by decide +kernel
theorem mc_118 : mm_MC mm_ct mm_CM mm_cl mm_WS mm_NW me_118 := mm_MC_of rfl rfl ck_118 (by rw [sf_118]; exact List.forall_mem_cons.mpr ⟨sq_243, List.forall_mem_cons.mpr ⟨sq_321, List.forall_mem_cons.mpr ⟨sq_271, List.forall_mem_cons.mpr ⟨sq_271, List.forall_mem_cons.mpr ⟨sq_243, List.forall_mem_cons.mpr ⟨sq_322, List.forall_mem_cons.mpr ⟨sq_243, List.forall_mem_cons.mpr ⟨sq_323, List.forall_mem_cons.mpr ⟨sq_243, List.forall_mem_cons.mpr ⟨sq_322, List.forall_mem_cons.mpr ⟨sq_243, List.forall_mem_cons.mpr ⟨sq_322, List.forall_mem_cons.mpr ⟨sq_321, List.forall_mem_cons.mpr ⟨sq_243, List.forall_mem_cons.mpr ⟨sq_322, fun _ h => nomatch h⟩⟩⟩⟩⟩⟩⟩⟩⟩⟩⟩⟩⟩⟩⟩)
theorem mo_118 : mm_MO mm_ct mm_CM mm_cl mm_WS mm_NW me_118 := ⟨by decide, kw_557, kw_374, by decide, by decide +kernel, mc_118⟩
theorem sq_324 : mm_Pq mm_ct mm_CM mm_cl mm_WS mm_NW "SelfSorting" "" (.invokevirtual 304, 3, 142, 1) := ⟨kw_559, kw_560, kw_558, _, _, rfl⟩
set_option maxRecDepth 100000 in
theorem ck_119 : mm_cks cX7_laws 0 cd_119 = true := by decide +kernel
set_option maxRecDepth 100000 in
theorem sf_119 : mm_spf cd_119 = [(.invokevirtual 134, 3, 129, 1), (.invokevirtual 304, 3, 142, 1)] := by decide +kernel
theorem mc_119 : mm_MC mm_ct mm_CM mm_cl mm_WS mm_NW me_119 := mm_MC_of rfl rfl ck_119 (by rw [sf_119]; exact List.forall_mem_cons.mpr ⟨sq_271, List.forall_mem_cons.mpr ⟨sq_324, fun _ h => nomatch h⟩⟩)
theorem mo_119 : mm_MO mm_ct mm_CM mm_cl mm_WS mm_NW me_119 := ⟨by decide, kw_561, kw_374, by decide, by decide +kernel, mc_119⟩
theorem sq_325 : mm_Pq mm_ct mm_CM mm_cl mm_WS mm_NW "SelfSorting" "" (.invokevirtual 307, 3, 144, 1) := ⟨kw_563, kw_564, kw_562, _, _, rfl⟩
set_option maxRecDepth 100000 in
theorem ck_120 : mm_cks cX7_tells 0 cd_120 = true := by decide +kernel
set_option maxRecDepth 100000 in
theorem sf_120 : mm_spf cd_120 = [(.invokevirtual 134, 3, 129, 1), (.invokevirtual 304, 3, 142, 1), (.getfield 10, 3, 7, 0), (.getfield 62, 3, 1, 8), (.invokevirtual 307, 3, 144, 1)] := by decide +kernel
theorem mc_120 : mm_MC mm_ct mm_CM mm_cl mm_WS mm_NW me_120 := mm_MC_of rfl rfl ck_120 (by rw [sf_120]; exact List.forall_mem_cons.mpr ⟨sq_271, List.forall_mem_cons.mpr ⟨sq_324, List.forall_mem_cons.mpr ⟨sq_243, List.forall_mem_cons.mpr ⟨sq_246, List.forall_mem_cons.mpr ⟨sq_325, fun _ h => nomatch h⟩⟩⟩⟩⟩)
theorem mo_120 : mm_MO mm_ct mm_CM mm_cl mm_WS mm_NW me_120 := ⟨by decide, kw_565, kw_374, by decide, by decide +kernel, mc_120⟩
theorem sq_326 : mm_Pq mm_ct mm_CM mm_cl mm_WS mm_NW "SelfSorting" "" (.invokevirtual 311, 3, 145, 1) := ⟨kw_567, kw_568, kw_566, _, _, rfl⟩
set_option maxRecDepth 100000 in
theorem ck_121 : mm_cks cX7_fits 0 cd_121 = true := by decide +kernel
set_option maxRecDepth 100000 in
theorem sf_121 : mm_spf cd_121 = [(.invokestatic 51, 3, 125, 0), (.getfield 10, 3, 7, 0), (.getfield 59, 3, 1, 2), (.getfield 22, 3, 7, 2), (.getfield 10, 3, 7, 0), (.invokevirtual 55, 3, 4, 1), (.invokevirtual 311, 3, 145, 1), (.getfield 22, 3, 7, 2), (.getfield 10, 3, 7, 0), (.invokevirtual 146, 3, 3, 1), (.getfield 22, 3, 7, 2), (.getfield 10, 3, 7, 0), (.invokevirtual 146, 3, 3, 1)] := by decide +kernel
theorem mc_121 : mm_MC mm_ct mm_CM mm_cl mm_WS mm_NW me_121 := mm_MC_of rfl rfl ck_121 (by rw [sf_121]; exact List.forall_mem_cons.mpr ⟨sq_241, List.forall_mem_cons.mpr ⟨sq_243, List.forall_mem_cons.mpr ⟨sq_245, List.forall_mem_cons.mpr ⟨sq_242, List.forall_mem_cons.mpr ⟨sq_243, List.forall_mem_cons.mpr ⟨sq_244, List.forall_mem_cons.mpr ⟨sq_326, List.forall_mem_cons.mpr ⟨sq_242, List.forall_mem_cons.mpr ⟨sq_243, List.forall_mem_cons.mpr ⟨sq_275, List.forall_mem_cons.mpr ⟨sq_242, List.forall_mem_cons.mpr ⟨sq_243, List.forall_mem_cons.mpr ⟨sq_275, fun _ h => nomatch h⟩⟩⟩⟩⟩⟩⟩⟩⟩⟩⟩⟩⟩)
theorem mo_121 : mm_MO mm_ct mm_CM mm_cl mm_WS mm_NW me_121 := ⟨by decide, kw_569, kw_374, by decide, by decide +kernel, mc_121⟩
theorem sq_327 : mm_Pq mm_ct mm_CM mm_cl mm_WS mm_NW "SelfSorting" "" (.getfield 16, 3, 7, 1) := ⟨(RX7, TX7, 8), rfl, by decide, by decide, kw_355⟩
theorem sq_328 : mm_Pq mm_ct mm_CM mm_cl mm_WS mm_NW "SelfSorting" "" (.invokevirtual 314, 3, 10, 1) := ⟨kw_571, kw_572, kw_570, _, _, rfl⟩
set_option maxRecDepth 100000 in
theorem ck_122 : mm_cks cX7_image 0 cd_122 = true := by decide +kernel
set_option maxRecDepth 100000 in
theorem sf_122 : mm_spf cd_122 = [(.getfield 16, 3, 7, 1), (.getfield 10, 3, 7, 0), (.invokevirtual 314, 3, 10, 1), (.getfield 10, 3, 7, 0), (.getfield 106, 3, 1, 0), (.getfield 110, 3, 5, 6)] := by decide +kernel
theorem mc_122 : mm_MC mm_ct mm_CM mm_cl mm_WS mm_NW me_122 := mm_MC_of rfl rfl ck_122 (by rw [sf_122]; exact List.forall_mem_cons.mpr ⟨sq_327, List.forall_mem_cons.mpr ⟨sq_243, List.forall_mem_cons.mpr ⟨sq_328, List.forall_mem_cons.mpr ⟨sq_243, List.forall_mem_cons.mpr ⟨sq_264, List.forall_mem_cons.mpr ⟨sq_265, fun _ h => nomatch h⟩⟩⟩⟩⟩⟩)
theorem mo_122 : mm_MO mm_ct mm_CM mm_cl mm_WS mm_NW me_122 := ⟨by decide, kw_573, kw_374, by decide, by decide +kernel, mc_122⟩
set_option maxRecDepth 100000 in
theorem ck_123 : mm_cks cX7_back 0 cd_123 = true := by decide +kernel
set_option maxRecDepth 100000 in
theorem sf_123 : mm_spf cd_123 = [(.getfield 10, 3, 7, 0), (.getfield 16, 3, 7, 1), (.invokevirtual 314, 3, 10, 1), (.getfield 10, 3, 7, 0), (.getfield 106, 3, 1, 0), (.getfield 110, 3, 5, 6)] := by decide +kernel
theorem mc_123 : mm_MC mm_ct mm_CM mm_cl mm_WS mm_NW me_123 := mm_MC_of rfl rfl ck_123 (by rw [sf_123]; exact List.forall_mem_cons.mpr ⟨sq_243, List.forall_mem_cons.mpr ⟨sq_327, List.forall_mem_cons.mpr ⟨sq_328, List.forall_mem_cons.mpr ⟨sq_243, List.forall_mem_cons.mpr ⟨sq_264, List.forall_mem_cons.mpr ⟨sq_265, fun _ h => nomatch h⟩⟩⟩⟩⟩⟩)
theorem mo_123 : mm_MO mm_ct mm_CM mm_cl mm_WS mm_NW me_123 := ⟨by decide, kw_574, kw_374, by decide, by decide +kernel, mc_123⟩
theorem sq_329 : mm_Pq mm_ct mm_CM mm_cl mm_WS mm_NW "SelfSorting" "" (.getfield 73, 3, 1, 9) := ⟨(RX1, TX1, 13), rfl, by decide, by decide, kw_387⟩
theorem sq_330 : mm_Pq mm_ct mm_CM mm_cl mm_WS mm_NW "SelfSorting" "" (.getfield 187, 3, 5, 7) := ⟨(RX5, TX5, 8), rfl, by decide, by decide, kw_466⟩
theorem sq_331 : mm_Pq mm_ct mm_CM mm_cl mm_WS mm_NW "SelfSorting" "" (.getfield 103, 3, 1, 11) := ⟨(RX1, TX1, 13), rfl, by decide, by decide, kw_407⟩
theorem sq_332 : mm_Pq mm_ct mm_CM mm_cl mm_WS mm_NW "SelfSorting" "" (.getfield 318, 3, 1, 7) := ⟨(RX1, TX1, 13), rfl, by decide, by decide, kw_575⟩
theorem sq_333 : mm_Pq mm_ct mm_CM mm_cl mm_WS mm_NW "SelfSorting" "" (.invokevirtual 321, 3, 135, 1) := ⟨kw_577, kw_578, kw_576, _, _, rfl⟩
set_option maxRecDepth 100000 in
theorem ck_124 : mm_cks cX7_about 0 cd_124 = true := by decide +kernel
set_option maxRecDepth 100000 in
theorem sf_124 : mm_spf cd_124 = [(.getfield 10, 3, 7, 0), (.getfield 62, 3, 1, 8), (.getfield 10, 3, 7, 0), (.getfield 106, 3, 1, 0), (.getfield 110, 3, 5, 6), (.getfield 10, 3, 7, 0), (.getfield 106, 3, 1, 0), (.getfield 153, 3, 5, 5), (.getfield 10, 3, 7, 0), (.getfield 73, 3, 1, 9), (.getfield 10, 3, 7, 0), (.getfield 106, 3, 1, 0), (.getfield 187, 3, 5, 7), (.getfield 10, 3, 7, 0), (.getfield 83, 3, 1, 10), (.getfield 10, 3, 7, 0), (.getfield 103, 3, 1, 11), (.getfield 10, 3, 7, 0), (.getfield 318, 3, 1, 7), (.getfield 10, 3, 7, 0), (.getfield 298, 3, 1, 12), (.invokevirtual 321, 3, 135, 1), (.getfield 76, 3, 7, 7)] := by decide +kernel
theorem mc_124 : mm_MC mm_ct mm_CM mm_cl mm_WS mm_NW me_124 := mm_MC_of rfl rfl ck_124 (by rw [sf_124]; exact List.forall_mem_cons.mpr ⟨sq_243, List.forall_mem_cons.mpr ⟨sq_246, List.forall_mem_cons.mpr ⟨sq_243, List.forall_mem_cons.mpr ⟨sq_264, List.forall_mem_cons.mpr ⟨sq_265, List.forall_mem_cons.mpr ⟨sq_243, List.forall_mem_cons.mpr ⟨sq_264, List.forall_mem_cons.mpr ⟨sq_277, List.forall_mem_cons.mpr ⟨sq_243, List.forall_mem_cons.mpr ⟨sq_329, List.forall_mem_cons.mpr ⟨sq_243, List.forall_mem_cons.mpr ⟨sq_264, List.forall_mem_cons.mpr ⟨sq_330, List.forall_mem_cons.mpr ⟨sq_243, List.forall_mem_cons.mpr ⟨sq_254, List.forall_mem_cons.mpr ⟨sq_243, List.forall_mem_cons.mpr ⟨sq_331, List.forall_mem_cons.mpr ⟨sq_243, List.forall_mem_cons.mpr ⟨sq_332, List.forall_mem_cons.mpr ⟨sq_243, List.forall_mem_cons.mpr ⟨sq_322, List.forall_mem_cons.mpr ⟨sq_333, List.forall_mem_cons.mpr ⟨sq_251, fun _ h => nomatch h⟩⟩⟩⟩⟩⟩⟩⟩⟩⟩⟩⟩⟩⟩⟩⟩⟩⟩⟩⟩⟩⟩⟩)
theorem mo_124 : mm_MO mm_ct mm_CM mm_cl mm_WS mm_NW me_124 := ⟨by decide, kw_579, kw_374, by decide, by decide +kernel, mc_124⟩
set_option maxRecDepth 100000 in
theorem ck_125 : mm_cks cX7_isShelf 0 cd_125 = true := by decide +kernel
set_option maxRecDepth 100000 in
theorem sf_125 : mm_spf cd_125 = [] := by decide +kernel
theorem mc_125 : mm_MC mm_ct mm_CM mm_cl mm_WS mm_NW me_125 := mm_MC_of rfl rfl ck_125 (by rw [sf_125]; exact fun _ h => nomatch h)
theorem mo_125 : mm_MO mm_ct mm_CM mm_cl mm_WS mm_NW me_125 := ⟨by decide, kw_580, kw_374, by decide, by decide +kernel, mc_125⟩
set_option maxRecDepth 100000 in
theorem ck_126 : mm_cks cX7_isDigit 0 cd_126 = true := by decide +kernel
set_option maxRecDepth 100000 in
theorem sf_126 : mm_spf cd_126 = [] := by decide +kernel
theorem mc_126 : mm_MC mm_ct mm_CM mm_cl mm_WS mm_NW me_126 := mm_MC_of rfl rfl ck_126 (by rw [sf_126]; exact fun _ h => nomatch h)
theorem mo_126 : mm_MO mm_ct mm_CM mm_cl mm_WS mm_NW me_126 := ⟨by decide, kw_581, kw_374, by decide, by decide +kernel, mc_126⟩
set_option maxRecDepth 100000 in
theorem ck_127 : mm_cks cX7_nibble 0 cd_127 = true := by decide +kernel
set_option maxRecDepth 100000 in
theorem sf_127 : mm_spf cd_127 = [] := by decide +kernel
theorem mc_127 : mm_MC mm_ct mm_CM mm_cl mm_WS mm_NW me_127 := mm_MC_of rfl rfl ck_127 (by rw [sf_127]; exact fun _ h => nomatch h)
theorem mo_127 : mm_MO mm_ct mm_CM mm_cl mm_WS mm_NW me_127 := ⟨by decide, kw_582, kw_374, by decide, by decide +kernel, mc_127⟩
set_option maxRecDepth 100000 in
theorem ck_128 : mm_cks cX7_holds 0 cd_128 = true := by decide +kernel
set_option maxRecDepth 100000 in
theorem sf_128 : mm_spf cd_128 = [] := by decide +kernel
theorem mc_128 : mm_MC mm_ct mm_CM mm_cl mm_WS mm_NW me_128 := mm_MC_of rfl rfl ck_128 (by rw [sf_128]; exact fun _ h => nomatch h)
theorem mo_128 : mm_MO mm_ct mm_CM mm_cl mm_WS mm_NW me_128 := ⟨by decide, kw_583, kw_374, by decide, by decide +kernel, mc_128⟩
set_option maxRecDepth 100000 in
theorem ck_129 : mm_cks cX7_isBook 0 cd_129 = true := by decide +kernel
set_option maxRecDepth 100000 in
theorem sf_129 : mm_spf cd_129 = [(.getfield 10, 3, 7, 0), (.getfield 62, 3, 1, 8)] := by decide +kernel
theorem mc_129 : mm_MC mm_ct mm_CM mm_cl mm_WS mm_NW me_129 := mm_MC_of rfl rfl ck_129 (by rw [sf_129]; exact List.forall_mem_cons.mpr ⟨sq_243, List.forall_mem_cons.mpr ⟨sq_246, fun _ h => nomatch h⟩⟩)
theorem mo_129 : mm_MO mm_ct mm_CM mm_cl mm_WS mm_NW me_129 := ⟨by decide, kw_584, kw_374, by decide, by decide +kernel, mc_129⟩
set_option maxRecDepth 100000 in
theorem ck_130 : mm_cks cX7_isText 0 cd_130 = true := by decide +kernel
set_option maxRecDepth 100000 in
theorem sf_130 : mm_spf cd_130 = [(.getfield 10, 3, 7, 0), (.getfield 83, 3, 1, 10)] := by decide +kernel
theorem mc_130 : mm_MC mm_ct mm_CM mm_cl mm_WS mm_NW me_130 := mm_MC_of rfl rfl ck_130 (by rw [sf_130]; exact List.forall_mem_cons.mpr ⟨sq_243, List.forall_mem_cons.mpr ⟨sq_254, fun _ h => nomatch h⟩⟩)
theorem mo_130 : mm_MO mm_ct mm_CM mm_cl mm_WS mm_NW me_130 := ⟨by decide, kw_585, kw_374, by decide, by decide +kernel, mc_130⟩
set_option maxRecDepth 100000 in
theorem ck_131 : mm_cks cX7_isPlace 0 cd_131 = true := by decide +kernel
set_option maxRecDepth 100000 in
theorem sf_131 : mm_spf cd_131 = [(.getfield 10, 3, 7, 0), (.getfield 106, 3, 1, 0), (.getfield 143, 3, 5, 1)] := by decide +kernel
theorem mc_131 : mm_MC mm_ct mm_CM mm_cl mm_WS mm_NW me_131 := mm_MC_of rfl rfl ck_131 (by rw [sf_131]; exact List.forall_mem_cons.mpr ⟨sq_243, List.forall_mem_cons.mpr ⟨sq_264, List.forall_mem_cons.mpr ⟨sq_274, fun _ h => nomatch h⟩⟩⟩)
theorem mo_131 : mm_MO mm_ct mm_CM mm_cl mm_WS mm_NW me_131 := ⟨by decide, kw_586, kw_374, by decide, by decide +kernel, mc_131⟩
set_option maxRecDepth 100000 in
theorem ck_132 : mm_cks cX7_standsOn 0 cd_132 = true := by decide +kernel
set_option maxRecDepth 100000 in
theorem sf_132 : mm_spf cd_132 = [(.invokevirtual 134, 3, 129, 1), (.getfield 10, 3, 7, 0), (.getfield 106, 3, 1, 0), (.getfield 137, 3, 5, 2)] := by decide +kernel
theorem mc_132 : mm_MC mm_ct mm_CM mm_cl mm_WS mm_NW me_132 := mm_MC_of rfl rfl ck_132 (by rw [sf_132]; exact List.forall_mem_cons.mpr ⟨sq_271, List.forall_mem_cons.mpr ⟨sq_243, List.forall_mem_cons.mpr ⟨sq_264, List.forall_mem_cons.mpr ⟨sq_272, fun _ h => nomatch h⟩⟩⟩⟩)
theorem mo_132 : mm_MO mm_ct mm_CM mm_cl mm_WS mm_NW me_132 := ⟨by decide, kw_587, kw_374, by decide, by decide +kernel, mc_132⟩
set_option maxRecDepth 100000 in
theorem ck_133 : mm_cks cX7_isSet 0 cd_133 = true := by decide +kernel
set_option maxRecDepth 100000 in
theorem sf_133 : mm_spf cd_133 = [(.getfield 10, 3, 7, 0), (.getfield 62, 3, 1, 8), (.invokestatic 256, 3, 288, 0)] := by decide +kernel
theorem mc_133 : mm_MC mm_ct mm_CM mm_cl mm_WS mm_NW me_133 := mm_MC_of rfl rfl ck_133 (by rw [sf_133]; exact List.forall_mem_cons.mpr ⟨sq_243, List.forall_mem_cons.mpr ⟨sq_246, List.forall_mem_cons.mpr ⟨sq_310, fun _ h => nomatch h⟩⟩⟩)
theorem mo_133 : mm_MO mm_ct mm_CM mm_cl mm_WS mm_NW me_133 := ⟨by decide, kw_588, kw_374, by decide, by decide +kernel, mc_133⟩
set_option maxRecDepth 100000 in
theorem ck_134 : mm_cks cX7_feedFour 0 cd_134 = true := by decide +kernel
set_option maxRecDepth 100000 in
theorem sf_134 : mm_spf cd_134 = [(.getfield 76, 3, 7, 7), (.getfield 47, 3, 7, 6), (.getfield 76, 3, 7, 7), (.getfield 76, 3, 7, 7), (.putfield 76, 3, 7, 7)] := by decide +kernel
theorem mc_134 : mm_MC mm_ct mm_CM mm_cl mm_WS mm_NW me_134 := mm_MC_of rfl rfl ck_134 (by rw [sf_134]; exact List.forall_mem_cons.mpr ⟨sq_251, List.forall_mem_cons.mpr ⟨sq_257, List.forall_mem_cons.mpr ⟨sq_251, List.forall_mem_cons.mpr ⟨sq_251, List.forall_mem_cons.mpr ⟨sq_253, fun _ h => nomatch h⟩⟩⟩⟩⟩)
theorem mo_134 : mm_MO mm_ct mm_CM mm_cl mm_WS mm_NW me_134 := ⟨by decide, kw_589, kw_374, by decide, by decide +kernel, mc_134⟩
set_option maxRecDepth 100000 in
theorem ck_135 : mm_cks cX7_booksOnFloor 0 cd_135 = true := by decide +kernel
set_option maxRecDepth 100000 in
theorem sf_135 : mm_spf cd_135 = [(.getfield 10, 3, 7, 0), (.getfield 62, 3, 1, 8), (.getfield 10, 3, 7, 0), (.getfield 106, 3, 1, 0), (.getfield 137, 3, 5, 2)] := by decide +kernel
theorem mc_135 : mm_MC mm_ct mm_CM mm_cl mm_WS mm_NW me_135 := mm_MC_of rfl rfl ck_135 (by rw [sf_135]; exact List.forall_mem_cons.mpr ⟨sq_243, List.forall_mem_cons.mpr ⟨sq_246, List.forall_mem_cons.mpr ⟨sq_243, List.forall_mem_cons.mpr ⟨sq_264, List.forall_mem_cons.mpr ⟨sq_272, fun _ h => nomatch h⟩⟩⟩⟩⟩)
theorem mo_135 : mm_MO mm_ct mm_CM mm_cl mm_WS mm_NW me_135 := ⟨by decide, kw_590, kw_374, by decide, by decide +kernel, mc_135⟩
theorem sq_334 : mm_Pq mm_ct mm_CM mm_cl mm_WS mm_NW "SelfSorting" "" (.invokevirtual 324, 3, 137, 1) := ⟨kw_592, kw_593, kw_591, _, _, rfl⟩
theorem sq_335 : mm_Pq mm_ct mm_CM mm_cl mm_WS mm_NW "SelfSorting" "" (.putfield 110, 3, 5, 6) := ⟨⟨(RX5, TX5, 8), rfl, by decide, by decide, kw_410⟩, fun r h g => by cases h; cases g⟩
theorem sq_336 : mm_Pq mm_ct mm_CM mm_cl mm_WS mm_NW "SelfSorting" "" (.invokevirtual 327, 3, 139, 1) := ⟨kw_595, kw_596, kw_594, _, _, rfl⟩
set_option maxRecDepth 100000 in
theorem ck_136 : mm_cks cX7_oneNight 0 cd_136 = true := by decide +kernel
set_option maxRecDepth 100000 in
theorem sf_136 : mm_spf cd_136 = [(.getfield 10, 3, 7, 0), (.invokevirtual 123, 3, 11, 1), (.getfield 10, 3, 7, 0), (.getfield 106, 3, 1, 0), (.getfield 110, 3, 5, 6), (.getfield 143, 3, 5, 1), (.invokevirtual 324, 3, 137, 1), (.getfield 110, 3, 5, 6), (.putfield 110, 3, 5, 6), (.invokevirtual 327, 3, 139, 1)] := by decide +kernel
theorem mc_136 : mm_MC mm_ct mm_CM mm_cl mm_WS mm_NW me_136 := mm_MC_of rfl rfl ck_136 (by rw [sf_136]; exact List.forall_mem_cons.mpr ⟨sq_243, List.forall_mem_cons.mpr ⟨sq_268, List.forall_mem_cons.mpr ⟨sq_243, List.forall_mem_cons.mpr ⟨sq_264, List.forall_mem_cons.mpr ⟨sq_265, List.forall_mem_cons.mpr ⟨sq_274, List.forall_mem_cons.mpr ⟨sq_334, List.forall_mem_cons.mpr ⟨sq_265, List.forall_mem_cons.mpr ⟨sq_335, List.forall_mem_cons.mpr ⟨sq_336, fun _ h => nomatch h⟩⟩⟩⟩⟩⟩⟩⟩⟩⟩)
theorem mo_136 : mm_MO mm_ct mm_CM mm_cl mm_WS mm_NW me_136 := ⟨by decide, kw_597, kw_374, by decide, by decide +kernel, mc_136⟩
theorem sq_337 : mm_Pq mm_ct mm_CM mm_cl mm_WS mm_NW "SelfSorting" "" (.getfield 330, 3, 5, 0) := ⟨(RX5, TX5, 8), rfl, by decide, by decide, kw_598⟩
theorem sq_338 : mm_Pq mm_ct mm_CM mm_cl mm_WS mm_NW "SelfSorting" "" (.invokevirtual 333, 3, 2, 1) := ⟨kw_99, kw_100, kw_599, _, _, rfl⟩
theorem sq_339 : mm_Pq mm_ct mm_CM mm_cl mm_WS mm_NW "SelfSorting" "" (.invokevirtual 337, 3, 14, 1) := ⟨kw_95, kw_96, kw_600, _, _, rfl⟩
theorem sq_340 : mm_Pq mm_ct mm_CM mm_cl mm_WS mm_NW "SelfSorting" "" (.invokevirtual 340, 3, 74, 1) := ⟨kw_602, kw_603, kw_601, _, _, rfl⟩
set_option maxRecDepth 100000 in
theorem ck_137 : mm_cks cX7_changeTwo 0 cd_137 = true := by decide +kernel
set_option maxRecDepth 100000 in
theorem sf_137 : mm_spf cd_137 = [(.getfield 10, 3, 7, 0), (.getfield 106, 3, 1, 0), (.getfield 330, 3, 5, 0), (.getfield 330, 3, 5, 0), (.getfield 22, 3, 7, 2), (.getfield 10, 3, 7, 0), (.invokevirtual 333, 3, 2, 1), (.invokestatic 256, 3, 288, 0), (.getfield 10, 3, 7, 0), (.invokevirtual 337, 3, 14, 1), (.invokevirtual 340, 3, 74, 1), (.invokevirtual 340, 3, 74, 1), (.invokevirtual 126, 3, 71, 1)] := by decide +kernel
theorem mc_137 : mm_MC mm_ct mm_CM mm_cl mm_WS mm_NW me_137 := mm_MC_of rfl rfl ck_137 (by rw [sf_137]; exact List.forall_mem_cons.mpr ⟨sq_243, List.forall_mem_cons.mpr ⟨sq_264, List.forall_mem_cons.mpr ⟨sq_337, List.forall_mem_cons.mpr ⟨sq_337, List.forall_mem_cons.mpr ⟨sq_242, List.forall_mem_cons.mpr ⟨sq_243, List.forall_mem_cons.mpr ⟨sq_338, List.forall_mem_cons.mpr ⟨sq_310, List.forall_mem_cons.mpr ⟨sq_243, List.forall_mem_cons.mpr ⟨sq_339, List.forall_mem_cons.mpr ⟨sq_340, List.forall_mem_cons.mpr ⟨sq_340, List.forall_mem_cons.mpr ⟨sq_269, fun _ h => nomatch h⟩⟩⟩⟩⟩⟩⟩⟩⟩⟩⟩⟩⟩)
theorem mo_137 : mm_MO mm_ct mm_CM mm_cl mm_WS mm_NW me_137 := ⟨by decide, kw_604, kw_374, by decide, by decide +kernel, mc_137⟩
theorem sq_341 : mm_Pq mm_ct mm_CM mm_cl mm_WS mm_NW "SelfSorting" "" (.putfield 153, 3, 5, 5) := ⟨⟨(RX5, TX5, 8), rfl, by decide, by decide, kw_440⟩, fun r h g => by cases h; cases g⟩
set_option maxRecDepth 100000 in
theorem ck_138 : mm_cks cX7_turnWet 0 cd_138 = true := by decide +kernel
set_option maxRecDepth 100000 in
theorem sf_138 : mm_spf cd_138 = [(.getfield 10, 3, 7, 0), (.getfield 106, 3, 1, 0), (.putfield 153, 3, 5, 5), (.invokevirtual 327, 3, 139, 1)] := by decide +kernel
theorem mc_138 : mm_MC mm_ct mm_CM mm_cl mm_WS mm_NW me_138 := mm_MC_of rfl rfl ck_138 (by rw [sf_138]; exact List.forall_mem_cons.mpr ⟨sq_243, List.forall_mem_cons.mpr ⟨sq_264, List.forall_mem_cons.mpr ⟨sq_341, List.forall_mem_cons.mpr ⟨sq_336, fun _ h => nomatch h⟩⟩⟩⟩)
theorem mo_138 : mm_MO mm_ct mm_CM mm_cl mm_WS mm_NW me_138 := ⟨by decide, kw_605, kw_374, by decide, by decide +kernel, mc_138⟩
theorem sq_342 : mm_Pq mm_ct mm_CM mm_cl mm_WS mm_NW "SelfSorting" "" (.invokevirtual 343, 3, 5, 1) := ⟨kw_607, kw_608, kw_606, _, _, rfl⟩
theorem sq_343 : mm_Pq mm_ct mm_CM mm_cl mm_WS mm_NW "SelfSorting" "" (.invokestatic 346, 3, 128, 0) := ⟨kw_97, Or.inl kw_609⟩
set_option maxRecDepth 100000 in
theorem ck_139 : mm_cks cX7_fall 0 cd_139 = true := by decide +kernel
set_option maxRecDepth 100000 in
theorem sf_139 : mm_spf cd_139 = [(.getfield 10, 3, 7, 0), (.getfield 106, 3, 1, 0), (.getfield 143, 3, 5, 1), (.getfield 22, 3, 7, 2), (.getfield 10, 3, 7, 0), (.invokevirtual 343, 3, 5, 1), (.getfield 10, 3, 7, 0), (.getfield 62, 3, 1, 8), (.invokestatic 346, 3, 128, 0), (.invokevirtual 140, 3, 72, 1), (.getfield 22, 3, 7, 2), (.getfield 10, 3, 7, 0), (.invokevirtual 55, 3, 4, 1), (.getfield 143, 3, 5, 1), (.getfield 10, 3, 7, 0), (.getfield 59, 3, 1, 2), (.getfield 330, 3, 5, 0), (.getfield 22, 3, 7, 2), (.getfield 10, 3, 7, 0), (.invokevirtual 146, 3, 3, 1), (.invokevirtual 140, 3, 72, 1), (.getfield 143, 3, 5, 1)] := by decide +kernel
theorem mc_139 : mm_MC mm_ct mm_CM mm_cl mm_WS mm_NW me_139 := mm_MC_of rfl rfl ck_139 (by rw [sf_139]; exact List.forall_mem_cons.mpr ⟨sq_243, List.forall_mem_cons.mpr ⟨sq_264, List.forall_mem_cons.mpr ⟨sq_274, List.forall_mem_cons.mpr ⟨sq_242, List.forall_mem_cons.mpr ⟨sq_243, List.forall_mem_cons.mpr ⟨sq_342, List.forall_mem_cons.mpr ⟨sq_243, List.forall_mem_cons.mpr ⟨sq_246, List.forall_mem_cons.mpr ⟨sq_343, List.forall_mem_cons.mpr ⟨sq_273, List.forall_mem_cons.mpr ⟨sq_242, List.forall_mem_cons.mpr ⟨sq_243, List.forall_mem_cons.mpr ⟨sq_244, List.forall_mem_cons.mpr ⟨sq_274, List.forall_mem_cons.mpr ⟨sq_243, List.forall_mem_cons.mpr ⟨sq_245, List.forall_mem_cons.mpr ⟨sq_337, List.forall_mem_cons.mpr ⟨sq_242, List.forall_mem_cons.mpr ⟨sq_243, List.forall_mem_cons.mpr ⟨sq_275, List.forall_mem_cons.mpr ⟨sq_273, List.forall_mem_cons.mpr ⟨sq_274, fun _ h => nomatch h⟩⟩⟩⟩⟩⟩⟩⟩⟩⟩⟩⟩⟩⟩⟩⟩⟩⟩⟩⟩⟩⟩)
theorem mo_139 : mm_MO mm_ct mm_CM mm_cl mm_WS mm_NW me_139 := ⟨by decide, kw_610, kw_374, by decide, by decide +kernel, mc_139⟩
theorem sq_344 : mm_Pq mm_ct mm_CM mm_cl mm_WS mm_NW "SelfSorting" "" (.invokevirtual 349, 3, 75, 1) := ⟨kw_612, kw_613, kw_611, _, _, rfl⟩
set_option maxRecDepth 100000 in
theorem ck_140 : mm_cks cX7_oneDraw 0 cd_140 = true := by decide +kernel
set_option maxRecDepth 100000 in
theorem sf_140 : mm_spf cd_140 = [(.getfield 10, 3, 7, 0), (.getfield 62, 3, 1, 8), (.getfield 10, 3, 7, 0), (.getfield 106, 3, 1, 0), (.getfield 187, 3, 5, 7), (.getfield 10, 3, 7, 0), (.getfield 62, 3, 1, 8), (.invokevirtual 349, 3, 75, 1), (.getfield 137, 3, 5, 2), (.getfield 143, 3, 5, 1), (.invokevirtual 197, 3, 70, 1), (.getfield 187, 3, 5, 7), (.getfield 143, 3, 5, 1), (.invokevirtual 349, 3, 75, 1), (.invokevirtual 140, 3, 72, 1), (.invokevirtual 149, 3, 73, 1), (.getfield 187, 3, 5, 7), (.getfield 153, 3, 5, 5), (.invokevirtual 157, 3, 138, 1), (.invokevirtual 349, 3, 75, 1)] := by decide +kernel
theorem mc_140 : mm_MC mm_ct mm_CM mm_cl mm_WS mm_NW me_140 := mm_MC_of rfl rfl ck_140 (by rw [sf_140]; exact List.forall_mem_cons.mpr ⟨sq_243, List.forall_mem_cons.mpr ⟨sq_246, List.forall_mem_cons.mpr ⟨sq_243, List.forall_mem_cons.mpr ⟨sq_264, List.forall_mem_cons.mpr ⟨sq_330, List.forall_mem_cons.mpr ⟨sq_243, List.forall_mem_cons.mpr ⟨sq_246, List.forall_mem_cons.mpr ⟨sq_344, List.forall_mem_cons.mpr ⟨sq_272, List.forall_mem_cons.mpr ⟨sq_274, List.forall_mem_cons.mpr ⟨sq_290, List.forall_mem_cons.mpr ⟨sq_330, List.forall_mem_cons.mpr ⟨sq_274, List.forall_mem_cons.mpr ⟨sq_344, List.forall_mem_cons.mpr ⟨sq_273, List.forall_mem_cons.mpr ⟨sq_276, List.forall_mem_cons.mpr ⟨sq_330, List.forall_mem_cons.mpr ⟨sq_277, List.forall_mem_cons.mpr ⟨sq_278, List.forall_mem_cons.mpr ⟨sq_344, fun _ h => nomatch h⟩⟩⟩⟩⟩⟩⟩⟩⟩⟩⟩⟩⟩⟩⟩⟩⟩⟩⟩⟩)
theorem mo_140 : mm_MO mm_ct mm_CM mm_cl mm_WS mm_NW me_140 := ⟨by decide, kw_614, kw_374, by decide, by decide +kernel, mc_140⟩
set_option maxRecDepth 100000 in
theorem ck_141 : mm_cks cX7_lookAhead 0 cd_141 = true := by decide +kernel
set_option maxRecDepth 100000 in
theorem sf_141 : mm_spf cd_141 = [(.getfield 10, 3, 7, 0), (.getfield 62, 3, 1, 8), (.getfield 10, 3, 7, 0), (.getfield 106, 3, 1, 0), (.getfield 137, 3, 5, 2), (.getfield 36, 3, 7, 4), (.getfield 10, 3, 7, 0), (.getfield 22, 3, 7, 2), (.invokevirtual 228, 3, 16, 1)] := by decide +kernel
theorem mc_141 : mm_MC mm_ct mm_CM mm_cl mm_WS mm_NW me_141 := mm_MC_of rfl rfl ck_141 (by rw [sf_141]; exact List.forall_mem_cons.mpr ⟨sq_243, List.forall_mem_cons.mpr ⟨sq_246, List.forall_mem_cons.mpr ⟨sq_243, List.forall_mem_cons.mpr ⟨sq_264, List.forall_mem_cons.mpr ⟨sq_272, List.forall_mem_cons.mpr ⟨sq_295, List.forall_mem_cons.mpr ⟨sq_243, List.forall_mem_cons.mpr ⟨sq_242, List.forall_mem_cons.mpr ⟨sq_300, fun _ h => nomatch h⟩⟩⟩⟩⟩⟩⟩⟩⟩)
theorem mo_141 : mm_MO mm_ct mm_CM mm_cl mm_WS mm_NW me_141 := ⟨by decide, kw_615, kw_374, by decide, by decide +kernel, mc_141⟩
theorem sq_345 : mm_Pq mm_ct mm_CM mm_cl mm_WS mm_NW "SelfSorting" "" (.invokevirtual 352, 3, 143, 1) := ⟨kw_617, kw_618, kw_616, _, _, rfl⟩
set_option maxRecDepth 100000 in
theorem ck_142 : mm_cks cX7_fittingLaws 0 cd_142 = true := by decide +kernel
set_option maxRecDepth 100000 in
theorem sf_142 : mm_spf cd_142 = [(.getfield 10, 3, 7, 0), (.getfield 298, 3, 1, 12), (.getfield 10, 3, 7, 0), (.getfield 301, 3, 1, 5), (.invokevirtual 352, 3, 143, 1)] := by decide +kernel
theorem mc_142 : mm_MC mm_ct mm_CM mm_cl mm_WS mm_NW me_142 := mm_MC_of rfl rfl ck_142 (by rw [sf_142]; exact List.forall_mem_cons.mpr ⟨sq_243, List.forall_mem_cons.mpr ⟨sq_322, List.forall_mem_cons.mpr ⟨sq_243, List.forall_mem_cons.mpr ⟨sq_323, List.forall_mem_cons.mpr ⟨sq_345, fun _ h => nomatch h⟩⟩⟩⟩⟩)
theorem mo_142 : mm_MO mm_ct mm_CM mm_cl mm_WS mm_NW me_142 := ⟨by decide, kw_619, kw_374, by decide, by decide +kernel, mc_142⟩
set_option maxRecDepth 100000 in
theorem ck_143 : mm_cks cX7_pushingLaws 0 cd_143 = true := by decide +kernel
set_option maxRecDepth 100000 in
theorem sf_143 : mm_spf cd_143 = [(.getfield 22, 3, 7, 2), (.getfield 10, 3, 7, 0), (.invokevirtual 200, 3, 1, 1)] := by decide +kernel
theorem mc_143 : mm_MC mm_ct mm_CM mm_cl mm_WS mm_NW me_143 := mm_MC_of rfl rfl ck_143 (by rw [sf_143]; exact List.forall_mem_cons.mpr ⟨sq_242, List.forall_mem_cons.mpr ⟨sq_243, List.forall_mem_cons.mpr ⟨sq_291, fun _ h => nomatch h⟩⟩⟩)
theorem mo_143 : mm_MO mm_ct mm_CM mm_cl mm_WS mm_NW me_143 := ⟨by decide, kw_620, kw_374, by decide, by decide +kernel, mc_143⟩
theorem sq_346 : mm_Pq mm_ct mm_CM mm_cl mm_WS mm_NW "SelfSorting" "" (.invokestatic 356, 3, 0, 5) := ⟨kw_621, kw_151, kw_149, kw_152⟩
set_option maxRecDepth 100000 in
theorem ck_144 : mm_cks cX7_mostAlike 0 cd_144 = true := by decide +kernel
set_option maxRecDepth 100000 in
theorem sf_144 : mm_spf cd_144 = [(.invokevirtual 352, 3, 143, 1), (.invokestatic 256, 3, 288, 0), (.invokestatic 256, 3, 288, 0), (.invokestatic 356, 3, 0, 5)] := by decide +kernel
theorem mc_144 : mm_MC mm_ct mm_CM mm_cl mm_WS mm_NW me_144 := mm_MC_of rfl rfl ck_144 (by rw [sf_144]; exact List.forall_mem_cons.mpr ⟨sq_345, List.forall_mem_cons.mpr ⟨sq_310, List.forall_mem_cons.mpr ⟨sq_310, List.forall_mem_cons.mpr ⟨sq_346, fun _ h => nomatch h⟩⟩⟩⟩)
theorem mo_144 : mm_MO mm_ct mm_CM mm_cl mm_WS mm_NW me_144 := ⟨by decide, kw_622, kw_374, by decide, by decide +kernel, mc_144⟩
set_option maxRecDepth 100000 in
theorem ck_145 : mm_cks cX7_thinnestOut 0 cd_145 = true := by decide +kernel
set_option maxRecDepth 100000 in
theorem sf_145 : mm_spf cd_145 = [(.getfield 10, 3, 7, 0), (.getfield 62, 3, 1, 8), (.getfield 10, 3, 7, 0), (.getfield 106, 3, 1, 0), (.getfield 137, 3, 5, 2), (.invokestatic 346, 3, 128, 0), (.getfield 22, 3, 7, 2), (.getfield 10, 3, 7, 0), (.invokevirtual 146, 3, 3, 1)] := by decide +kernel
theorem mc_145 : mm_MC mm_ct mm_CM mm_cl mm_WS mm_NW me_145 := mm_MC_of rfl rfl ck_145 (by rw [sf_145]; exact List.forall_mem_cons.mpr ⟨sq_243, List.forall_mem_cons.mpr ⟨sq_246, List.forall_mem_cons.mpr ⟨sq_243, List.forall_mem_cons.mpr ⟨sq_264, List.forall_mem_cons.mpr ⟨sq_272, List.forall_mem_cons.mpr ⟨sq_343, List.forall_mem_cons.mpr ⟨sq_242, List.forall_mem_cons.mpr ⟨sq_243, List.forall_mem_cons.mpr ⟨sq_275, fun _ h => nomatch h⟩⟩⟩⟩⟩⟩⟩⟩⟩)
theorem mo_145 : mm_MO mm_ct mm_CM mm_cl mm_WS mm_NW me_145 := ⟨by decide, kw_623, kw_374, by decide, by decide +kernel, mc_145⟩
theorem sq_347 : mm_Pq mm_ct mm_CM mm_cl mm_WS mm_NW "SelfSortingModel" "" (.invokespecial 1, 3, 0, 3) := ⟨kw_624, kw_1356, kw_1357⟩
theorem sq_348 : mm_Pq mm_ct mm_CM mm_cl mm_WS mm_NW "SelfSortingModel" "" (.newarray .int, 2, 0, 0) := kw_1
theorem sq_349 : mm_Pq mm_ct mm_CM mm_cl mm_WS mm_NW "SelfSortingModel" "" (.putfield 7, 3, 8, 0) := ⟨⟨(RX8, TX8, 43), rfl, by decide, by decide, kw_625⟩, fun r h g => by cases h; rfl⟩
theorem sq_350 : mm_Pq mm_ct mm_CM mm_cl mm_WS mm_NW "SelfSortingModel" "" (.putfield 13, 3, 8, 1) := ⟨⟨(RX8, TX8, 43), rfl, by decide, by decide, kw_626⟩, fun r h g => by cases h; rfl⟩
theorem sq_351 : mm_Pq mm_ct mm_CM mm_cl mm_WS mm_NW "SelfSortingModel" "" (.putfield 16, 3, 8, 2) := ⟨⟨(RX8, TX8, 43), rfl, by decide, by decide, kw_627⟩, fun r h g => by cases h; rfl⟩
theorem sq_352 : mm_Pq mm_ct mm_CM mm_cl mm_WS mm_NW "SelfSortingModel" "" (.putfield 19, 3, 8, 3) := ⟨⟨(RX8, TX8, 43), rfl, by decide, by decide, kw_628⟩, fun r h g => by cases h; rfl⟩
theorem sq_353 : mm_Pq mm_ct mm_CM mm_cl mm_WS mm_NW "SelfSortingModel" "" (.putfield 22, 3, 8, 5) := ⟨⟨(RX8, TX8, 43), rfl, by decide, by decide, kw_629⟩, fun r h g => by cases h; cases g⟩
theorem sq_354 : mm_Pq mm_ct mm_CM mm_cl mm_WS mm_NW "SelfSortingModel" "" (.putfield 26, 3, 8, 6) := ⟨⟨(RX8, TX8, 43), rfl, by decide, by decide, kw_630⟩, fun r h g => by cases h; cases g⟩
theorem sq_355 : mm_Pq mm_ct mm_CM mm_cl mm_WS mm_NW "SelfSortingModel" "" (.putfield 29, 3, 8, 16) := ⟨⟨(RX8, TX8, 43), rfl, by decide, by decide, kw_631⟩, fun r h g => by cases h; rfl⟩
theorem sq_356 : mm_Pq mm_ct mm_CM mm_cl mm_WS mm_NW "SelfSortingModel" "" (.putfield 32, 3, 8, 22) := ⟨⟨(RX8, TX8, 43), rfl, by decide, by decide, kw_632⟩, fun r h g => by cases h; rfl⟩
theorem sq_357 : mm_Pq mm_ct mm_CM mm_cl mm_WS mm_NW "SelfSortingModel" "" (.newarray .long, 2, 0, 0) := kw_90
theorem sq_358 : mm_Pq mm_ct mm_CM mm_cl mm_WS mm_NW "SelfSortingModel" "" (.putfield 35, 3, 8, 23) := ⟨⟨(RX8, TX8, 43), rfl, by decide, by decide, kw_633⟩, fun r h g => by cases h; rfl⟩
theorem sq_359 : mm_Pq mm_ct mm_CM mm_cl mm_WS mm_NW "SelfSortingModel" "" (.newarray .boolean, 2, 0, 0) := kw_634
theorem sq_360 : mm_Pq mm_ct mm_CM mm_cl mm_WS mm_NW "SelfSortingModel" "" (.putfield 39, 3, 8, 24) := ⟨⟨(RX8, TX8, 43), rfl, by decide, by decide, kw_635⟩, fun r h g => by cases h; rfl⟩
theorem sq_361 : mm_Pq mm_ct mm_CM mm_cl mm_WS mm_NW "SelfSortingModel" "" (.putfield 43, 3, 8, 26) := ⟨⟨(RX8, TX8, 43), rfl, by decide, by decide, kw_636⟩, fun r h g => by cases h; rfl⟩
theorem sq_362 : mm_Pq mm_ct mm_CM mm_cl mm_WS mm_NW "SelfSortingModel" "" (.putfield 46, 3, 8, 27) := ⟨⟨(RX8, TX8, 43), rfl, by decide, by decide, kw_637⟩, fun r h g => by cases h; rfl⟩
theorem sq_363 : mm_Pq mm_ct mm_CM mm_cl mm_WS mm_NW "SelfSortingModel" "" (.putfield 49, 3, 8, 29) := ⟨⟨(RX8, TX8, 43), rfl, by decide, by decide, kw_638⟩, fun r h g => by cases h; rfl⟩
theorem sq_364 : mm_Pq mm_ct mm_CM mm_cl mm_WS mm_NW "SelfSortingModel" "" (.putfield 52, 3, 8, 30) := ⟨⟨(RX8, TX8, 43), rfl, by decide, by decide, kw_639⟩, fun r h g => by cases h; rfl⟩
theorem sq_365 : mm_Pq mm_ct mm_CM mm_cl mm_WS mm_NW "SelfSortingModel" "" (.putfield 55, 3, 8, 31) := ⟨⟨(RX8, TX8, 43), rfl, by decide, by decide, kw_640⟩, fun r h g => by cases h; rfl⟩
theorem sq_366 : mm_Pq mm_ct mm_CM mm_cl mm_WS mm_NW "SelfSortingModel" "" (.putfield 58, 3, 8, 32) := ⟨⟨(RX8, TX8, 43), rfl, by decide, by decide, kw_641⟩, fun r h g => by cases h; rfl⟩
theorem sq_367 : mm_Pq mm_ct mm_CM mm_cl mm_WS mm_NW "SelfSortingModel" "" (.putfield 61, 3, 8, 33) := ⟨⟨(RX8, TX8, 43), rfl, by decide, by decide, kw_642⟩, fun r h g => by cases h; rfl⟩
theorem sq_368 : mm_Pq mm_ct mm_CM mm_cl mm_WS mm_NW "SelfSortingModel" "" (.putfield 64, 3, 8, 36) := ⟨⟨(RX8, TX8, 43), rfl, by decide, by decide, kw_643⟩, fun r h g => by cases h; rfl⟩
theorem sq_369 : mm_Pq mm_ct mm_CM mm_cl mm_WS mm_NW "SelfSortingModel" "" (.putfield 67, 3, 8, 37) := ⟨⟨(RX8, TX8, 43), rfl, by decide, by decide, kw_644⟩, fun r h g => by cases h; rfl⟩
theorem sq_370 : mm_Pq mm_ct mm_CM mm_cl mm_WS mm_NW "SelfSortingModel" "" (.putfield 70, 3, 8, 38) := ⟨⟨(RX8, TX8, 43), rfl, by decide, by decide, kw_645⟩, fun r h g => by cases h; rfl⟩
theorem sq_371 : mm_Pq mm_ct mm_CM mm_cl mm_WS mm_NW "SelfSortingModel" "" (.putfield 73, 3, 8, 39) := ⟨⟨(RX8, TX8, 43), rfl, by decide, by decide, kw_646⟩, fun r h g => by cases h; rfl⟩
theorem sq_372 : mm_Pq mm_ct mm_CM mm_cl mm_WS mm_NW "SelfSortingModel" "" (.putfield 76, 3, 8, 40) := ⟨⟨(RX8, TX8, 43), rfl, by decide, by decide, kw_647⟩, fun r h g => by cases h; rfl⟩
theorem sq_373 : mm_Pq mm_ct mm_CM mm_cl mm_WS mm_NW "SelfSortingModel" "" (.putfield 79, 3, 8, 41) := ⟨⟨(RX8, TX8, 43), rfl, by decide, by decide, kw_648⟩, fun r h g => by cases h; rfl⟩
theorem sq_374 : mm_Pq mm_ct mm_CM mm_cl mm_WS mm_NW "SelfSortingModel" "" (.putfield 82, 3, 8, 42) := ⟨⟨(RX8, TX8, 43), rfl, by decide, by decide, kw_649⟩, fun r h g => by cases h; rfl⟩
theorem sq_375 : mm_Pq mm_ct mm_CM mm_cl mm_WS mm_NW "SelfSortingModel" "" (.getfield 7, 3, 8, 0) := ⟨(RX8, TX8, 43), rfl, by decide, by decide, kw_625⟩
theorem sq_376 : mm_Pq mm_ct mm_CM mm_cl mm_WS mm_NW "SelfSortingModel" "" (.getfield 13, 3, 8, 1) := ⟨(RX8, TX8, 43), rfl, by decide, by decide, kw_626⟩
theorem sq_377 : mm_Pq mm_ct mm_CM mm_cl mm_WS mm_NW "SelfSortingModel" "" (.invokestatic 85, 3, 147, 0) := ⟨kw_651, Or.inl kw_650⟩
set_option maxRecDepth 100000 in
theorem ck_146 : mm_cks cX8_init 0 cd_146 = true := by decide +kernel
set_option maxRecDepth 100000 in
theorem sf_146 : mm_spf cd_146 = [(.invokespecial 1, 3, 0, 3), (.newarray .int, 2, 0, 0), (.putfield 7, 3, 8, 0), (.newarray .int, 2, 0, 0), (.putfield 13, 3, 8, 1), (.newarray .int, 2, 0, 0), (.putfield 16, 3, 8, 2), (.newarray .int, 2, 0, 0), (.putfield 19, 3, 8, 3), (.putfield 22, 3, 8, 5), (.putfield 26, 3, 8, 6), (.newarray .int, 2, 0, 0), (.putfield 29, 3, 8, 16), (.newarray .int, 2, 0, 0), (.putfield 32, 3, 8, 22), (.newarray .long, 2, 0, 0), (.putfield 35, 3, 8, 23), (.newarray .boolean, 2, 0, 0), (.putfield 39, 3, 8, 24), (.newarray .boolean, 2, 0, 0), (.putfield 43, 3, 8, 26), (.newarray .int, 2, 0, 0), (.putfield 46, 3, 8, 27), (.newarray .long, 2, 0, 0), (.putfield 49, 3, 8, 29), (.newarray .int, 2, 0, 0), (.putfield 52, 3, 8, 30), (.newarray .int, 2, 0, 0), (.putfield 55, 3, 8, 31), (.newarray .boolean, 2, 0, 0), (.putfield 58, 3, 8, 32), (.newarray .int, 2, 0, 0), (.putfield 61, 3, 8, 33), (.newarray .int, 2, 0, 0), (.putfield 64, 3, 8, 36), (.newarray .int, 2, 0, 0), (.putfield 67, 3, 8, 37), (.newarray .int, 2, 0, 0), (.putfield 70, 3, 8, 38), (.newarray .int, 2, 0, 0), (.putfield 73, 3, 8, 39), (.newarray .int, 2, 0, 0), (.putfield 76, 3, 8, 40), (.newarray .int, 2, 0, 0), (.putfield 79, 3, 8, 41), (.newarray .int, 2, 0, 0), (.putfield 82, 3, 8, 42), (.getfield 7, 3, 8, 0), (.getfield 7, 3, 8, 0), (.getfield 7, 3, 8, 0), (.getfield 7, 3, 8, 0), (.getfield 7, 3, 8, 0), (.getfield 13, 3, 8, 1), (.invokestatic 85, 3, 147, 0)] := by decide +kernel
theorem mc_146 : mm_MC mm_ct mm_CM mm_cl mm_WS mm_NW me_146 := mm_MC_of rfl rfl ck_146 (by rw [sf_146]; exact List.forall_mem_cons.mpr ⟨sq_347, List.forall_mem_cons.mpr ⟨sq_348, List.forall_mem_cons.mpr ⟨sq_349, List.forall_mem_cons.mpr ⟨sq_348, List.forall_mem_cons.mpr ⟨sq_350, List.forall_mem_cons.mpr ⟨sq_348, List.forall_mem_cons.mpr ⟨sq_351, List.forall_mem_cons.mpr ⟨sq_348, List.forall_mem_cons.mpr ⟨sq_352, List.forall_mem_cons.mpr ⟨sq_353, List.forall_mem_cons.mpr ⟨sq_354, List.forall_mem_cons.mpr ⟨sq_348, List.forall_mem_cons.mpr ⟨sq_355, List.forall_mem_cons.mpr ⟨sq_348, List.forall_mem_cons.mpr ⟨sq_356, List.forall_mem_cons.mpr ⟨sq_357, List.forall_mem_cons.mpr ⟨sq_358, List.forall_mem_cons.mpr ⟨sq_359, List.forall_mem_cons.mpr ⟨sq_360, List.forall_mem_cons.mpr ⟨sq_359, List.forall_mem_cons.mpr ⟨sq_361, List.forall_mem_cons.mpr ⟨sq_348, List.forall_mem_cons.mpr ⟨sq_362, List.forall_mem_cons.mpr ⟨sq_357, List.forall_mem_cons.mpr ⟨sq_363, List.forall_mem_cons.mpr ⟨sq_348, List.forall_mem_cons.mpr ⟨sq_364, List.forall_mem_cons.mpr ⟨sq_348, List.forall_mem_cons.mpr ⟨sq_365, List.forall_mem_cons.mpr ⟨sq_359, List.forall_mem_cons.mpr ⟨sq_366, List.forall_mem_cons.mpr ⟨sq_348, List.forall_mem_cons.mpr ⟨sq_367, List.forall_mem_cons.mpr ⟨sq_348, List.forall_mem_cons.mpr ⟨sq_368, List.forall_mem_cons.mpr ⟨sq_348, List.forall_mem_cons.mpr ⟨sq_369, List.forall_mem_cons.mpr ⟨sq_348, List.forall_mem_cons.mpr ⟨sq_370, List.forall_mem_cons.mpr ⟨sq_348, List.forall_mem_cons.mpr ⟨sq_371, List.forall_mem_cons.mpr ⟨sq_348, List.forall_mem_cons.mpr ⟨sq_372, List.forall_mem_cons.mpr ⟨sq_348, List.forall_mem_cons.mpr ⟨sq_373, List.forall_mem_cons.mpr ⟨sq_348, List.forall_mem_cons.mpr ⟨sq_374, List.forall_mem_cons.mpr ⟨sq_375, List.forall_mem_cons.mpr ⟨sq_375, List.forall_mem_cons.mpr ⟨sq_375, List.forall_mem_cons.mpr ⟨sq_375, List.forall_mem_cons.mpr ⟨sq_375, List.forall_mem_cons.mpr ⟨sq_376, List.forall_mem_cons.mpr ⟨sq_377, fun _ h => nomatch h⟩⟩⟩⟩⟩⟩⟩⟩⟩⟩⟩⟩⟩⟩⟩⟩⟩⟩⟩⟩⟩⟩⟩⟩⟩⟩⟩⟩⟩⟩⟩⟩⟩⟩⟩⟩⟩⟩⟩⟩⟩⟩⟩⟩⟩⟩⟩⟩⟩⟩⟩⟩⟩⟩)
theorem mo_146 : mm_MO mm_ct mm_CM mm_cl mm_WS mm_NW me_146 := ⟨by decide, kw_652, kw_653, by decide, by decide +kernel, mc_146⟩
set_option maxRecDepth 100000 in
theorem ck_147 : mm_cks cX8_copy 0 cd_147 = true := by decide +kernel
set_option maxRecDepth 100000 in
theorem sf_147 : mm_spf cd_147 = [] := by decide +kernel
theorem mc_147 : mm_MC mm_ct mm_CM mm_cl mm_WS mm_NW me_147 := mm_MC_of rfl rfl ck_147 (by rw [sf_147]; exact fun _ h => nomatch h)
theorem mo_147 : mm_MO mm_ct mm_CM mm_cl mm_WS mm_NW me_147 := ⟨by decide, kw_654, kw_653, by decide, by decide +kernel, mc_147⟩
set_option maxRecDepth 100000 in
theorem ck_148 : mm_cks cX8_isIn 0 cd_148 = true := by decide +kernel
set_option maxRecDepth 100000 in
theorem sf_148 : mm_spf cd_148 = [] := by decide +kernel
theorem mc_148 : mm_MC mm_ct mm_CM mm_cl mm_WS mm_NW me_148 := mm_MC_of rfl rfl ck_148 (by rw [sf_148]; exact fun _ h => nomatch h)
theorem mo_148 : mm_MO mm_ct mm_CM mm_cl mm_WS mm_NW me_148 := ⟨by decide, kw_655, kw_653, by decide, by decide +kernel, mc_148⟩
set_option maxRecDepth 100000 in
theorem ck_149 : mm_cks cX8_has 0 cd_149 = true := by decide +kernel
set_option maxRecDepth 100000 in
theorem sf_149 : mm_spf cd_149 = [] := by decide +kernel
theorem mc_149 : mm_MC mm_ct mm_CM mm_cl mm_WS mm_NW me_149 := mm_MC_of rfl rfl ck_149 (by rw [sf_149]; exact fun _ h => nomatch h)
theorem mo_149 : mm_MO mm_ct mm_CM mm_cl mm_WS mm_NW me_149 := ⟨by decide, kw_656, kw_653, by decide, by decide +kernel, mc_149⟩
set_option maxRecDepth 100000 in
theorem ck_150 : mm_cks cX8_bits 0 cd_150 = true := by decide +kernel
set_option maxRecDepth 100000 in
theorem sf_150 : mm_spf cd_150 = [] := by decide +kernel
theorem mc_150 : mm_MC mm_ct mm_CM mm_cl mm_WS mm_NW me_150 := mm_MC_of rfl rfl ck_150 (by rw [sf_150]; exact fun _ h => nomatch h)
theorem mo_150 : mm_MO mm_ct mm_CM mm_cl mm_WS mm_NW me_150 := ⟨by decide, kw_657, kw_653, by decide, by decide +kernel, mc_150⟩
theorem sq_378 : mm_Pq mm_ct mm_CM mm_cl mm_WS mm_NW "SelfSortingModel" "" (.invokestatic 89, 3, 148, 0) := ⟨kw_659, Or.inl kw_658⟩
set_option maxRecDepth 100000 in
theorem ck_151 : mm_cks cX8_isBook 0 cd_151 = true := by decide +kernel
set_option maxRecDepth 100000 in
theorem sf_151 : mm_spf cd_151 = [(.getfield 7, 3, 8, 0), (.invokestatic 89, 3, 148, 0)] := by decide +kernel
theorem mc_151 : mm_MC mm_ct mm_CM mm_cl mm_WS mm_NW me_151 := mm_MC_of rfl rfl ck_151 (by rw [sf_151]; exact List.forall_mem_cons.mpr ⟨sq_375, List.forall_mem_cons.mpr ⟨sq_378, fun _ h => nomatch h⟩⟩)
theorem mo_151 : mm_MO mm_ct mm_CM mm_cl mm_WS mm_NW me_151 := ⟨by decide, kw_660, kw_653, by decide, by decide +kernel, mc_151⟩
set_option maxRecDepth 100000 in
theorem ck_152 : mm_cks cX8_isShelf 0 cd_152 = true := by decide +kernel
set_option maxRecDepth 100000 in
theorem sf_152 : mm_spf cd_152 = [(.invokestatic 89, 3, 148, 0)] := by decide +kernel
theorem mc_152 : mm_MC mm_ct mm_CM mm_cl mm_WS mm_NW me_152 := mm_MC_of rfl rfl ck_152 (by rw [sf_152]; exact List.forall_mem_cons.mpr ⟨sq_378, fun _ h => nomatch h⟩)
theorem mo_152 : mm_MO mm_ct mm_CM mm_cl mm_WS mm_NW me_152 := ⟨by decide, kw_661, kw_653, by decide, by decide +kernel, mc_152⟩
set_option maxRecDepth 100000 in
theorem ck_153 : mm_cks cX8_get 0 cd_153 = true := by decide +kernel
set_option maxRecDepth 100000 in
theorem sf_153 : mm_spf cd_153 = [(.getfield 7, 3, 8, 0)] := by decide +kernel
theorem mc_153 : mm_MC mm_ct mm_CM mm_cl mm_WS mm_NW me_153 := mm_MC_of rfl rfl ck_153 (by rw [sf_153]; exact List.forall_mem_cons.mpr ⟨sq_375, fun _ h => nomatch h⟩)
theorem mo_153 : mm_MO mm_ct mm_CM mm_cl mm_WS mm_NW me_153 := ⟨by decide, kw_662, kw_653, by decide, by decide +kernel, mc_153⟩
set_option maxRecDepth 100000 in
theorem ck_154 : mm_cks cX8_set 0 cd_154 = true := by decide +kernel
set_option maxRecDepth 100000 in
theorem sf_154 : mm_spf cd_154 = [(.getfield 7, 3, 8, 0)] := by decide +kernel
theorem mc_154 : mm_MC mm_ct mm_CM mm_cl mm_WS mm_NW me_154 := mm_MC_of rfl rfl ck_154 (by rw [sf_154]; exact List.forall_mem_cons.mpr ⟨sq_375, fun _ h => nomatch h⟩)
theorem mo_154 : mm_MO mm_ct mm_CM mm_cl mm_WS mm_NW me_154 := ⟨by decide, kw_663, kw_653, by decide, by decide +kernel, mc_154⟩
set_option maxRecDepth 100000 in
theorem ck_155 : mm_cks cX8_bookAt 0 cd_155 = true := by decide +kernel
set_option maxRecDepth 100000 in
theorem sf_155 : mm_spf cd_155 = [(.getfield 7, 3, 8, 0)] := by decide +kernel
theorem mc_155 : mm_MC mm_ct mm_CM mm_cl mm_WS mm_NW me_155 := mm_MC_of rfl rfl ck_155 (by rw [sf_155]; exact List.forall_mem_cons.mpr ⟨sq_375, fun _ h => nomatch h⟩)
theorem mo_155 : mm_MO mm_ct mm_CM mm_cl mm_WS mm_NW me_155 := ⟨by decide, kw_664, kw_653, by decide, by decide +kernel, mc_155⟩
theorem sq_379 : mm_Pq mm_ct mm_CM mm_cl mm_WS mm_NW "SelfSortingModel" "" (.invokevirtual 93, 3, 151, 1) := ⟨kw_666, kw_667, kw_665, _, _, rfl⟩
theorem sq_380 : mm_Pq mm_ct mm_CM mm_cl mm_WS mm_NW "SelfSortingModel" "" (.invokevirtual 97, 3, 153, 1) := ⟨kw_669, kw_670, kw_668, _, _, rfl⟩
set_option maxRecDepth 100000 in
theorem ck_156 : mm_cks cX8_isOnShelf 0 cd_156 = true := by decide +kernel
set_option maxRecDepth 100000 in
theorem sf_156 : mm_spf cd_156 = [(.invokevirtual 93, 3, 151, 1), (.invokevirtual 97, 3, 153, 1)] := by decide +kernel
theorem mc_156 : mm_MC mm_ct mm_CM mm_cl mm_WS mm_NW me_156 := mm_MC_of rfl rfl ck_156 (by rw [sf_156]; exact List.forall_mem_cons.mpr ⟨sq_379, List.forall_mem_cons.mpr ⟨sq_380, fun _ h => nomatch h⟩⟩)
theorem mo_156 : mm_MO mm_ct mm_CM mm_cl mm_WS mm_NW me_156 := ⟨by decide, kw_671, kw_653, by decide, by decide +kernel, mc_156⟩
theorem sq_381 : mm_Pq mm_ct mm_CM mm_cl mm_WS mm_NW "SelfSortingModel" "" (.invokevirtual 101, 3, 155, 1) := ⟨kw_673, kw_674, kw_672, _, _, rfl⟩
set_option maxRecDepth 100000 in
theorem ck_157 : mm_cks cX8_placeOf 0 cd_157 = true := by decide +kernel
set_option maxRecDepth 100000 in
theorem sf_157 : mm_spf cd_157 = [(.invokevirtual 97, 3, 153, 1), (.invokevirtual 101, 3, 155, 1)] := by decide +kernel
theorem mc_157 : mm_MC mm_ct mm_CM mm_cl mm_WS mm_NW me_157 := mm_MC_of rfl rfl ck_157 (by rw [sf_157]; exact List.forall_mem_cons.mpr ⟨sq_380, List.forall_mem_cons.mpr ⟨sq_381, fun _ h => nomatch h⟩⟩)
theorem mo_157 : mm_MO mm_ct mm_CM mm_cl mm_WS mm_NW me_157 := ⟨by decide, kw_675, kw_653, by decide, by decide +kernel, mc_157⟩
theorem sq_382 : mm_Pq mm_ct mm_CM mm_cl mm_WS mm_NW "SelfSortingModel" "" (.invokevirtual 104, 3, 154, 1) := ⟨kw_677, kw_678, kw_676, _, _, rfl⟩
set_option maxRecDepth 100000 in
theorem ck_158 : mm_cks cX8_book 0 cd_158 = true := by decide +kernel
set_option maxRecDepth 100000 in
theorem sf_158 : mm_spf cd_158 = [(.invokestatic 89, 3, 148, 0), (.invokestatic 89, 3, 148, 0), (.invokestatic 89, 3, 148, 0), (.invokestatic 89, 3, 148, 0), (.invokestatic 89, 3, 148, 0), (.getfield 7, 3, 8, 0), (.getfield 7, 3, 8, 0), (.invokevirtual 104, 3, 154, 1), (.invokevirtual 104, 3, 154, 1), (.invokevirtual 104, 3, 154, 1), (.invokevirtual 104, 3, 154, 1), (.invokevirtual 104, 3, 154, 1), (.invokevirtual 104, 3, 154, 1), (.getfield 7, 3, 8, 0)] := by decide +kernel
theorem mc_158 : mm_MC mm_ct mm_CM mm_cl mm_WS mm_NW me_158 := mm_MC_of rfl rfl ck_158 (by rw [sf_158]; exact List.forall_mem_cons.mpr ⟨sq_378, List.forall_mem_cons.mpr ⟨sq_378, List.forall_mem_cons.mpr ⟨sq_378, List.forall_mem_cons.mpr ⟨sq_378, List.forall_mem_cons.mpr ⟨sq_378, List.forall_mem_cons.mpr ⟨sq_375, List.forall_mem_cons.mpr ⟨sq_375, List.forall_mem_cons.mpr ⟨sq_382, List.forall_mem_cons.mpr ⟨sq_382, List.forall_mem_cons.mpr ⟨sq_382, List.forall_mem_cons.mpr ⟨sq_382, List.forall_mem_cons.mpr ⟨sq_382, List.forall_mem_cons.mpr ⟨sq_382, List.forall_mem_cons.mpr ⟨sq_375, fun _ h => nomatch h⟩⟩⟩⟩⟩⟩⟩⟩⟩⟩⟩⟩⟩⟩)
theorem mo_158 : mm_MO mm_ct mm_CM mm_cl mm_WS mm_NW me_158 := ⟨by decide, kw_679, kw_653, by decide, by decide +kernel, mc_158⟩
set_option maxRecDepth 100000 in
theorem ck_159 : mm_cks cX8_need 0 cd_159 = true := by decide +kernel
set_option maxRecDepth 100000 in
theorem sf_159 : mm_spf cd_159 = [(.invokestatic 89, 3, 148, 0), (.getfield 7, 3, 8, 0)] := by decide +kernel
theorem mc_159 : mm_MC mm_ct mm_CM mm_cl mm_WS mm_NW me_159 := mm_MC_of rfl rfl ck_159 (by rw [sf_159]; exact List.forall_mem_cons.mpr ⟨sq_378, List.forall_mem_cons.mpr ⟨sq_375, fun _ h => nomatch h⟩⟩)
theorem mo_159 : mm_MO mm_ct mm_CM mm_cl mm_WS mm_NW me_159 := ⟨by decide, kw_680, kw_653, by decide, by decide +kernel, mc_159⟩
theorem sq_383 : mm_Pq mm_ct mm_CM mm_cl mm_WS mm_NW "SelfSortingModel" "" (.getfield 19, 3, 8, 3) := ⟨(RX8, TX8, 43), rfl, by decide, by decide, kw_628⟩
theorem sq_384 : mm_Pq mm_ct mm_CM mm_cl mm_WS mm_NW "SelfSortingModel" "" (.getfield 108, 3, 8, 4) := ⟨(RX8, TX8, 43), rfl, by decide, by decide, kw_681⟩
theorem sq_385 : mm_Pq mm_ct mm_CM mm_cl mm_WS mm_NW "SelfSortingModel" "" (.putfield 108, 3, 8, 4) := ⟨⟨(RX8, TX8, 43), rfl, by decide, by decide, kw_681⟩, fun r h g => by cases h; cases g⟩
set_option maxRecDepth 100000 in
theorem ck_160 : mm_cks cX8_four 0 cd_160 = true := by decide +kernel
set_option maxRecDepth 100000 in
theorem sf_160 : mm_spf cd_160 = [(.getfield 19, 3, 8, 3), (.getfield 108, 3, 8, 4), (.getfield 108, 3, 8, 4), (.putfield 108, 3, 8, 4)] := by decide +kernel
theorem mc_160 : mm_MC mm_ct mm_CM mm_cl mm_WS mm_NW me_160 := mm_MC_of rfl rfl ck_160 (by rw [sf_160]; exact List.forall_mem_cons.mpr ⟨sq_383, List.forall_mem_cons.mpr ⟨sq_384, List.forall_mem_cons.mpr ⟨sq_384, List.forall_mem_cons.mpr ⟨sq_385, fun _ h => nomatch h⟩⟩⟩⟩)
theorem mo_160 : mm_MO mm_ct mm_CM mm_cl mm_WS mm_NW me_160 := ⟨by decide, kw_682, kw_653, by decide, by decide +kernel, mc_160⟩
theorem sq_386 : mm_Pq mm_ct mm_CM mm_cl mm_WS mm_NW "SelfSortingModel" "" (.invokevirtual 111, 3, 160, 1) := ⟨kw_684, kw_685, kw_683, _, _, rfl⟩
set_option maxRecDepth 100000 in
theorem ck_161 : mm_cks cX8_feed 0 cd_161 = true := by decide +kernel
set_option maxRecDepth 100000 in
theorem sf_161 : mm_spf cd_161 = [(.getfield 108, 3, 8, 4), (.invokevirtual 111, 3, 160, 1), (.invokevirtual 111, 3, 160, 1), (.invokevirtual 111, 3, 160, 1), (.invokevirtual 111, 3, 160, 1), (.invokevirtual 111, 3, 160, 1), (.getfield 108, 3, 8, 4)] := by decide +kernel
theorem mc_161 : mm_MC mm_ct mm_CM mm_cl mm_WS mm_NW me_161 := mm_MC_of rfl rfl ck_161 (by rw [sf_161]; exact List.forall_mem_cons.mpr ⟨sq_384, List.forall_mem_cons.mpr ⟨sq_386, List.forall_mem_cons.mpr ⟨sq_386, List.forall_mem_cons.mpr ⟨sq_386, List.forall_mem_cons.mpr ⟨sq_386, List.forall_mem_cons.mpr ⟨sq_386, List.forall_mem_cons.mpr ⟨sq_384, fun _ h => nomatch h⟩⟩⟩⟩⟩⟩⟩)
theorem mo_161 : mm_MO mm_ct mm_CM mm_cl mm_WS mm_NW me_161 := ⟨by decide, kw_686, kw_653, by decide, by decide +kernel, mc_161⟩
set_option maxRecDepth 100000 in
theorem ck_162 : mm_cks cX8_end 0 cd_162 = true := by decide +kernel
set_option maxRecDepth 100000 in
theorem sf_162 : mm_spf cd_162 = [(.getfield 108, 3, 8, 4), (.invokestatic 89, 3, 148, 0), (.putfield 108, 3, 8, 4)] := by decide +kernel
theorem mc_162 : mm_MC mm_ct mm_CM mm_cl mm_WS mm_NW me_162 := mm_MC_of rfl rfl ck_162 (by rw [sf_162]; exact List.forall_mem_cons.mpr ⟨sq_384, List.forall_mem_cons.mpr ⟨sq_378, List.forall_mem_cons.mpr ⟨sq_385, fun _ h => nomatch h⟩⟩⟩)
theorem mo_162 : mm_MO mm_ct mm_CM mm_cl mm_WS mm_NW me_162 := ⟨by decide, kw_687, kw_653, by decide, by decide +kernel, mc_162⟩
set_option maxRecDepth 100000 in
theorem ck_163 : mm_cks cX8_byteAt 0 cd_163 = true := by decide +kernel
set_option maxRecDepth 100000 in
theorem sf_163 : mm_spf cd_163 = [(.getfield 108, 3, 8, 4), (.getfield 19, 3, 8, 3)] := by decide +kernel
theorem mc_163 : mm_MC mm_ct mm_CM mm_cl mm_WS mm_NW me_163 := mm_MC_of rfl rfl ck_163 (by rw [sf_163]; exact List.forall_mem_cons.mpr ⟨sq_384, List.forall_mem_cons.mpr ⟨sq_383, fun _ h => nomatch h⟩⟩)
theorem mo_163 : mm_MO mm_ct mm_CM mm_cl mm_WS mm_NW me_163 := ⟨by decide, kw_688, kw_653, by decide, by decide +kernel, mc_163⟩
set_option maxRecDepth 100000 in
theorem ck_164 : mm_cks cX8_isLetter 0 cd_164 = true := by decide +kernel
set_option maxRecDepth 100000 in
theorem sf_164 : mm_spf cd_164 = [(.invokestatic 89, 3, 148, 0), (.invokestatic 89, 3, 148, 0)] := by decide +kernel
theorem mc_164 : mm_MC mm_ct mm_CM mm_cl mm_WS mm_NW me_164 := mm_MC_of rfl rfl ck_164 (by rw [sf_164]; exact List.forall_mem_cons.mpr ⟨sq_378, List.forall_mem_cons.mpr ⟨sq_378, fun _ h => nomatch h⟩⟩)
theorem mo_164 : mm_MO mm_ct mm_CM mm_cl mm_WS mm_NW me_164 := ⟨by decide, kw_689, kw_653, by decide, by decide +kernel, mc_164⟩
set_option maxRecDepth 100000 in
theorem ck_165 : mm_cks cX8_isDigit 0 cd_165 = true := by decide +kernel
set_option maxRecDepth 100000 in
theorem sf_165 : mm_spf cd_165 = [(.invokestatic 89, 3, 148, 0)] := by decide +kernel
theorem mc_165 : mm_MC mm_ct mm_CM mm_cl mm_WS mm_NW me_165 := mm_MC_of rfl rfl ck_165 (by rw [sf_165]; exact List.forall_mem_cons.mpr ⟨sq_378, fun _ h => nomatch h⟩)
theorem mo_165 : mm_MO mm_ct mm_CM mm_cl mm_WS mm_NW me_165 := ⟨by decide, kw_690, kw_653, by decide, by decide +kernel, mc_165⟩
theorem sq_387 : mm_Pq mm_ct mm_CM mm_cl mm_WS mm_NW "SelfSortingModel" "" (.getfield 115, 3, 8, 7) := ⟨(RX8, TX8, 43), rfl, by decide, by decide, kw_691⟩
theorem sq_388 : mm_Pq mm_ct mm_CM mm_cl mm_WS mm_NW "SelfSortingModel" "" (.invokevirtual 118, 3, 163, 1) := ⟨kw_693, kw_694, kw_692, _, _, rfl⟩
theorem sq_389 : mm_Pq mm_ct mm_CM mm_cl mm_WS mm_NW "SelfSortingModel" "" (.putfield 115, 3, 8, 7) := ⟨⟨(RX8, TX8, 43), rfl, by decide, by decide, kw_691⟩, fun r h g => by cases h; cases g⟩
theorem sq_390 : mm_Pq mm_ct mm_CM mm_cl mm_WS mm_NW "SelfSortingModel" "" (.putfield 122, 3, 8, 8) := ⟨⟨(RX8, TX8, 43), rfl, by decide, by decide, kw_695⟩, fun r h g => by cases h; cases g⟩
theorem sq_391 : mm_Pq mm_ct mm_CM mm_cl mm_WS mm_NW "SelfSortingModel" "" (.putfield 125, 3, 8, 9) := ⟨⟨(RX8, TX8, 43), rfl, by decide, by decide, kw_696⟩, fun r h g => by cases h; cases g⟩
theorem sq_392 : mm_Pq mm_ct mm_CM mm_cl mm_WS mm_NW "SelfSortingModel" "" (.invokestatic 128, 3, 165, 0) := ⟨kw_698, Or.inl kw_697⟩
theorem sq_393 : mm_Pq mm_ct mm_CM mm_cl mm_WS mm_NW "SelfSortingModel" "" (.putfield 131, 3, 8, 10) := ⟨⟨(RX8, TX8, 43), rfl, by decide, by decide, kw_699⟩, fun r h g => by cases h; cases g⟩
theorem sq_394 : mm_Pq mm_ct mm_CM mm_cl mm_WS mm_NW "SelfSortingModel" "" (.getfield 131, 3, 8, 10) := ⟨(RX8, TX8, 43), rfl, by decide, by decide, kw_699⟩
theorem sq_395 : mm_Pq mm_ct mm_CM mm_cl mm_WS mm_NW "SelfSortingModel" "" (.ldc 134, 2, 100000, 0) := ⟨⟨rfl, fun _ => kw_700⟩, fun h => by cases h⟩
theorem sq_396 : mm_Pq mm_ct mm_CM mm_cl mm_WS mm_NW "SelfSortingModel" "" (.invokestatic 135, 3, 164, 0) := ⟨kw_702, Or.inl kw_701⟩
theorem sq_397 : mm_Pq mm_ct mm_CM mm_cl mm_WS mm_NW "SelfSortingModel" "" (.putfield 138, 3, 8, 11) := ⟨⟨(RX8, TX8, 43), rfl, by decide, by decide, kw_703⟩, fun r h g => by cases h; cases g⟩
theorem sq_398 : mm_Pq mm_ct mm_CM mm_cl mm_WS mm_NW "SelfSortingModel" "" (.getfield 122, 3, 8, 8) := ⟨(RX8, TX8, 43), rfl, by decide, by decide, kw_695⟩
theorem sq_399 : mm_Pq mm_ct mm_CM mm_cl mm_WS mm_NW "SelfSortingModel" "" (.getfield 138, 3, 8, 11) := ⟨(RX8, TX8, 43), rfl, by decide, by decide, kw_703⟩
set_option maxRecDepth 100000 in
theorem ck_166 : mm_cks cX8_nextToken 0 cd_166 = true := by decide +kernel
set_option maxRecDepth 100000 in
theorem sf_166 : mm_spf cd_166 = [(.getfield 115, 3, 8, 7), (.invokevirtual 118, 3, 163, 1), (.getfield 115, 3, 8, 7), (.invokevirtual 118, 3, 163, 1), (.getfield 115, 3, 8, 7), (.putfield 115, 3, 8, 7), (.getfield 115, 3, 8, 7), (.putfield 122, 3, 8, 8), (.getfield 115, 3, 8, 7), (.invokevirtual 118, 3, 163, 1), (.putfield 125, 3, 8, 9), (.invokestatic 128, 3, 165, 0), (.putfield 125, 3, 8, 9), (.putfield 131, 3, 8, 10), (.getfield 115, 3, 8, 7), (.invokevirtual 118, 3, 163, 1), (.invokestatic 128, 3, 165, 0), (.getfield 131, 3, 8, 10), (.ldc 134, 2, 100000, 0), (.getfield 131, 3, 8, 10), (.getfield 115, 3, 8, 7), (.invokevirtual 118, 3, 163, 1), (.putfield 131, 3, 8, 10), (.getfield 115, 3, 8, 7), (.putfield 115, 3, 8, 7), (.invokestatic 135, 3, 164, 0), (.putfield 125, 3, 8, 9), (.putfield 138, 3, 8, 11), (.getfield 115, 3, 8, 7), (.invokevirtual 118, 3, 163, 1), (.invokestatic 135, 3, 164, 0), (.getfield 115, 3, 8, 7), (.getfield 122, 3, 8, 8), (.getfield 138, 3, 8, 11), (.getfield 115, 3, 8, 7), (.invokevirtual 118, 3, 163, 1), (.putfield 138, 3, 8, 11), (.getfield 115, 3, 8, 7), (.putfield 115, 3, 8, 7), (.getfield 115, 3, 8, 7), (.getfield 122, 3, 8, 8), (.putfield 138, 3, 8, 11), (.getfield 115, 3, 8, 7), (.putfield 115, 3, 8, 7), (.putfield 125, 3, 8, 9), (.getfield 115, 3, 8, 7), (.invokevirtual 118, 3, 163, 1), (.getfield 115, 3, 8, 7), (.putfield 115, 3, 8, 7), (.putfield 125, 3, 8, 9)] := by decide +kernel
theorem mc_166 : mm_MC mm_ct mm_CM mm_cl mm_WS mm_NW me_166 := mm_MC_of rfl rfl ck_166 (by rw [sf_166]; exact List.forall_mem_cons.mpr ⟨sq_387, List.forall_mem_cons.mpr ⟨sq_388, List.forall_mem_cons.mpr ⟨sq_387, List.forall_mem_cons.mpr ⟨sq_388, List.forall_mem_cons.mpr ⟨sq_387, List.forall_mem_cons.mpr ⟨sq_389, List.forall_mem_cons.mpr ⟨sq_387, List.forall_mem_cons.mpr ⟨sq_390, List.forall_mem_cons.mpr ⟨sq_387, List.forall_mem_cons.mpr ⟨sq_388, List.forall_mem_cons.mpr ⟨sq_391, List.forall_mem_cons.mpr ⟨sq_392, List.forall_mem_cons.mpr ⟨sq_391, List.forall_mem_cons.mpr ⟨sq_393, List.forall_mem_cons.mpr ⟨sq_387, List.forall_mem_cons.mpr ⟨sq_388, List.forall_mem_cons.mpr ⟨sq_392, List.forall_mem_cons.mpr ⟨sq_394, List.forall_mem_cons.mpr ⟨sq_395, List.forall_mem_cons.mpr ⟨sq_394, List.forall_mem_cons.mpr ⟨sq_387, List.forall_mem_cons.mpr ⟨sq_388, List.forall_mem_cons.mpr ⟨sq_393, List.forall_mem_cons.mpr ⟨sq_387, List.forall_mem_cons.mpr ⟨sq_389, List.forall_mem_cons.mpr ⟨sq_396, List.forall_mem_cons.mpr ⟨sq_391, List.forall_mem_cons.mpr ⟨sq_397, List.forall_mem_cons.mpr ⟨sq_387, List.forall_mem_cons.mpr ⟨sq_388, List.forall_mem_cons.mpr ⟨sq_396, List.forall_mem_cons.mpr ⟨sq_387, List.forall_mem_cons.mpr ⟨sq_398, List.forall_mem_cons.mpr ⟨sq_399, List.forall_mem_cons.mpr ⟨sq_387, List.forall_mem_cons.mpr ⟨sq_388, List.forall_mem_cons.mpr ⟨sq_397, List.forall_mem_cons.mpr ⟨sq_387, List.forall_mem_cons.mpr ⟨sq_389, List.forall_mem_cons.mpr ⟨sq_387, List.forall_mem_cons.mpr ⟨sq_398, List.forall_mem_cons.mpr ⟨sq_397, List.forall_mem_cons.mpr ⟨sq_387, List.forall_mem_cons.mpr ⟨sq_389, List.forall_mem_cons.mpr ⟨sq_391, List.forall_mem_cons.mpr ⟨sq_387, List.forall_mem_cons.mpr ⟨sq_388, List.forall_mem_cons.mpr ⟨sq_387, List.forall_mem_cons.mpr ⟨sq_389, List.forall_mem_cons.mpr ⟨sq_391, fun _ h => nomatch h⟩⟩⟩⟩⟩⟩⟩⟩⟩⟩⟩⟩⟩⟩⟩⟩⟩⟩⟩⟩⟩⟩⟩⟩⟩⟩⟩⟩⟩⟩⟩⟩⟩⟩⟩⟩⟩⟩⟩⟩⟩⟩⟩⟩⟩⟩⟩⟩⟩⟩)
theorem mo_166 : mm_MO mm_ct mm_CM mm_cl mm_WS mm_NW me_166 := ⟨by decide, kw_704, kw_653, by decide, by decide +kernel, mc_166⟩
set_option maxRecDepth 100000 in
theorem ck_167 : mm_cks cX8_w3 0 cd_167 = true := by decide +kernel
set_option maxRecDepth 100000 in
theorem sf_167 : mm_spf cd_167 = [] := by decide +kernel
theorem mc_167 : mm_MC mm_ct mm_CM mm_cl mm_WS mm_NW me_167 := mm_MC_of rfl rfl ck_167 (by rw [sf_167]; exact fun _ h => nomatch h)
theorem mo_167 : mm_MO mm_ct mm_CM mm_cl mm_WS mm_NW me_167 := ⟨by decide, kw_705, kw_653, by decide, by decide +kernel, mc_167⟩
theorem sq_400 : mm_Pq mm_ct mm_CM mm_cl mm_WS mm_NW "SelfSortingModel" "" (.invokestatic 142, 3, 167, 0) := ⟨kw_707, Or.inl kw_706⟩
set_option maxRecDepth 100000 in
theorem ck_168 : mm_cks cX8_w5 0 cd_168 = true := by decide +kernel
set_option maxRecDepth 100000 in
theorem sf_168 : mm_spf cd_168 = [(.invokestatic 142, 3, 167, 0)] := by decide +kernel
theorem mc_168 : mm_MC mm_ct mm_CM mm_cl mm_WS mm_NW me_168 := mm_MC_of rfl rfl ck_168 (by rw [sf_168]; exact List.forall_mem_cons.mpr ⟨sq_400, fun _ h => nomatch h⟩)
theorem mo_168 : mm_MO mm_ct mm_CM mm_cl mm_WS mm_NW me_168 := ⟨by decide, kw_708, kw_653, by decide, by decide +kernel, mc_168⟩
set_option maxRecDepth 100000 in
theorem ck_169 : mm_cks cX8_w4 0 cd_169 = true := by decide +kernel
set_option maxRecDepth 100000 in
theorem sf_169 : mm_spf cd_169 = [(.invokestatic 142, 3, 167, 0)] := by decide +kernel
theorem mc_169 : mm_MC mm_ct mm_CM mm_cl mm_WS mm_NW me_169 := mm_MC_of rfl rfl ck_169 (by rw [sf_169]; exact List.forall_mem_cons.mpr ⟨sq_400, fun _ h => nomatch h⟩)
theorem mo_169 : mm_MO mm_ct mm_CM mm_cl mm_WS mm_NW me_169 := ⟨by decide, kw_709, kw_653, by decide, by decide +kernel, mc_169⟩
theorem sq_401 : mm_Pq mm_ct mm_CM mm_cl mm_WS mm_NW "SelfSortingModel" "" (.invokestatic 146, 3, 168, 0) := ⟨kw_711, Or.inl kw_710⟩
set_option maxRecDepth 100000 in
theorem ck_170 : mm_cks cX8_w6 0 cd_170 = true := by decide +kernel
set_option maxRecDepth 100000 in
theorem sf_170 : mm_spf cd_170 = [(.invokestatic 146, 3, 168, 0)] := by decide +kernel
theorem mc_170 : mm_MC mm_ct mm_CM mm_cl mm_WS mm_NW me_170 := mm_MC_of rfl rfl ck_170 (by rw [sf_170]; exact List.forall_mem_cons.mpr ⟨sq_401, fun _ h => nomatch h⟩)
theorem mo_170 : mm_MO mm_ct mm_CM mm_cl mm_WS mm_NW me_170 := ⟨by decide, kw_712, kw_653, by decide, by decide +kernel, mc_170⟩
theorem sq_402 : mm_Pq mm_ct mm_CM mm_cl mm_WS mm_NW "SelfSortingModel" "" (.getfield 125, 3, 8, 9) := ⟨(RX8, TX8, 43), rfl, by decide, by decide, kw_696⟩
set_option maxRecDepth 100000 in
theorem ck_171 : mm_cks cX8_isWord 0 cd_171 = true := by decide +kernel
set_option maxRecDepth 100000 in
theorem sf_171 : mm_spf cd_171 = [(.getfield 125, 3, 8, 9), (.getfield 138, 3, 8, 11)] := by decide +kernel
theorem mc_171 : mm_MC mm_ct mm_CM mm_cl mm_WS mm_NW me_171 := mm_MC_of rfl rfl ck_171 (by rw [sf_171]; exact List.forall_mem_cons.mpr ⟨sq_402, List.forall_mem_cons.mpr ⟨sq_399, fun _ h => nomatch h⟩⟩)
theorem mo_171 : mm_MO mm_ct mm_CM mm_cl mm_WS mm_NW me_171 := ⟨by decide, kw_713, kw_653, by decide, by decide +kernel, mc_171⟩
theorem sq_403 : mm_Pq mm_ct mm_CM mm_cl mm_WS mm_NW "SelfSortingModel" "" (.getfield 16, 3, 8, 2) := ⟨(RX8, TX8, 43), rfl, by decide, by decide, kw_627⟩
theorem sq_404 : mm_Pq mm_ct mm_CM mm_cl mm_WS mm_NW "SelfSortingModel" "" (.getfield 150, 3, 8, 12) := ⟨(RX8, TX8, 43), rfl, by decide, by decide, kw_714⟩
theorem sq_405 : mm_Pq mm_ct mm_CM mm_cl mm_WS mm_NW "SelfSortingModel" "" (.getfield 153, 3, 8, 14) := ⟨(RX8, TX8, 43), rfl, by decide, by decide, kw_715⟩
theorem sq_406 : mm_Pq mm_ct mm_CM mm_cl mm_WS mm_NW "SelfSortingModel" "" (.putfield 153, 3, 8, 14) := ⟨⟨(RX8, TX8, 43), rfl, by decide, by decide, kw_715⟩, fun r h g => by cases h; cases g⟩
set_option maxRecDepth 100000 in
theorem ck_172 : mm_cks cX8_emit 0 cd_172 = true := by decide +kernel
set_option maxRecDepth 100000 in
theorem sf_172 : mm_spf cd_172 = [(.getfield 16, 3, 8, 2), (.getfield 150, 3, 8, 12), (.getfield 153, 3, 8, 14), (.getfield 16, 3, 8, 2), (.getfield 150, 3, 8, 12), (.getfield 153, 3, 8, 14), (.getfield 153, 3, 8, 14), (.putfield 153, 3, 8, 14)] := by decide +kernel
theorem mc_172 : mm_MC mm_ct mm_CM mm_cl mm_WS mm_NW me_172 := mm_MC_of rfl rfl ck_172 (by rw [sf_172]; exact List.forall_mem_cons.mpr ⟨sq_403, List.forall_mem_cons.mpr ⟨sq_404, List.forall_mem_cons.mpr ⟨sq_405, List.forall_mem_cons.mpr ⟨sq_403, List.forall_mem_cons.mpr ⟨sq_404, List.forall_mem_cons.mpr ⟨sq_405, List.forall_mem_cons.mpr ⟨sq_405, List.forall_mem_cons.mpr ⟨sq_406, fun _ h => nomatch h⟩⟩⟩⟩⟩⟩⟩⟩)
theorem mo_172 : mm_MO mm_ct mm_CM mm_cl mm_WS mm_NW me_172 := ⟨by decide, kw_716, kw_653, by decide, by decide +kernel, mc_172⟩
theorem sq_407 : mm_Pq mm_ct mm_CM mm_cl mm_WS mm_NW "SelfSortingModel" "" (.getfield 29, 3, 8, 16) := ⟨(RX8, TX8, 43), rfl, by decide, by decide, kw_631⟩
theorem sq_408 : mm_Pq mm_ct mm_CM mm_cl mm_WS mm_NW "SelfSortingModel" "" (.getfield 156, 3, 8, 17) := ⟨(RX8, TX8, 43), rfl, by decide, by decide, kw_717⟩
theorem sq_409 : mm_Pq mm_ct mm_CM mm_cl mm_WS mm_NW "SelfSortingModel" "" (.putfield 156, 3, 8, 17) := ⟨⟨(RX8, TX8, 43), rfl, by decide, by decide, kw_717⟩, fun r h g => by cases h; cases g⟩
set_option maxRecDepth 100000 in
theorem ck_173 : mm_cks cX8_push 0 cd_173 = true := by decide +kernel
set_option maxRecDepth 100000 in
theorem sf_173 : mm_spf cd_173 = [(.getfield 29, 3, 8, 16), (.getfield 156, 3, 8, 17), (.getfield 156, 3, 8, 17), (.putfield 156, 3, 8, 17)] := by decide +kernel
theorem mc_173 : mm_MC mm_ct mm_CM mm_cl mm_WS mm_NW me_173 := mm_MC_of rfl rfl ck_173 (by rw [sf_173]; exact List.forall_mem_cons.mpr ⟨sq_407, List.forall_mem_cons.mpr ⟨sq_408, List.forall_mem_cons.mpr ⟨sq_408, List.forall_mem_cons.mpr ⟨sq_409, fun _ h => nomatch h⟩⟩⟩⟩)
theorem mo_173 : mm_MO mm_ct mm_CM mm_cl mm_WS mm_NW me_173 := ⟨by decide, kw_718, kw_653, by decide, by decide +kernel, mc_173⟩
theorem sq_410 : mm_Pq mm_ct mm_CM mm_cl mm_WS mm_NW "SelfSortingModel" "" (.putfield 159, 3, 8, 19) := ⟨⟨(RX8, TX8, 43), rfl, by decide, by decide, kw_719⟩, fun r h g => by cases h; cases g⟩
theorem sq_411 : mm_Pq mm_ct mm_CM mm_cl mm_WS mm_NW "SelfSortingModel" "" (.getfield 163, 3, 8, 18) := ⟨(RX8, TX8, 43), rfl, by decide, by decide, kw_720⟩
theorem sq_412 : mm_Pq mm_ct mm_CM mm_cl mm_WS mm_NW "SelfSortingModel" "" (.putfield 163, 3, 8, 18) := ⟨⟨(RX8, TX8, 43), rfl, by decide, by decide, kw_720⟩, fun r h g => by cases h; cases g⟩
theorem sq_413 : mm_Pq mm_ct mm_CM mm_cl mm_WS mm_NW "SelfSortingModel" "" (.invokevirtual 166, 3, 172, 1) := ⟨kw_722, kw_723, kw_721, _, _, rfl⟩
set_option maxRecDepth 100000 in
theorem ck_174 : mm_cks cX8_whole 0 cd_174 = true := by decide +kernel
set_option maxRecDepth 100000 in
theorem sf_174 : mm_spf cd_174 = [(.putfield 159, 3, 8, 19), (.getfield 156, 3, 8, 17), (.getfield 29, 3, 8, 16), (.getfield 156, 3, 8, 17), (.getfield 156, 3, 8, 17), (.putfield 156, 3, 8, 17), (.getfield 163, 3, 8, 18), (.putfield 163, 3, 8, 18), (.invokevirtual 166, 3, 172, 1)] := by decide +kernel
theorem mc_174 : mm_MC mm_ct mm_CM mm_cl mm_WS mm_NW me_174 := mm_MC_of rfl rfl ck_174 (by rw [sf_174]; exact List.forall_mem_cons.mpr ⟨sq_410, List.forall_mem_cons.mpr ⟨sq_408, List.forall_mem_cons.mpr ⟨sq_407, List.forall_mem_cons.mpr ⟨sq_408, List.forall_mem_cons.mpr ⟨sq_408, List.forall_mem_cons.mpr ⟨sq_409, List.forall_mem_cons.mpr ⟨sq_411, List.forall_mem_cons.mpr ⟨sq_412, List.forall_mem_cons.mpr ⟨sq_413, fun _ h => nomatch h⟩⟩⟩⟩⟩⟩⟩⟩⟩)
theorem mo_174 : mm_MO mm_ct mm_CM mm_cl mm_WS mm_NW me_174 := ⟨by decide, kw_724, kw_653, by decide, by decide +kernel, mc_174⟩
set_option maxRecDepth 100000 in
theorem ck_175 : mm_cks cX8_settle 0 cd_175 = true := by decide +kernel
set_option maxRecDepth 100000 in
theorem sf_175 : mm_spf cd_175 = [(.getfield 156, 3, 8, 17), (.getfield 29, 3, 8, 16), (.getfield 156, 3, 8, 17), (.getfield 29, 3, 8, 16), (.getfield 156, 3, 8, 17), (.getfield 156, 3, 8, 17), (.putfield 156, 3, 8, 17), (.getfield 29, 3, 8, 16), (.getfield 156, 3, 8, 17), (.invokevirtual 166, 3, 172, 1)] := by decide +kernel
theorem mc_175 : mm_MC mm_ct mm_CM mm_cl mm_WS mm_NW me_175 := mm_MC_of rfl rfl ck_175 (by rw [sf_175]; exact List.forall_mem_cons.mpr ⟨sq_408, List.forall_mem_cons.mpr ⟨sq_407, List.forall_mem_cons.mpr ⟨sq_408, List.forall_mem_cons.mpr ⟨sq_407, List.forall_mem_cons.mpr ⟨sq_408, List.forall_mem_cons.mpr ⟨sq_408, List.forall_mem_cons.mpr ⟨sq_409, List.forall_mem_cons.mpr ⟨sq_407, List.forall_mem_cons.mpr ⟨sq_408, List.forall_mem_cons.mpr ⟨sq_413, fun _ h => nomatch h⟩⟩⟩⟩⟩⟩⟩⟩⟩⟩)
theorem mo_175 : mm_MO mm_ct mm_CM mm_cl mm_WS mm_NW me_175 := ⟨by decide, kw_725, kw_653, by decide, by decide +kernel, mc_175⟩
theorem sq_414 : mm_Pq mm_ct mm_CM mm_cl mm_WS mm_NW "SelfSortingModel" "" (.invokestatic 170, 3, 169, 0) := ⟨kw_727, Or.inl kw_726⟩
theorem sq_415 : mm_Pq mm_ct mm_CM mm_cl mm_WS mm_NW "SelfSortingModel" "" (.invokestatic 174, 3, 170, 0) := ⟨kw_729, Or.inl kw_728⟩
set_option maxRecDepth 100000 in
theorem ck_176 : mm_cks cX8_ownName 0 cd_176 = true := by decide +kernel
set_option maxRecDepth 100000 in
theorem sf_176 : mm_spf cd_176 = [(.getfield 138, 3, 8, 11), (.invokestatic 170, 3, 169, 0), (.getfield 138, 3, 8, 11), (.invokestatic 142, 3, 167, 0), (.getfield 138, 3, 8, 11), (.invokestatic 146, 3, 168, 0), (.getfield 138, 3, 8, 11), (.invokestatic 146, 3, 168, 0), (.getfield 138, 3, 8, 11), (.invokestatic 174, 3, 170, 0), (.getfield 138, 3, 8, 11), (.invokestatic 142, 3, 167, 0), (.getfield 138, 3, 8, 11), (.invokestatic 146, 3, 168, 0), (.getfield 138, 3, 8, 11), (.invokestatic 146, 3, 168, 0)] := by decide +kernel
theorem mc_176 : mm_MC mm_ct mm_CM mm_cl mm_WS mm_NW me_176 := mm_MC_of rfl rfl ck_176 (by rw [sf_176]; exact List.forall_mem_cons.mpr ⟨sq_399, List.forall_mem_cons.mpr ⟨sq_414, List.forall_mem_cons.mpr ⟨sq_399, List.forall_mem_cons.mpr ⟨sq_400, List.forall_mem_cons.mpr ⟨sq_399, List.forall_mem_cons.mpr ⟨sq_401, List.forall_mem_cons.mpr ⟨sq_399, List.forall_mem_cons.mpr ⟨sq_401, List.forall_mem_cons.mpr ⟨sq_399, List.forall_mem_cons.mpr ⟨sq_415, List.forall_mem_cons.mpr ⟨sq_399, List.forall_mem_cons.mpr ⟨sq_400, List.forall_mem_cons.mpr ⟨sq_399, List.forall_mem_cons.mpr ⟨sq_401, List.forall_mem_cons.mpr ⟨sq_399, List.forall_mem_cons.mpr ⟨sq_401, fun _ h => nomatch h⟩⟩⟩⟩⟩⟩⟩⟩⟩⟩⟩⟩⟩⟩⟩⟩)
theorem mo_176 : mm_MO mm_ct mm_CM mm_cl mm_WS mm_NW me_176 := ⟨by decide, kw_730, kw_653, by decide, by decide +kernel, mc_176⟩
theorem sq_416 : mm_Pq mm_ct mm_CM mm_cl mm_WS mm_NW "SelfSortingModel" "" (.invokevirtual 178, 3, 176, 1) := ⟨kw_732, kw_733, kw_731, _, _, rfl⟩
set_option maxRecDepth 100000 in
theorem ck_177 : mm_cks cX8_nameOf 0 cd_177 = true := by decide +kernel
set_option maxRecDepth 100000 in
theorem sf_177 : mm_spf cd_177 = [(.getfield 125, 3, 8, 9), (.invokevirtual 178, 3, 176, 1), (.invokevirtual 178, 3, 176, 1), (.getfield 138, 3, 8, 11), (.invokestatic 170, 3, 169, 0), (.getfield 138, 3, 8, 11), (.invokestatic 174, 3, 170, 0), (.getfield 138, 3, 8, 11), (.invokestatic 174, 3, 170, 0), (.getfield 138, 3, 8, 11), (.invokestatic 142, 3, 167, 0), (.invokestatic 170, 3, 169, 0), (.getfield 138, 3, 8, 11), (.invokestatic 146, 3, 168, 0), (.getfield 138, 3, 8, 11), (.invokestatic 146, 3, 168, 0), (.getfield 138, 3, 8, 11), (.invokestatic 170, 3, 169, 0)] := by decide +kernel
theorem mc_177 : mm_MC mm_ct mm_CM mm_cl mm_WS mm_NW me_177 := mm_MC_of rfl rfl ck_177 (by rw [sf_177]; exact List.forall_mem_cons.mpr ⟨sq_402, List.forall_mem_cons.mpr ⟨sq_416, List.forall_mem_cons.mpr ⟨sq_416, List.forall_mem_cons.mpr ⟨sq_399, List.forall_mem_cons.mpr ⟨sq_414, List.forall_mem_cons.mpr ⟨sq_399, List.forall_mem_cons.mpr ⟨sq_415, List.forall_mem_cons.mpr ⟨sq_399, List.forall_mem_cons.mpr ⟨sq_415, List.forall_mem_cons.mpr ⟨sq_399, List.forall_mem_cons.mpr ⟨sq_400, List.forall_mem_cons.mpr ⟨sq_414, List.forall_mem_cons.mpr ⟨sq_399, List.forall_mem_cons.mpr ⟨sq_401, List.forall_mem_cons.mpr ⟨sq_399, List.forall_mem_cons.mpr ⟨sq_401, List.forall_mem_cons.mpr ⟨sq_399, List.forall_mem_cons.mpr ⟨sq_414, fun _ h => nomatch h⟩⟩⟩⟩⟩⟩⟩⟩⟩⟩⟩⟩⟩⟩⟩⟩⟩⟩)
theorem mo_177 : mm_MO mm_ct mm_CM mm_cl mm_WS mm_NW me_177 := ⟨by decide, kw_734, kw_653, by decide, by decide +kernel, mc_177⟩
theorem sq_417 : mm_Pq mm_ct mm_CM mm_cl mm_WS mm_NW "SelfSortingModel" "" (.getfield 182, 3, 8, 20) := ⟨(RX8, TX8, 43), rfl, by decide, by decide, kw_735⟩
set_option maxRecDepth 100000 in
theorem ck_178 : mm_cks cX8_isBarred 0 cd_178 = true := by decide +kernel
set_option maxRecDepth 100000 in
theorem sf_178 : mm_spf cd_178 = [(.getfield 182, 3, 8, 20), (.getfield 182, 3, 8, 20)] := by decide +kernel
theorem mc_178 : mm_MC mm_ct mm_CM mm_cl mm_WS mm_NW me_178 := mm_MC_of rfl rfl ck_178 (by rw [sf_178]; exact List.forall_mem_cons.mpr ⟨sq_417, List.forall_mem_cons.mpr ⟨sq_417, fun _ h => nomatch h⟩⟩)
theorem mo_178 : mm_MO mm_ct mm_CM mm_cl mm_WS mm_NW me_178 := ⟨by decide, kw_736, kw_653, by decide, by decide +kernel, mc_178⟩
theorem sq_418 : mm_Pq mm_ct mm_CM mm_cl mm_WS mm_NW "SelfSortingModel" "" (.invokevirtual 185, 3, 166, 1) := ⟨kw_738, kw_739, kw_737, _, _, rfl⟩
theorem sq_419 : mm_Pq mm_ct mm_CM mm_cl mm_WS mm_NW "SelfSortingModel" "" (.invokevirtual 188, 3, 174, 1) := ⟨kw_741, kw_742, kw_740, _, _, rfl⟩
theorem sq_420 : mm_Pq mm_ct mm_CM mm_cl mm_WS mm_NW "SelfSortingModel" "" (.invokevirtual 191, 3, 177, 1) := ⟨kw_744, kw_745, kw_743, _, _, rfl⟩
theorem sq_421 : mm_Pq mm_ct mm_CM mm_cl mm_WS mm_NW "SelfSortingModel" "" (.invokevirtual 194, 3, 178, 1) := ⟨kw_747, kw_748, kw_746, _, _, rfl⟩
theorem sq_422 : mm_Pq mm_ct mm_CM mm_cl mm_WS mm_NW "SelfSortingModel" "" (.invokevirtual 197, 3, 173, 1) := ⟨kw_750, kw_751, kw_749, _, _, rfl⟩
set_option maxRecDepth 100000 in
theorem ck_179 : mm_cks cX8_beginOne 0 cd_179 = true := by decide +kernel
set_option maxRecDepth 100000 in
theorem sf_179 : mm_spf cd_179 = [(.getfield 125, 3, 8, 9), (.getfield 131, 3, 8, 10), (.getfield 131, 3, 8, 10), (.invokevirtual 166, 3, 172, 1), (.invokevirtual 185, 3, 166, 1), (.invokevirtual 188, 3, 174, 1), (.invokevirtual 191, 3, 177, 1), (.invokevirtual 191, 3, 177, 1), (.invokevirtual 194, 3, 178, 1), (.invokevirtual 191, 3, 177, 1), (.invokevirtual 166, 3, 172, 1), (.invokevirtual 185, 3, 166, 1), (.invokevirtual 188, 3, 174, 1), (.getfield 125, 3, 8, 9), (.getfield 125, 3, 8, 9), (.getfield 163, 3, 8, 18), (.getfield 163, 3, 8, 18), (.putfield 163, 3, 8, 18), (.invokevirtual 197, 3, 173, 1), (.invokevirtual 185, 3, 166, 1)] := by decide +kernel
theorem mc_179 : mm_MC mm_ct mm_CM mm_cl mm_WS mm_NW me_179 := mm_MC_of rfl rfl ck_179 (by rw [sf_179]; exact List.forall_mem_cons.mpr ⟨sq_402, List.forall_mem_cons.mpr ⟨sq_394, List.forall_mem_cons.mpr ⟨sq_394, List.forall_mem_cons.mpr ⟨sq_413, List.forall_mem_cons.mpr ⟨sq_418, List.forall_mem_cons.mpr ⟨sq_419, List.forall_mem_cons.mpr ⟨sq_420, List.forall_mem_cons.mpr ⟨sq_420, List.forall_mem_cons.mpr ⟨sq_421, List.forall_mem_cons.mpr ⟨sq_420, List.forall_mem_cons.mpr ⟨sq_413, List.forall_mem_cons.mpr ⟨sq_418, List.forall_mem_cons.mpr ⟨sq_419, List.forall_mem_cons.mpr ⟨sq_402, List.forall_mem_cons.mpr ⟨sq_402, List.forall_mem_cons.mpr ⟨sq_411, List.forall_mem_cons.mpr ⟨sq_411, List.forall_mem_cons.mpr ⟨sq_412, List.forall_mem_cons.mpr ⟨sq_422, List.forall_mem_cons.mpr ⟨sq_418, fun _ h => nomatch h⟩⟩⟩⟩⟩⟩⟩⟩⟩⟩⟩⟩⟩⟩⟩⟩⟩⟩⟩⟩)
theorem mo_179 : mm_MO mm_ct mm_CM mm_cl mm_WS mm_NW me_179 := ⟨by decide, kw_752, kw_653, by decide, by decide +kernel, mc_179⟩
set_option maxRecDepth 100000 in
theorem ck_180 : mm_cks cX8_hasParen 0 cd_180 = true := by decide +kernel
set_option maxRecDepth 100000 in
theorem sf_180 : mm_spf cd_180 = [(.getfield 156, 3, 8, 17), (.getfield 29, 3, 8, 16)] := by decide +kernel
theorem mc_180 : mm_MC mm_ct mm_CM mm_cl mm_WS mm_NW me_180 := mm_MC_of rfl rfl ck_180 (by rw [sf_180]; exact List.forall_mem_cons.mpr ⟨sq_408, List.forall_mem_cons.mpr ⟨sq_407, fun _ h => nomatch h⟩⟩)
theorem mo_180 : mm_MO mm_ct mm_CM mm_cl mm_WS mm_NW me_180 := ⟨by decide, kw_753, kw_653, by decide, by decide +kernel, mc_180⟩
theorem sq_423 : mm_Pq mm_ct mm_CM mm_cl mm_WS mm_NW "SelfSortingModel" "" (.invokevirtual 200, 3, 180, 1) := ⟨kw_755, kw_756, kw_754, _, _, rfl⟩
set_option maxRecDepth 100000 in
theorem ck_181 : mm_cks cX8_goesOn 0 cd_181 = true := by decide +kernel
set_option maxRecDepth 100000 in
theorem sf_181 : mm_spf cd_181 = [(.getfield 125, 3, 8, 9), (.getfield 125, 3, 8, 9), (.getfield 125, 3, 8, 9), (.getfield 125, 3, 8, 9), (.getfield 125, 3, 8, 9), (.invokevirtual 200, 3, 180, 1)] := by decide +kernel
theorem mc_181 : mm_MC mm_ct mm_CM mm_cl mm_WS mm_NW me_181 := mm_MC_of rfl rfl ck_181 (by rw [sf_181]; exact List.forall_mem_cons.mpr ⟨sq_402, List.forall_mem_cons.mpr ⟨sq_402, List.forall_mem_cons.mpr ⟨sq_402, List.forall_mem_cons.mpr ⟨sq_402, List.forall_mem_cons.mpr ⟨sq_402, List.forall_mem_cons.mpr ⟨sq_423, fun _ h => nomatch h⟩⟩⟩⟩⟩⟩)
theorem mo_181 : mm_MO mm_ct mm_CM mm_cl mm_WS mm_NW me_181 := ⟨by decide, kw_757, kw_653, by decide, by decide +kernel, mc_181⟩
theorem sq_424 : mm_Pq mm_ct mm_CM mm_cl mm_WS mm_NW "SelfSortingModel" "" (.invokevirtual 204, 3, 175, 1) := ⟨kw_759, kw_760, kw_758, _, _, rfl⟩
set_option maxRecDepth 100000 in
theorem ck_182 : mm_cks cX8_behindOne 0 cd_182 = true := by decide +kernel
set_option maxRecDepth 100000 in
theorem sf_182 : mm_spf cd_182 = [(.getfield 125, 3, 8, 9), (.invokevirtual 204, 3, 175, 1), (.invokevirtual 197, 3, 173, 1), (.putfield 159, 3, 8, 19), (.invokevirtual 204, 3, 175, 1), (.invokevirtual 197, 3, 173, 1), (.putfield 159, 3, 8, 19), (.invokevirtual 204, 3, 175, 1), (.getfield 156, 3, 8, 17), (.putfield 156, 3, 8, 17), (.getfield 163, 3, 8, 18), (.putfield 163, 3, 8, 18), (.invokevirtual 188, 3, 174, 1), (.invokevirtual 185, 3, 166, 1)] := by decide +kernel
theorem mc_182 : mm_MC mm_ct mm_CM mm_cl mm_WS mm_NW me_182 := mm_MC_of rfl rfl ck_182 (by rw [sf_182]; exact List.forall_mem_cons.mpr ⟨sq_402, List.forall_mem_cons.mpr ⟨sq_424, List.forall_mem_cons.mpr ⟨sq_422, List.forall_mem_cons.mpr ⟨sq_410, List.forall_mem_cons.mpr ⟨sq_424, List.forall_mem_cons.mpr ⟨sq_422, List.forall_mem_cons.mpr ⟨sq_410, List.forall_mem_cons.mpr ⟨sq_424, List.forall_mem_cons.mpr ⟨sq_408, List.forall_mem_cons.mpr ⟨sq_409, List.forall_mem_cons.mpr ⟨sq_411, List.forall_mem_cons.mpr ⟨sq_412, List.forall_mem_cons.mpr ⟨sq_419, List.forall_mem_cons.mpr ⟨sq_418, fun _ h => nomatch h⟩⟩⟩⟩⟩⟩⟩⟩⟩⟩⟩⟩⟩⟩)
theorem mo_182 : mm_MO mm_ct mm_CM mm_cl mm_WS mm_NW me_182 := ⟨by decide, kw_761, kw_653, by decide, by decide +kernel, mc_182⟩
theorem sq_425 : mm_Pq mm_ct mm_CM mm_cl mm_WS mm_NW "SelfSortingModel" "" (.getfield 159, 3, 8, 19) := ⟨(RX8, TX8, 43), rfl, by decide, by decide, kw_719⟩
theorem sq_426 : mm_Pq mm_ct mm_CM mm_cl mm_WS mm_NW "SelfSortingModel" "" (.invokevirtual 207, 3, 181, 1) := ⟨kw_763, kw_764, kw_762, _, _, rfl⟩
theorem sq_427 : mm_Pq mm_ct mm_CM mm_cl mm_WS mm_NW "SelfSortingModel" "" (.invokevirtual 210, 3, 182, 1) := ⟨kw_766, kw_767, kw_765, _, _, rfl⟩
theorem sq_428 : mm_Pq mm_ct mm_CM mm_cl mm_WS mm_NW "SelfSortingModel" "" (.invokevirtual 213, 3, 179, 1) := ⟨kw_769, kw_770, kw_768, _, _, rfl⟩
set_option maxRecDepth 100000 in
theorem ck_183 : mm_cks cX8_summed 0 cd_183 = true := by decide +kernel
set_option maxRecDepth 100000 in
theorem sf_183 : mm_spf cd_183 = [(.putfield 156, 3, 8, 17), (.putfield 159, 3, 8, 19), (.getfield 159, 3, 8, 19), (.invokevirtual 207, 3, 181, 1), (.getfield 159, 3, 8, 19), (.invokevirtual 210, 3, 182, 1), (.invokevirtual 213, 3, 179, 1), (.invokevirtual 204, 3, 175, 1), (.getfield 156, 3, 8, 17)] := by decide +kernel
theorem mc_183 : mm_MC mm_ct mm_CM mm_cl mm_WS mm_NW me_183 := mm_MC_of rfl rfl ck_183 (by rw [sf_183]; exact List.forall_mem_cons.mpr ⟨sq_409, List.forall_mem_cons.mpr ⟨sq_410, List.forall_mem_cons.mpr ⟨sq_425, List.forall_mem_cons.mpr ⟨sq_426, List.forall_mem_cons.mpr ⟨sq_425, List.forall_mem_cons.mpr ⟨sq_427, List.forall_mem_cons.mpr ⟨sq_428, List.forall_mem_cons.mpr ⟨sq_424, List.forall_mem_cons.mpr ⟨sq_408, fun _ h => nomatch h⟩⟩⟩⟩⟩⟩⟩⟩⟩)
theorem mo_183 : mm_MO mm_ct mm_CM mm_cl mm_WS mm_NW me_183 := ⟨by decide, kw_771, kw_653, by decide, by decide +kernel, mc_183⟩
set_option maxRecDepth 100000 in
theorem ck_184 : mm_cks cX8_compareOf 0 cd_184 = true := by decide +kernel
set_option maxRecDepth 100000 in
theorem sf_184 : mm_spf cd_184 = [(.getfield 125, 3, 8, 9), (.getfield 125, 3, 8, 9), (.getfield 125, 3, 8, 9), (.getfield 125, 3, 8, 9), (.getfield 125, 3, 8, 9), (.getfield 125, 3, 8, 9)] := by decide +kernel
theorem mc_184 : mm_MC mm_ct mm_CM mm_cl mm_WS mm_NW me_184 := mm_MC_of rfl rfl ck_184 (by rw [sf_184]; exact List.forall_mem_cons.mpr ⟨sq_402, List.forall_mem_cons.mpr ⟨sq_402, List.forall_mem_cons.mpr ⟨sq_402, List.forall_mem_cons.mpr ⟨sq_402, List.forall_mem_cons.mpr ⟨sq_402, List.forall_mem_cons.mpr ⟨sq_402, fun _ h => nomatch h⟩⟩⟩⟩⟩⟩)
theorem mo_184 : mm_MO mm_ct mm_CM mm_cl mm_WS mm_NW me_184 := ⟨by decide, kw_772, kw_653, by decide, by decide +kernel, mc_184⟩
theorem sq_429 : mm_Pq mm_ct mm_CM mm_cl mm_WS mm_NW "SelfSortingModel" "" (.invokevirtual 216, 3, 171, 1) := ⟨kw_774, kw_775, kw_773, _, _, rfl⟩
theorem sq_430 : mm_Pq mm_ct mm_CM mm_cl mm_WS mm_NW "SelfSortingModel" "" (.invokevirtual 220, 3, 183, 1) := ⟨kw_777, kw_778, kw_776, _, _, rfl⟩
theorem sq_431 : mm_Pq mm_ct mm_CM mm_cl mm_WS mm_NW "SelfSortingModel" "" (.invokevirtual 223, 3, 184, 1) := ⟨kw_780, kw_781, kw_779, _, _, rfl⟩
set_option maxRecDepth 100000 in
theorem ck_185 : mm_cks cX8_asks 0 cd_185 = true := by decide +kernel
set_option maxRecDepth 100000 in
theorem sf_185 : mm_spf cd_185 = [(.invokestatic 142, 3, 167, 0), (.invokevirtual 216, 3, 171, 1), (.getfield 163, 3, 8, 18), (.getfield 163, 3, 8, 18), (.putfield 163, 3, 8, 18), (.invokevirtual 185, 3, 166, 1), (.invokevirtual 220, 3, 183, 1), (.invokevirtual 223, 3, 184, 1), (.invokevirtual 185, 3, 166, 1), (.invokevirtual 220, 3, 183, 1), (.invokevirtual 166, 3, 172, 1), (.getfield 163, 3, 8, 18), (.putfield 163, 3, 8, 18), (.invokevirtual 166, 3, 172, 1)] := by decide +kernel
theorem mc_185 : mm_MC mm_ct mm_CM mm_cl mm_WS mm_NW me_185 := mm_MC_of rfl rfl ck_185 (by rw [sf_185]; exact List.forall_mem_cons.mpr ⟨sq_400, List.forall_mem_cons.mpr ⟨sq_429, List.forall_mem_cons.mpr ⟨sq_411, List.forall_mem_cons.mpr ⟨sq_411, List.forall_mem_cons.mpr ⟨sq_412, List.forall_mem_cons.mpr ⟨sq_418, List.forall_mem_cons.mpr ⟨sq_430, List.forall_mem_cons.mpr ⟨sq_431, List.forall_mem_cons.mpr ⟨sq_418, List.forall_mem_cons.mpr ⟨sq_430, List.forall_mem_cons.mpr ⟨sq_413, List.forall_mem_cons.mpr ⟨sq_411, List.forall_mem_cons.mpr ⟨sq_412, List.forall_mem_cons.mpr ⟨sq_413, fun _ h => nomatch h⟩⟩⟩⟩⟩⟩⟩⟩⟩⟩⟩⟩⟩⟩)
theorem mo_185 : mm_MO mm_ct mm_CM mm_cl mm_WS mm_NW me_185 := ⟨by decide, kw_782, kw_653, by decide, by decide +kernel, mc_185⟩
theorem sq_432 : mm_Pq mm_ct mm_CM mm_cl mm_WS mm_NW "SelfSortingModel" "" (.invokevirtual 226, 3, 185, 1) := ⟨kw_784, kw_785, kw_783, _, _, rfl⟩
theorem sq_433 : mm_Pq mm_ct mm_CM mm_cl mm_WS mm_NW "SelfSortingModel" "" (.ldc2_w 229, 3, 28530, 0) := ⟨rfl, kw_786⟩
set_option maxRecDepth 100000 in
theorem ck_186 : mm_cks cX8_either 0 cd_186 = true := by decide +kernel
set_option maxRecDepth 100000 in
theorem sf_186 : mm_spf cd_186 = [(.invokevirtual 226, 3, 185, 1), (.invokevirtual 166, 3, 172, 1), (.invokestatic 142, 3, 167, 0), (.invokevirtual 216, 3, 171, 1), (.getfield 125, 3, 8, 9), (.getfield 138, 3, 8, 11), (.ldc2_w 229, 3, 28530, 0), (.invokevirtual 166, 3, 172, 1), (.invokevirtual 185, 3, 166, 1)] := by decide +kernel
theorem mc_186 : mm_MC mm_ct mm_CM mm_cl mm_WS mm_NW me_186 := mm_MC_of rfl rfl ck_186 (by rw [sf_186]; exact List.forall_mem_cons.mpr ⟨sq_432, List.forall_mem_cons.mpr ⟨sq_413, List.forall_mem_cons.mpr ⟨sq_400, List.forall_mem_cons.mpr ⟨sq_429, List.forall_mem_cons.mpr ⟨sq_402, List.forall_mem_cons.mpr ⟨sq_399, List.forall_mem_cons.mpr ⟨sq_433, List.forall_mem_cons.mpr ⟨sq_413, List.forall_mem_cons.mpr ⟨sq_418, fun _ h => nomatch h⟩⟩⟩⟩⟩⟩⟩⟩⟩)
theorem mo_186 : mm_MO mm_ct mm_CM mm_cl mm_WS mm_NW me_186 := ⟨by decide, kw_787, kw_653, by decide, by decide +kernel, mc_186⟩
set_option maxRecDepth 100000 in
theorem ck_187 : mm_cks cX8_sortOf 0 cd_187 = true := by decide +kernel
set_option maxRecDepth 100000 in
theorem sf_187 : mm_spf cd_187 = [(.invokestatic 142, 3, 167, 0), (.invokevirtual 216, 3, 171, 1), (.invokestatic 146, 3, 168, 0), (.invokevirtual 216, 3, 171, 1), (.invokestatic 146, 3, 168, 0), (.invokevirtual 216, 3, 171, 1), (.invokestatic 170, 3, 169, 0), (.invokevirtual 216, 3, 171, 1), (.invokestatic 146, 3, 168, 0), (.invokevirtual 216, 3, 171, 1), (.invokestatic 146, 3, 168, 0), (.invokevirtual 216, 3, 171, 1), (.invokestatic 170, 3, 169, 0), (.invokevirtual 216, 3, 171, 1), (.invokestatic 142, 3, 167, 0), (.invokevirtual 216, 3, 171, 1), (.invokestatic 142, 3, 167, 0), (.invokevirtual 216, 3, 171, 1), (.invokestatic 142, 3, 167, 0), (.invokevirtual 216, 3, 171, 1)] := by decide +kernel
theorem mc_187 : mm_MC mm_ct mm_CM mm_cl mm_WS mm_NW me_187 := mm_MC_of rfl rfl ck_187 (by rw [sf_187]; exact List.forall_mem_cons.mpr ⟨sq_400, List.forall_mem_cons.mpr ⟨sq_429, List.forall_mem_cons.mpr ⟨sq_401, List.forall_mem_cons.mpr ⟨sq_429, List.forall_mem_cons.mpr ⟨sq_401, List.forall_mem_cons.mpr ⟨sq_429, List.forall_mem_cons.mpr ⟨sq_414, List.forall_mem_cons.mpr ⟨sq_429, List.forall_mem_cons.mpr ⟨sq_401, List.forall_mem_cons.mpr ⟨sq_429, List.forall_mem_cons.mpr ⟨sq_401, List.forall_mem_cons.mpr ⟨sq_429, List.forall_mem_cons.mpr ⟨sq_414, List.forall_mem_cons.mpr ⟨sq_429, List.forall_mem_cons.mpr ⟨sq_400, List.forall_mem_cons.mpr ⟨sq_429, List.forall_mem_cons.mpr ⟨sq_400, List.forall_mem_cons.mpr ⟨sq_429, List.forall_mem_cons.mpr ⟨sq_400, List.forall_mem_cons.mpr ⟨sq_429, fun _ h => nomatch h⟩⟩⟩⟩⟩⟩⟩⟩⟩⟩⟩⟩⟩⟩⟩⟩⟩⟩⟩⟩)
theorem mo_187 : mm_MO mm_ct mm_CM mm_cl mm_WS mm_NW me_187 := ⟨by decide, kw_788, kw_653, by decide, by decide +kernel, mc_187⟩
set_option maxRecDepth 100000 in
theorem ck_188 : mm_cks cX8_figure 0 cd_188 = true := by decide +kernel
set_option maxRecDepth 100000 in
theorem sf_188 : mm_spf cd_188 = [(.getfield 125, 3, 8, 9), (.getfield 131, 3, 8, 10), (.invokestatic 89, 3, 148, 0), (.getfield 16, 3, 8, 2), (.getfield 131, 3, 8, 10), (.invokevirtual 185, 3, 166, 1)] := by decide +kernel
theorem mc_188 : mm_MC mm_ct mm_CM mm_cl mm_WS mm_NW me_188 := mm_MC_of rfl rfl ck_188 (by rw [sf_188]; exact List.forall_mem_cons.mpr ⟨sq_402, List.forall_mem_cons.mpr ⟨sq_394, List.forall_mem_cons.mpr ⟨sq_378, List.forall_mem_cons.mpr ⟨sq_403, List.forall_mem_cons.mpr ⟨sq_394, List.forall_mem_cons.mpr ⟨sq_418, fun _ h => nomatch h⟩⟩⟩⟩⟩⟩)
theorem mo_188 : mm_MO mm_ct mm_CM mm_cl mm_WS mm_NW me_188 := ⟨by decide, kw_789, kw_653, by decide, by decide +kernel, mc_188⟩
theorem sq_434 : mm_Pq mm_ct mm_CM mm_cl mm_WS mm_NW "SelfSortingModel" "" (.invokevirtual 231, 3, 188, 1) := ⟨kw_791, kw_792, kw_790, _, _, rfl⟩
set_option maxRecDepth 100000 in
theorem ck_189 : mm_cks cX8_worded 0 cd_189 = true := by decide +kernel
set_option maxRecDepth 100000 in
theorem sf_189 : mm_spf cd_189 = [(.getfield 125, 3, 8, 9), (.getfield 138, 3, 8, 11), (.invokevirtual 185, 3, 166, 1), (.invokevirtual 231, 3, 188, 1)] := by decide +kernel
theorem mc_189 : mm_MC mm_ct mm_CM mm_cl mm_WS mm_NW me_189 := mm_MC_of rfl rfl ck_189 (by rw [sf_189]; exact List.forall_mem_cons.mpr ⟨sq_402, List.forall_mem_cons.mpr ⟨sq_399, List.forall_mem_cons.mpr ⟨sq_418, List.forall_mem_cons.mpr ⟨sq_434, fun _ h => nomatch h⟩⟩⟩⟩)
theorem mo_189 : mm_MO mm_ct mm_CM mm_cl mm_WS mm_NW me_189 := ⟨by decide, kw_793, kw_653, by decide, by decide +kernel, mc_189⟩
set_option maxRecDepth 100000 in
theorem ck_190 : mm_cks cX8_hasLaw 0 cd_190 = true := by decide +kernel
set_option maxRecDepth 100000 in
theorem sf_190 : mm_spf cd_190 = [(.getfield 16, 3, 8, 2), (.getfield 150, 3, 8, 12), (.getfield 16, 3, 8, 2), (.getfield 150, 3, 8, 12), (.getfield 16, 3, 8, 2), (.getfield 150, 3, 8, 12)] := by decide +kernel
theorem mc_190 : mm_MC mm_ct mm_CM mm_cl mm_WS mm_NW me_190 := mm_MC_of rfl rfl ck_190 (by rw [sf_190]; exact List.forall_mem_cons.mpr ⟨sq_403, List.forall_mem_cons.mpr ⟨sq_404, List.forall_mem_cons.mpr ⟨sq_403, List.forall_mem_cons.mpr ⟨sq_404, List.forall_mem_cons.mpr ⟨sq_403, List.forall_mem_cons.mpr ⟨sq_404, fun _ h => nomatch h⟩⟩⟩⟩⟩⟩)
theorem mo_190 : mm_MO mm_ct mm_CM mm_cl mm_WS mm_NW me_190 := ⟨by decide, kw_794, kw_653, by decide, by decide +kernel, mc_190⟩
theorem sq_435 : mm_Pq mm_ct mm_CM mm_cl mm_WS mm_NW "SelfSortingModel" "" (.invokevirtual 235, 3, 190, 1) := ⟨kw_796, kw_797, kw_795, _, _, rfl⟩
theorem sq_436 : mm_Pq mm_ct mm_CM mm_cl mm_WS mm_NW "SelfSortingModel" "" (.invokevirtual 238, 3, 186, 1) := ⟨kw_799, kw_800, kw_798, _, _, rfl⟩
set_option maxRecDepth 100000 in
theorem ck_191 : mm_cks cX8_lawClause 0 cd_191 = true := by decide +kernel
set_option maxRecDepth 100000 in
theorem sf_191 : mm_spf cd_191 = [(.getfield 125, 3, 8, 9), (.getfield 131, 3, 8, 10), (.getfield 131, 3, 8, 10), (.invokevirtual 235, 3, 190, 1), (.invokevirtual 231, 3, 188, 1), (.getfield 16, 3, 8, 2), (.getfield 153, 3, 8, 14), (.invokevirtual 238, 3, 186, 1), (.getfield 16, 3, 8, 2), (.getfield 153, 3, 8, 14)] := by decide +kernel
theorem mc_191 : mm_MC mm_ct mm_CM mm_cl mm_WS mm_NW me_191 := mm_MC_of rfl rfl ck_191 (by rw [sf_191]; exact List.forall_mem_cons.mpr ⟨sq_402, List.forall_mem_cons.mpr ⟨sq_394, List.forall_mem_cons.mpr ⟨sq_394, List.forall_mem_cons.mpr ⟨sq_435, List.forall_mem_cons.mpr ⟨sq_434, List.forall_mem_cons.mpr ⟨sq_403, List.forall_mem_cons.mpr ⟨sq_405, List.forall_mem_cons.mpr ⟨sq_436, List.forall_mem_cons.mpr ⟨sq_403, List.forall_mem_cons.mpr ⟨sq_405, fun _ h => nomatch h⟩⟩⟩⟩⟩⟩⟩⟩⟩⟩)
theorem mo_191 : mm_MO mm_ct mm_CM mm_cl mm_WS mm_NW me_191 := ⟨by decide, kw_801, kw_653, by decide, by decide +kernel, mc_191⟩
set_option maxRecDepth 100000 in
theorem ck_192 : mm_cks cX8_sumClause 0 cd_192 = true := by decide +kernel
set_option maxRecDepth 100000 in
theorem sf_192 : mm_spf cd_192 = [(.getfield 16, 3, 8, 2), (.getfield 153, 3, 8, 14), (.invokevirtual 220, 3, 183, 1), (.invokevirtual 238, 3, 186, 1), (.getfield 16, 3, 8, 2), (.getfield 153, 3, 8, 14)] := by decide +kernel
theorem mc_192 : mm_MC mm_ct mm_CM mm_cl mm_WS mm_NW me_192 := mm_MC_of rfl rfl ck_192 (by rw [sf_192]; exact List.forall_mem_cons.mpr ⟨sq_403, List.forall_mem_cons.mpr ⟨sq_405, List.forall_mem_cons.mpr ⟨sq_430, List.forall_mem_cons.mpr ⟨sq_436, List.forall_mem_cons.mpr ⟨sq_403, List.forall_mem_cons.mpr ⟨sq_405, fun _ h => nomatch h⟩⟩⟩⟩⟩⟩)
theorem mo_192 : mm_MO mm_ct mm_CM mm_cl mm_WS mm_NW me_192 := ⟨by decide, kw_802, kw_653, by decide, by decide +kernel, mc_192⟩
theorem sq_437 : mm_Pq mm_ct mm_CM mm_cl mm_WS mm_NW "SelfSortingModel" "" (.invokevirtual 241, 3, 189, 1) := ⟨kw_804, kw_805, kw_803, _, _, rfl⟩
set_option maxRecDepth 100000 in
theorem ck_193 : mm_cks cX8_putClause 0 cd_193 = true := by decide +kernel
set_option maxRecDepth 100000 in
theorem sf_193 : mm_spf cd_193 = [(.invokevirtual 231, 3, 188, 1), (.invokevirtual 241, 3, 189, 1), (.invokevirtual 241, 3, 189, 1)] := by decide +kernel
theorem mc_193 : mm_MC mm_ct mm_CM mm_cl mm_WS mm_NW me_193 := mm_MC_of rfl rfl ck_193 (by rw [sf_193]; exact List.forall_mem_cons.mpr ⟨sq_434, List.forall_mem_cons.mpr ⟨sq_437, List.forall_mem_cons.mpr ⟨sq_437, fun _ h => nomatch h⟩⟩⟩)
theorem mo_193 : mm_MO mm_ct mm_CM mm_cl mm_WS mm_NW me_193 := ⟨by decide, kw_806, kw_653, by decide, by decide +kernel, mc_193⟩
theorem sq_438 : mm_Pq mm_ct mm_CM mm_cl mm_WS mm_NW "SelfSortingModel" "" (.invokevirtual 245, 3, 191, 1) := ⟨kw_808, kw_809, kw_807, _, _, rfl⟩
theorem sq_439 : mm_Pq mm_ct mm_CM mm_cl mm_WS mm_NW "SelfSortingModel" "" (.invokevirtual 248, 3, 192, 1) := ⟨kw_811, kw_812, kw_810, _, _, rfl⟩
theorem sq_440 : mm_Pq mm_ct mm_CM mm_cl mm_WS mm_NW "SelfSortingModel" "" (.invokevirtual 251, 3, 193, 1) := ⟨kw_814, kw_815, kw_813, _, _, rfl⟩
set_option maxRecDepth 100000 in
theorem ck_194 : mm_cks cX8_body 0 cd_194 = true := by decide +kernel
set_option maxRecDepth 100000 in
theorem sf_194 : mm_spf cd_194 = [(.invokevirtual 245, 3, 191, 1), (.invokevirtual 248, 3, 192, 1), (.invokevirtual 248, 3, 192, 1), (.invokevirtual 231, 3, 188, 1), (.invokevirtual 231, 3, 188, 1), (.invokevirtual 231, 3, 188, 1), (.invokevirtual 241, 3, 189, 1), (.invokevirtual 231, 3, 188, 1), (.invokevirtual 251, 3, 193, 1)] := by decide +kernel
theorem mc_194 : mm_MC mm_ct mm_CM mm_cl mm_WS mm_NW me_194 := mm_MC_of rfl rfl ck_194 (by rw [sf_194]; exact List.forall_mem_cons.mpr ⟨sq_438, List.forall_mem_cons.mpr ⟨sq_439, List.forall_mem_cons.mpr ⟨sq_439, List.forall_mem_cons.mpr ⟨sq_434, List.forall_mem_cons.mpr ⟨sq_434, List.forall_mem_cons.mpr ⟨sq_434, List.forall_mem_cons.mpr ⟨sq_437, List.forall_mem_cons.mpr ⟨sq_434, List.forall_mem_cons.mpr ⟨sq_440, fun _ h => nomatch h⟩⟩⟩⟩⟩⟩⟩⟩⟩)
theorem mo_194 : mm_MO mm_ct mm_CM mm_cl mm_WS mm_NW me_194 := ⟨by decide, kw_816, kw_653, by decide, by decide +kernel, mc_194⟩
theorem sq_441 : mm_Pq mm_ct mm_CM mm_cl mm_WS mm_NW "SelfSortingModel" "" (.invokevirtual 254, 3, 187, 1) := ⟨kw_818, kw_819, kw_817, _, _, rfl⟩
theorem sq_442 : mm_Pq mm_ct mm_CM mm_cl mm_WS mm_NW "SelfSortingModel" "" (.getfield 257, 3, 8, 21) := ⟨(RX8, TX8, 43), rfl, by decide, by decide, kw_820⟩
theorem sq_443 : mm_Pq mm_ct mm_CM mm_cl mm_WS mm_NW "SelfSortingModel" "" (.putfield 257, 3, 8, 21) := ⟨⟨(RX8, TX8, 43), rfl, by decide, by decide, kw_820⟩, fun r h g => by cases h; cases g⟩
theorem sq_444 : mm_Pq mm_ct mm_CM mm_cl mm_WS mm_NW "SelfSortingModel" "" (.putfield 182, 3, 8, 20) := ⟨⟨(RX8, TX8, 43), rfl, by decide, by decide, kw_735⟩, fun r h g => by cases h; cases g⟩
theorem sq_445 : mm_Pq mm_ct mm_CM mm_cl mm_WS mm_NW "SelfSortingModel" "" (.invokevirtual 260, 3, 194, 1) := ⟨kw_822, kw_823, kw_821, _, _, rfl⟩
set_option maxRecDepth 100000 in
theorem ck_195 : mm_cks cX8_clause 0 cd_195 = true := by decide +kernel
set_option maxRecDepth 100000 in
theorem sf_195 : mm_spf cd_195 = [(.invokevirtual 254, 3, 187, 1), (.invokestatic 89, 3, 148, 0), (.getfield 257, 3, 8, 21), (.getfield 16, 3, 8, 2), (.getfield 150, 3, 8, 12), (.getfield 257, 3, 8, 21), (.putfield 257, 3, 8, 21), (.putfield 182, 3, 8, 20), (.invokevirtual 185, 3, 166, 1), (.getfield 150, 3, 8, 12), (.invokevirtual 260, 3, 194, 1), (.getfield 16, 3, 8, 2), (.getfield 16, 3, 8, 2), (.getfield 150, 3, 8, 12), (.getfield 125, 3, 8, 9), (.invokevirtual 185, 3, 166, 1)] := by decide +kernel
theorem mc_195 : mm_MC mm_ct mm_CM mm_cl mm_WS mm_NW me_195 := mm_MC_of rfl rfl ck_195 (by rw [sf_195]; exact List.forall_mem_cons.mpr ⟨sq_441, List.forall_mem_cons.mpr ⟨sq_378, List.forall_mem_cons.mpr ⟨sq_442, List.forall_mem_cons.mpr ⟨sq_403, List.forall_mem_cons.mpr ⟨sq_404, List.forall_mem_cons.mpr ⟨sq_442, List.forall_mem_cons.mpr ⟨sq_443, List.forall_mem_cons.mpr ⟨sq_444, List.forall_mem_cons.mpr ⟨sq_418, List.forall_mem_cons.mpr ⟨sq_404, List.forall_mem_cons.mpr ⟨sq_445, List.forall_mem_cons.mpr ⟨sq_403, List.forall_mem_cons.mpr ⟨sq_403, List.forall_mem_cons.mpr ⟨sq_404, List.forall_mem_cons.mpr ⟨sq_402, List.forall_mem_cons.mpr ⟨sq_418, fun _ h => nomatch h⟩⟩⟩⟩⟩⟩⟩⟩⟩⟩⟩⟩⟩⟩⟩⟩)
theorem mo_195 : mm_MO mm_ct mm_CM mm_cl mm_WS mm_NW me_195 := ⟨by decide, kw_824, kw_653, by decide, by decide +kernel, mc_195⟩
theorem sq_446 : mm_Pq mm_ct mm_CM mm_cl mm_WS mm_NW "SelfSortingModel" "" (.putfield 150, 3, 8, 12) := ⟨⟨(RX8, TX8, 43), rfl, by decide, by decide, kw_714⟩, fun r h g => by cases h; cases g⟩
theorem sq_447 : mm_Pq mm_ct mm_CM mm_cl mm_WS mm_NW "SelfSortingModel" "" (.invokevirtual 263, 3, 195, 1) := ⟨kw_826, kw_827, kw_825, _, _, rfl⟩
set_option maxRecDepth 100000 in
theorem ck_196 : mm_cks cX8_readText 0 cd_196 = true := by decide +kernel
set_option maxRecDepth 100000 in
theorem sf_196 : mm_spf cd_196 = [(.getfield 7, 3, 8, 0), (.putfield 150, 3, 8, 12), (.getfield 16, 3, 8, 2), (.getfield 150, 3, 8, 12), (.putfield 153, 3, 8, 14), (.putfield 163, 3, 8, 18), (.putfield 257, 3, 8, 21), (.putfield 115, 3, 8, 7), (.invokevirtual 185, 3, 166, 1), (.getfield 125, 3, 8, 9), (.invokevirtual 263, 3, 195, 1)] := by decide +kernel
theorem mc_196 : mm_MC mm_ct mm_CM mm_cl mm_WS mm_NW me_196 := mm_MC_of rfl rfl ck_196 (by rw [sf_196]; exact List.forall_mem_cons.mpr ⟨sq_375, List.forall_mem_cons.mpr ⟨sq_446, List.forall_mem_cons.mpr ⟨sq_403, List.forall_mem_cons.mpr ⟨sq_404, List.forall_mem_cons.mpr ⟨sq_406, List.forall_mem_cons.mpr ⟨sq_412, List.forall_mem_cons.mpr ⟨sq_443, List.forall_mem_cons.mpr ⟨sq_389, List.forall_mem_cons.mpr ⟨sq_418, List.forall_mem_cons.mpr ⟨sq_402, List.forall_mem_cons.mpr ⟨sq_447, fun _ h => nomatch h⟩⟩⟩⟩⟩⟩⟩⟩⟩⟩⟩)
theorem mo_196 : mm_MO mm_ct mm_CM mm_cl mm_WS mm_NW me_196 := ⟨by decide, kw_828, kw_653, by decide, by decide +kernel, mc_196⟩
theorem sq_448 : mm_Pq mm_ct mm_CM mm_cl mm_WS mm_NW "SelfSortingModel" "" (.invokevirtual 266, 3, 196, 1) := ⟨kw_830, kw_831, kw_829, _, _, rfl⟩
theorem sq_449 : mm_Pq mm_ct mm_CM mm_cl mm_WS mm_NW "SelfSortingModel" "" (.getfield 22, 3, 8, 5) := ⟨(RX8, TX8, 43), rfl, by decide, by decide, kw_629⟩
set_option maxRecDepth 100000 in
theorem ck_197 : mm_cks cX8_text 0 cd_197 = true := by decide +kernel
set_option maxRecDepth 100000 in
theorem sf_197 : mm_spf cd_197 = [(.getfield 7, 3, 8, 0), (.invokevirtual 266, 3, 196, 1), (.putfield 22, 3, 8, 5), (.getfield 22, 3, 8, 5), (.getfield 122, 3, 8, 8), (.putfield 26, 3, 8, 6), (.putfield 108, 3, 8, 4), (.getfield 22, 3, 8, 5), (.getfield 7, 3, 8, 0), (.getfield 7, 3, 8, 0)] := by decide +kernel
theorem mc_197 : mm_MC mm_ct mm_CM mm_cl mm_WS mm_NW me_197 := mm_MC_of rfl rfl ck_197 (by rw [sf_197]; exact List.forall_mem_cons.mpr ⟨sq_375, List.forall_mem_cons.mpr ⟨sq_448, List.forall_mem_cons.mpr ⟨sq_353, List.forall_mem_cons.mpr ⟨sq_449, List.forall_mem_cons.mpr ⟨sq_398, List.forall_mem_cons.mpr ⟨sq_354, List.forall_mem_cons.mpr ⟨sq_385, List.forall_mem_cons.mpr ⟨sq_449, List.forall_mem_cons.mpr ⟨sq_375, List.forall_mem_cons.mpr ⟨sq_375, fun _ h => nomatch h⟩⟩⟩⟩⟩⟩⟩⟩⟩⟩)
theorem mo_197 : mm_MO mm_ct mm_CM mm_cl mm_WS mm_NW me_197 := ⟨by decide, kw_832, kw_653, by decide, by decide +kernel, mc_197⟩
theorem sq_450 : mm_Pq mm_ct mm_CM mm_cl mm_WS mm_NW "SelfSortingModel" "" (.getfield 26, 3, 8, 6) := ⟨(RX8, TX8, 43), rfl, by decide, by decide, kw_630⟩
set_option maxRecDepth 100000 in
theorem ck_198 : mm_cks cX8_fault 0 cd_198 = true := by decide +kernel
set_option maxRecDepth 100000 in
theorem sf_198 : mm_spf cd_198 = [(.getfield 22, 3, 8, 5), (.getfield 26, 3, 8, 6)] := by decide +kernel
theorem mc_198 : mm_MC mm_ct mm_CM mm_cl mm_WS mm_NW me_198 := mm_MC_of rfl rfl ck_198 (by rw [sf_198]; exact List.forall_mem_cons.mpr ⟨sq_449, List.forall_mem_cons.mpr ⟨sq_450, fun _ h => nomatch h⟩⟩)
theorem mo_198 : mm_MO mm_ct mm_CM mm_cl mm_WS mm_NW me_198 := ⟨by decide, kw_833, kw_653, by decide, by decide +kernel, mc_198⟩
set_option maxRecDepth 100000 in
theorem ck_199 : mm_cks cX8_by 0 cd_199 = true := by decide +kernel
set_option maxRecDepth 100000 in
theorem sf_199 : mm_spf cd_199 = [(.getfield 7, 3, 8, 0), (.invokestatic 89, 3, 148, 0), (.getfield 7, 3, 8, 0)] := by decide +kernel
theorem mc_199 : mm_MC mm_ct mm_CM mm_cl mm_WS mm_NW me_199 := mm_MC_of rfl rfl ck_199 (by rw [sf_199]; exact List.forall_mem_cons.mpr ⟨sq_375, List.forall_mem_cons.mpr ⟨sq_378, List.forall_mem_cons.mpr ⟨sq_375, fun _ h => nomatch h⟩⟩⟩)
theorem mo_199 : mm_MO mm_ct mm_CM mm_cl mm_WS mm_NW me_199 := ⟨by decide, kw_834, kw_653, by decide, by decide +kernel, mc_199⟩
theorem sq_451 : mm_Pq mm_ct mm_CM mm_cl mm_WS mm_NW "SelfSortingModel" "" (.ldc2_w 269, 3, 1000000, 0) := ⟨rfl, kw_835⟩
theorem sq_452 : mm_Pq mm_ct mm_CM mm_cl mm_WS mm_NW "SelfSortingModel" "" (.ldc2_w 271, 3, 18446744073708551616, 0) := ⟨rfl, kw_836⟩
set_option maxRecDepth 100000 in
theorem ck_200 : mm_cks cX8_clip 0 cd_200 = true := by decide +kernel
set_option maxRecDepth 100000 in
theorem sf_200 : mm_spf cd_200 = [(.ldc2_w 269, 3, 1000000, 0), (.ldc2_w 269, 3, 1000000, 0), (.ldc2_w 271, 3, 18446744073708551616, 0), (.ldc2_w 271, 3, 18446744073708551616, 0)] := by decide +kernel
theorem mc_200 : mm_MC mm_ct mm_CM mm_cl mm_WS mm_NW me_200 := mm_MC_of rfl rfl ck_200 (by rw [sf_200]; exact List.forall_mem_cons.mpr ⟨sq_451, List.forall_mem_cons.mpr ⟨sq_451, List.forall_mem_cons.mpr ⟨sq_452, List.forall_mem_cons.mpr ⟨sq_452, fun _ h => nomatch h⟩⟩⟩⟩)
theorem mo_200 : mm_MO mm_ct mm_CM mm_cl mm_WS mm_NW me_200 := ⟨by decide, kw_837, kw_653, by decide, by decide +kernel, mc_200⟩
theorem sq_453 : mm_Pq mm_ct mm_CM mm_cl mm_WS mm_NW "SelfSortingModel" "" (.invokestatic 273, 3, 200, 0) := ⟨kw_839, Or.inl kw_838⟩
set_option maxRecDepth 100000 in
theorem ck_201 : mm_cks cX8_two 0 cd_201 = true := by decide +kernel
set_option maxRecDepth 100000 in
theorem sf_201 : mm_spf cd_201 = [(.invokestatic 273, 3, 200, 0), (.invokestatic 273, 3, 200, 0), (.invokestatic 273, 3, 200, 0), (.invokestatic 273, 3, 200, 0)] := by decide +kernel
theorem mc_201 : mm_MC mm_ct mm_CM mm_cl mm_WS mm_NW me_201 := mm_MC_of rfl rfl ck_201 (by rw [sf_201]; exact List.forall_mem_cons.mpr ⟨sq_453, List.forall_mem_cons.mpr ⟨sq_453, List.forall_mem_cons.mpr ⟨sq_453, List.forall_mem_cons.mpr ⟨sq_453, fun _ h => nomatch h⟩⟩⟩⟩)
theorem mo_201 : mm_MO mm_ct mm_CM mm_cl mm_WS mm_NW me_201 := ⟨by decide, kw_840, kw_653, by decide, by decide +kernel, mc_201⟩
set_option maxRecDepth 100000 in
theorem ck_202 : mm_cks cX8_isAsked 0 cd_202 = true := by decide +kernel
set_option maxRecDepth 100000 in
theorem sf_202 : mm_spf cd_202 = [] := by decide +kernel
theorem mc_202 : mm_MC mm_ct mm_CM mm_cl mm_WS mm_NW me_202 := mm_MC_of rfl rfl ck_202 (by rw [sf_202]; exact fun _ h => nomatch h)
theorem mo_202 : mm_MO mm_ct mm_CM mm_cl mm_WS mm_NW me_202 := ⟨by decide, kw_841, kw_653, by decide, by decide +kernel, mc_202⟩
theorem sq_454 : mm_Pq mm_ct mm_CM mm_cl mm_WS mm_NW "SelfSortingModel" "" (.getfield 35, 3, 8, 23) := ⟨(RX8, TX8, 43), rfl, by decide, by decide, kw_633⟩
theorem sq_455 : mm_Pq mm_ct mm_CM mm_cl mm_WS mm_NW "SelfSortingModel" "" (.getfield 32, 3, 8, 22) := ⟨(RX8, TX8, 43), rfl, by decide, by decide, kw_632⟩
theorem sq_456 : mm_Pq mm_ct mm_CM mm_cl mm_WS mm_NW "SelfSortingModel" "" (.invokestatic 277, 3, 201, 0) := ⟨kw_843, Or.inl kw_842⟩
theorem sq_457 : mm_Pq mm_ct mm_CM mm_cl mm_WS mm_NW "SelfSortingModel" "" (.getfield 39, 3, 8, 24) := ⟨(RX8, TX8, 43), rfl, by decide, by decide, kw_635⟩
theorem sq_458 : mm_Pq mm_ct mm_CM mm_cl mm_WS mm_NW "SelfSortingModel" "" (.invokestatic 281, 3, 202, 0) := ⟨kw_845, Or.inl kw_844⟩
set_option maxRecDepth 100000 in
theorem ck_203 : mm_cks cX8_work 0 cd_203 = true := by decide +kernel
set_option maxRecDepth 100000 in
theorem sf_203 : mm_spf cd_203 = [(.getfield 7, 3, 8, 0), (.getfield 7, 3, 8, 0), (.getfield 16, 3, 8, 2), (.getfield 16, 3, 8, 2), (.getfield 16, 3, 8, 2), (.getfield 16, 3, 8, 2), (.getfield 35, 3, 8, 23), (.getfield 32, 3, 8, 22), (.getfield 35, 3, 8, 23), (.getfield 35, 3, 8, 23), (.getfield 35, 3, 8, 23), (.getfield 35, 3, 8, 23), (.getfield 35, 3, 8, 23), (.invokestatic 277, 3, 201, 0), (.getfield 39, 3, 8, 24), (.getfield 35, 3, 8, 23), (.getfield 35, 3, 8, 23), (.invokestatic 281, 3, 202, 0), (.getfield 39, 3, 8, 24), (.getfield 39, 3, 8, 24), (.getfield 39, 3, 8, 24), (.getfield 39, 3, 8, 24), (.getfield 39, 3, 8, 24), (.getfield 39, 3, 8, 24), (.getfield 39, 3, 8, 24)] := by decide +kernel
theorem mc_203 : mm_MC mm_ct mm_CM mm_cl mm_WS mm_NW me_203 := mm_MC_of rfl rfl ck_203 (by rw [sf_203]; exact List.forall_mem_cons.mpr ⟨sq_375, List.forall_mem_cons.mpr ⟨sq_375, List.forall_mem_cons.mpr ⟨sq_403, List.forall_mem_cons.mpr ⟨sq_403, List.forall_mem_cons.mpr ⟨sq_403, List.forall_mem_cons.mpr ⟨sq_403, List.forall_mem_cons.mpr ⟨sq_454, List.forall_mem_cons.mpr ⟨sq_455, List.forall_mem_cons.mpr ⟨sq_454, List.forall_mem_cons.mpr ⟨sq_454, List.forall_mem_cons.mpr ⟨sq_454, List.forall_mem_cons.mpr ⟨sq_454, List.forall_mem_cons.mpr ⟨sq_454, List.forall_mem_cons.mpr ⟨sq_456, List.forall_mem_cons.mpr ⟨sq_457, List.forall_mem_cons.mpr ⟨sq_454, List.forall_mem_cons.mpr ⟨sq_454, List.forall_mem_cons.mpr ⟨sq_458, List.forall_mem_cons.mpr ⟨sq_457, List.forall_mem_cons.mpr ⟨sq_457, List.forall_mem_cons.mpr ⟨sq_457, List.forall_mem_cons.mpr ⟨sq_457, List.forall_mem_cons.mpr ⟨sq_457, List.forall_mem_cons.mpr ⟨sq_457, List.forall_mem_cons.mpr ⟨sq_457, fun _ h => nomatch h⟩⟩⟩⟩⟩⟩⟩⟩⟩⟩⟩⟩⟩⟩⟩⟩⟩⟩⟩⟩⟩⟩⟩⟩⟩)
theorem mo_203 : mm_MO mm_ct mm_CM mm_cl mm_WS mm_NW me_203 := ⟨by decide, kw_846, kw_653, by decide, by decide +kernel, mc_203⟩
set_option maxRecDepth 100000 in
theorem ck_204 : mm_cks cX8_clauseOf 0 cd_204 = true := by decide +kernel
set_option maxRecDepth 100000 in
theorem sf_204 : mm_spf cd_204 = [(.getfield 7, 3, 8, 0), (.getfield 16, 3, 8, 2), (.getfield 7, 3, 8, 0), (.getfield 7, 3, 8, 0), (.getfield 16, 3, 8, 2), (.getfield 16, 3, 8, 2)] := by decide +kernel
theorem mc_204 : mm_MC mm_ct mm_CM mm_cl mm_WS mm_NW me_204 := mm_MC_of rfl rfl ck_204 (by rw [sf_204]; exact List.forall_mem_cons.mpr ⟨sq_375, List.forall_mem_cons.mpr ⟨sq_403, List.forall_mem_cons.mpr ⟨sq_375, List.forall_mem_cons.mpr ⟨sq_375, List.forall_mem_cons.mpr ⟨sq_403, List.forall_mem_cons.mpr ⟨sq_403, fun _ h => nomatch h⟩⟩⟩⟩⟩⟩)
theorem mo_204 : mm_MO mm_ct mm_CM mm_cl mm_WS mm_NW me_204 := ⟨by decide, kw_847, kw_653, by decide, by decide +kernel, mc_204⟩
theorem sq_459 : mm_Pq mm_ct mm_CM mm_cl mm_WS mm_NW "SelfSortingModel" "" (.invokevirtual 285, 3, 204, 1) := ⟨kw_849, kw_850, kw_848, _, _, rfl⟩
set_option maxRecDepth 100000 in
theorem ck_205 : mm_cks cX8_needNow 0 cd_205 = true := by decide +kernel
set_option maxRecDepth 100000 in
theorem sf_205 : mm_spf cd_205 = [(.invokevirtual 285, 3, 204, 1), (.getfield 7, 3, 8, 0), (.getfield 16, 3, 8, 2), (.getfield 7, 3, 8, 0)] := by decide +kernel
theorem mc_205 : mm_MC mm_ct mm_CM mm_cl mm_WS mm_NW me_205 := mm_MC_of rfl rfl ck_205 (by rw [sf_205]; exact List.forall_mem_cons.mpr ⟨sq_459, List.forall_mem_cons.mpr ⟨sq_375, List.forall_mem_cons.mpr ⟨sq_403, List.forall_mem_cons.mpr ⟨sq_375, fun _ h => nomatch h⟩⟩⟩⟩)
theorem mo_205 : mm_MO mm_ct mm_CM mm_cl mm_WS mm_NW me_205 := ⟨by decide, kw_851, kw_653, by decide, by decide +kernel, mc_205⟩
set_option maxRecDepth 100000 in
theorem ck_206 : mm_cks cX8_name 0 cd_206 = true := by decide +kernel
set_option maxRecDepth 100000 in
theorem sf_206 : mm_spf cd_206 = [(.getfield 32, 3, 8, 22), (.getfield 32, 3, 8, 22), (.invokevirtual 97, 3, 153, 1), (.getfield 32, 3, 8, 22), (.getfield 7, 3, 8, 0)] := by decide +kernel
theorem mc_206 : mm_MC mm_ct mm_CM mm_cl mm_WS mm_NW me_206 := mm_MC_of rfl rfl ck_206 (by rw [sf_206]; exact List.forall_mem_cons.mpr ⟨sq_455, List.forall_mem_cons.mpr ⟨sq_455, List.forall_mem_cons.mpr ⟨sq_380, List.forall_mem_cons.mpr ⟨sq_455, List.forall_mem_cons.mpr ⟨sq_375, fun _ h => nomatch h⟩⟩⟩⟩⟩)
theorem mo_206 : mm_MO mm_ct mm_CM mm_cl mm_WS mm_NW me_206 := ⟨by decide, kw_852, kw_653, by decide, by decide +kernel, mc_206⟩
theorem sq_460 : mm_Pq mm_ct mm_CM mm_cl mm_WS mm_NW "SelfSortingModel" "" (.invokevirtual 288, 3, 206, 1) := ⟨kw_854, kw_855, kw_853, _, _, rfl⟩
theorem sq_461 : mm_Pq mm_ct mm_CM mm_cl mm_WS mm_NW "SelfSortingModel" "" (.invokevirtual 291, 3, 203, 1) := ⟨kw_857, kw_858, kw_856, _, _, rfl⟩
theorem sq_462 : mm_Pq mm_ct mm_CM mm_cl mm_WS mm_NW "SelfSortingModel" "" (.ldc2_w 294, 3, 9, 0) := ⟨rfl, kw_859⟩
set_option maxRecDepth 100000 in
theorem ck_207 : mm_cks cX8_thickNow 0 cd_207 = true := by decide +kernel
set_option maxRecDepth 100000 in
theorem sf_207 : mm_spf cd_207 = [(.getfield 7, 3, 8, 0), (.invokevirtual 285, 3, 204, 1), (.invokevirtual 97, 3, 153, 1), (.invokevirtual 288, 3, 206, 1), (.invokevirtual 291, 3, 203, 1), (.invokevirtual 97, 3, 153, 1), (.getfield 35, 3, 8, 23), (.getfield 35, 3, 8, 23), (.ldc2_w 294, 3, 9, 0), (.getfield 35, 3, 8, 23)] := by decide +kernel
theorem mc_207 : mm_MC mm_ct mm_CM mm_cl mm_WS mm_NW me_207 := mm_MC_of rfl rfl ck_207 (by rw [sf_207]; exact List.forall_mem_cons.mpr ⟨sq_375, List.forall_mem_cons.mpr ⟨sq_459, List.forall_mem_cons.mpr ⟨sq_380, List.forall_mem_cons.mpr ⟨sq_460, List.forall_mem_cons.mpr ⟨sq_461, List.forall_mem_cons.mpr ⟨sq_380, List.forall_mem_cons.mpr ⟨sq_454, List.forall_mem_cons.mpr ⟨sq_454, List.forall_mem_cons.mpr ⟨sq_462, List.forall_mem_cons.mpr ⟨sq_454, fun _ h => nomatch h⟩⟩⟩⟩⟩⟩⟩⟩⟩⟩)
theorem mo_207 : mm_MO mm_ct mm_CM mm_cl mm_WS mm_NW me_207 := ⟨by decide, kw_860, kw_653, by decide, by decide +kernel, mc_207⟩
theorem sq_463 : mm_Pq mm_ct mm_CM mm_cl mm_WS mm_NW "SelfSortingModel" "" (.invokevirtual 296, 3, 207, 1) := ⟨kw_862, kw_863, kw_861, _, _, rfl⟩
set_option maxRecDepth 100000 in
theorem ck_208 : mm_cks cX8_fullOf 0 cd_208 = true := by decide +kernel
set_option maxRecDepth 100000 in
theorem sf_208 : mm_spf cd_208 = [(.getfield 7, 3, 8, 0), (.invokevirtual 101, 3, 155, 1), (.invokevirtual 296, 3, 207, 1)] := by decide +kernel
theorem mc_208 : mm_MC mm_ct mm_CM mm_cl mm_WS mm_NW me_208 := mm_MC_of rfl rfl ck_208 (by rw [sf_208]; exact List.forall_mem_cons.mpr ⟨sq_375, List.forall_mem_cons.mpr ⟨sq_381, List.forall_mem_cons.mpr ⟨sq_463, fun _ h => nomatch h⟩⟩⟩)
theorem mo_208 : mm_MO mm_ct mm_CM mm_cl mm_WS mm_NW me_208 := ⟨by decide, kw_864, kw_653, by decide, by decide +kernel, mc_208⟩
set_option maxRecDepth 100000 in
theorem ck_209 : mm_cks cX8_pushesBy 0 cd_209 = true := by decide +kernel
set_option maxRecDepth 100000 in
theorem sf_209 : mm_spf cd_209 = [(.invokevirtual 285, 3, 204, 1), (.invokevirtual 288, 3, 206, 1), (.getfield 32, 3, 8, 22), (.getfield 32, 3, 8, 22), (.getfield 32, 3, 8, 22), (.invokevirtual 97, 3, 153, 1), (.invokevirtual 291, 3, 203, 1), (.getfield 39, 3, 8, 24)] := by decide +kernel
theorem mc_209 : mm_MC mm_ct mm_CM mm_cl mm_WS mm_NW me_209 := mm_MC_of rfl rfl ck_209 (by rw [sf_209]; exact List.forall_mem_cons.mpr ⟨sq_459, List.forall_mem_cons.mpr ⟨sq_460, List.forall_mem_cons.mpr ⟨sq_455, List.forall_mem_cons.mpr ⟨sq_455, List.forall_mem_cons.mpr ⟨sq_455, List.forall_mem_cons.mpr ⟨sq_380, List.forall_mem_cons.mpr ⟨sq_461, List.forall_mem_cons.mpr ⟨sq_457, fun _ h => nomatch h⟩⟩⟩⟩⟩⟩⟩⟩)
theorem mo_209 : mm_MO mm_ct mm_CM mm_cl mm_WS mm_NW me_209 := ⟨by decide, kw_865, kw_653, by decide, by decide +kernel, mc_209⟩
theorem sq_464 : mm_Pq mm_ct mm_CM mm_cl mm_WS mm_NW "SelfSortingModel" "" (.invokevirtual 299, 3, 209, 1) := ⟨kw_867, kw_868, kw_866, _, _, rfl⟩
set_option maxRecDepth 100000 in
theorem ck_210 : mm_cks cX8_doesPush 0 cd_210 = true := by decide +kernel
set_option maxRecDepth 100000 in
theorem sf_210 : mm_spf cd_210 = [(.invokevirtual 97, 3, 153, 1), (.invokevirtual 299, 3, 209, 1)] := by decide +kernel
theorem mc_210 : mm_MC mm_ct mm_CM mm_cl mm_WS mm_NW me_210 := mm_MC_of rfl rfl ck_210 (by rw [sf_210]; exact List.forall_mem_cons.mpr ⟨sq_380, List.forall_mem_cons.mpr ⟨sq_464, fun _ h => nomatch h⟩⟩)
theorem mo_210 : mm_MO mm_ct mm_CM mm_cl mm_WS mm_NW me_210 := ⟨by decide, kw_869, kw_653, by decide, by decide +kernel, mc_210⟩
theorem sq_465 : mm_Pq mm_ct mm_CM mm_cl mm_WS mm_NW "SelfSortingModel" "" (.invokevirtual 303, 3, 210, 1) := ⟨kw_871, kw_872, kw_870, _, _, rfl⟩
theorem sq_466 : mm_Pq mm_ct mm_CM mm_cl mm_WS mm_NW "SelfSortingModel" "" (.invokevirtual 307, 3, 205, 1) := ⟨kw_874, kw_875, kw_873, _, _, rfl⟩
set_option maxRecDepth 100000 in
theorem ck_211 : mm_cks cX8_doChange 0 cd_211 = true := by decide +kernel
set_option maxRecDepth 100000 in
theorem sf_211 : mm_spf cd_211 = [(.invokevirtual 303, 3, 210, 1), (.invokevirtual 303, 3, 210, 1), (.invokevirtual 307, 3, 205, 1)] := by decide +kernel
theorem mc_211 : mm_MC mm_ct mm_CM mm_cl mm_WS mm_NW me_211 := mm_MC_of rfl rfl ck_211 (by rw [sf_211]; exact List.forall_mem_cons.mpr ⟨sq_465, List.forall_mem_cons.mpr ⟨sq_465, List.forall_mem_cons.mpr ⟨sq_466, fun _ h => nomatch h⟩⟩⟩)
theorem mo_211 : mm_MO mm_ct mm_CM mm_cl mm_WS mm_NW me_211 := ⟨by decide, kw_876, kw_653, by decide, by decide +kernel, mc_211⟩
set_option maxRecDepth 100000 in
theorem ck_212 : mm_cks cX8_pushes 0 cd_212 = true := by decide +kernel
set_option maxRecDepth 100000 in
theorem sf_212 : mm_spf cd_212 = [(.invokevirtual 93, 3, 151, 1), (.invokevirtual 93, 3, 151, 1), (.invokevirtual 303, 3, 210, 1)] := by decide +kernel
theorem mc_212 : mm_MC mm_ct mm_CM mm_cl mm_WS mm_NW me_212 := mm_MC_of rfl rfl ck_212 (by rw [sf_212]; exact List.forall_mem_cons.mpr ⟨sq_379, List.forall_mem_cons.mpr ⟨sq_379, List.forall_mem_cons.mpr ⟨sq_465, fun _ h => nomatch h⟩⟩⟩)
theorem mo_212 : mm_MO mm_ct mm_CM mm_cl mm_WS mm_NW me_212 := ⟨by decide, kw_877, kw_653, by decide, by decide +kernel, mc_212⟩
theorem sq_467 : mm_Pq mm_ct mm_CM mm_cl mm_WS mm_NW "SelfSortingModel" "" (.invokestatic 310, 3, 152, 0) := ⟨kw_879, Or.inl kw_878⟩
theorem sq_468 : mm_Pq mm_ct mm_CM mm_cl mm_WS mm_NW "SelfSortingModel" "" (.invokevirtual 313, 3, 208, 1) := ⟨kw_881, kw_882, kw_880, _, _, rfl⟩
set_option maxRecDepth 100000 in
theorem ck_213 : mm_cks cX8_wide 0 cd_213 = true := by decide +kernel
set_option maxRecDepth 100000 in
theorem sf_213 : mm_spf cd_213 = [(.invokestatic 310, 3, 152, 0), (.invokestatic 89, 3, 148, 0), (.invokevirtual 313, 3, 208, 1), (.getfield 7, 3, 8, 0)] := by decide +kernel
theorem mc_213 : mm_MC mm_ct mm_CM mm_cl mm_WS mm_NW me_213 := mm_MC_of rfl rfl ck_213 (by rw [sf_213]; exact List.forall_mem_cons.mpr ⟨sq_467, List.forall_mem_cons.mpr ⟨sq_378, List.forall_mem_cons.mpr ⟨sq_468, List.forall_mem_cons.mpr ⟨sq_375, fun _ h => nomatch h⟩⟩⟩⟩)
theorem mo_213 : mm_MO mm_ct mm_CM mm_cl mm_WS mm_NW me_213 := ⟨by decide, kw_883, kw_653, by decide, by decide +kernel, mc_213⟩
set_option maxRecDepth 100000 in
theorem ck_214 : mm_cks cX8_keep 0 cd_214 = true := by decide +kernel
set_option maxRecDepth 100000 in
theorem sf_214 : mm_spf cd_214 = [(.getfield 7, 3, 8, 0), (.getfield 7, 3, 8, 0), (.getfield 7, 3, 8, 0), (.getfield 7, 3, 8, 0), (.getfield 7, 3, 8, 0), (.getfield 7, 3, 8, 0), (.getfield 7, 3, 8, 0), (.getfield 7, 3, 8, 0), (.getfield 7, 3, 8, 0), (.getfield 7, 3, 8, 0), (.getfield 7, 3, 8, 0), (.getfield 7, 3, 8, 0), (.getfield 7, 3, 8, 0), (.getfield 7, 3, 8, 0), (.getfield 7, 3, 8, 0), (.getfield 7, 3, 8, 0), (.getfield 7, 3, 8, 0), (.getfield 7, 3, 8, 0), (.invokevirtual 97, 3, 153, 1), (.getfield 7, 3, 8, 0)] := by decide +kernel
theorem mc_214 : mm_MC mm_ct mm_CM mm_cl mm_WS mm_NW me_214 := mm_MC_of rfl rfl ck_214 (by rw [sf_214]; exact List.forall_mem_cons.mpr ⟨sq_375, List.forall_mem_cons.mpr ⟨sq_375, List.forall_mem_cons.mpr ⟨sq_375, List.forall_mem_cons.mpr ⟨sq_375, List.forall_mem_cons.mpr ⟨sq_375, List.forall_mem_cons.mpr ⟨sq_375, List.forall_mem_cons.mpr ⟨sq_375, List.forall_mem_cons.mpr ⟨sq_375, List.forall_mem_cons.mpr ⟨sq_375, List.forall_mem_cons.mpr ⟨sq_375, List.forall_mem_cons.mpr ⟨sq_375, List.forall_mem_cons.mpr ⟨sq_375, List.forall_mem_cons.mpr ⟨sq_375, List.forall_mem_cons.mpr ⟨sq_375, List.forall_mem_cons.mpr ⟨sq_375, List.forall_mem_cons.mpr ⟨sq_375, List.forall_mem_cons.mpr ⟨sq_375, List.forall_mem_cons.mpr ⟨sq_375, List.forall_mem_cons.mpr ⟨sq_380, List.forall_mem_cons.mpr ⟨sq_375, fun _ h => nomatch h⟩⟩⟩⟩⟩⟩⟩⟩⟩⟩⟩⟩⟩⟩⟩⟩⟩⟩⟩⟩)
theorem mo_214 : mm_MO mm_ct mm_CM mm_cl mm_WS mm_NW me_214 := ⟨by decide, kw_884, kw_653, by decide, by decide +kernel, mc_214⟩
set_option maxRecDepth 100000 in
theorem ck_215 : mm_cks cX8_undo 0 cd_215 = true := by decide +kernel
set_option maxRecDepth 100000 in
theorem sf_215 : mm_spf cd_215 = [(.getfield 7, 3, 8, 0), (.getfield 7, 3, 8, 0), (.getfield 7, 3, 8, 0), (.getfield 7, 3, 8, 0), (.getfield 7, 3, 8, 0), (.getfield 7, 3, 8, 0), (.getfield 7, 3, 8, 0), (.getfield 7, 3, 8, 0), (.getfield 7, 3, 8, 0), (.getfield 7, 3, 8, 0), (.getfield 7, 3, 8, 0), (.getfield 7, 3, 8, 0), (.getfield 7, 3, 8, 0), (.getfield 7, 3, 8, 0), (.getfield 7, 3, 8, 0), (.getfield 7, 3, 8, 0), (.invokevirtual 104, 3, 154, 1), (.getfield 7, 3, 8, 0)] := by decide +kernel
theorem mc_215 : mm_MC mm_ct mm_CM mm_cl mm_WS mm_NW me_215 := mm_MC_of rfl rfl ck_215 (by rw [sf_215]; exact List.forall_mem_cons.mpr ⟨sq_375, List.forall_mem_cons.mpr ⟨sq_375, List.forall_mem_cons.mpr ⟨sq_375, List.forall_mem_cons.mpr ⟨sq_375, List.forall_mem_cons.mpr ⟨sq_375, List.forall_mem_cons.mpr ⟨sq_375, List.forall_mem_cons.mpr ⟨sq_375, List.forall_mem_cons.mpr ⟨sq_375, List.forall_mem_cons.mpr ⟨sq_375, List.forall_mem_cons.mpr ⟨sq_375, List.forall_mem_cons.mpr ⟨sq_375, List.forall_mem_cons.mpr ⟨sq_375, List.forall_mem_cons.mpr ⟨sq_375, List.forall_mem_cons.mpr ⟨sq_375, List.forall_mem_cons.mpr ⟨sq_375, List.forall_mem_cons.mpr ⟨sq_375, List.forall_mem_cons.mpr ⟨sq_382, List.forall_mem_cons.mpr ⟨sq_375, fun _ h => nomatch h⟩⟩⟩⟩⟩⟩⟩⟩⟩⟩⟩⟩⟩⟩⟩⟩⟩⟩)
theorem mo_215 : mm_MO mm_ct mm_CM mm_cl mm_WS mm_NW me_215 := ⟨by decide, kw_885, kw_653, by decide, by decide +kernel, mc_215⟩
set_option maxRecDepth 100000 in
theorem ck_216 : mm_cks cX8_lay 0 cd_216 = true := by decide +kernel
set_option maxRecDepth 100000 in
theorem sf_216 : mm_spf cd_216 = [(.getfield 7, 3, 8, 0)] := by decide +kernel
theorem mc_216 : mm_MC mm_ct mm_CM mm_cl mm_WS mm_NW me_216 := mm_MC_of rfl rfl ck_216 (by rw [sf_216]; exact List.forall_mem_cons.mpr ⟨sq_375, fun _ h => nomatch h⟩)
theorem mo_216 : mm_MO mm_ct mm_CM mm_cl mm_WS mm_NW me_216 := ⟨by decide, kw_886, kw_653, by decide, by decide +kernel, mc_216⟩
theorem sq_469 : mm_Pq mm_ct mm_CM mm_cl mm_WS mm_NW "SelfSortingModel" "" (.invokevirtual 316, 3, 216, 1) := ⟨kw_888, kw_889, kw_887, _, _, rfl⟩
set_option maxRecDepth 100000 in
theorem ck_217 : mm_cks cX8_pull 0 cd_217 = true := by decide +kernel
set_option maxRecDepth 100000 in
theorem sf_217 : mm_spf cd_217 = [(.invokevirtual 101, 3, 155, 1), (.invokevirtual 104, 3, 154, 1), (.getfield 7, 3, 8, 0), (.getfield 7, 3, 8, 0), (.invokevirtual 101, 3, 155, 1), (.invokevirtual 316, 3, 216, 1)] := by decide +kernel
theorem mc_217 : mm_MC mm_ct mm_CM mm_cl mm_WS mm_NW me_217 := mm_MC_of rfl rfl ck_217 (by rw [sf_217]; exact List.forall_mem_cons.mpr ⟨sq_381, List.forall_mem_cons.mpr ⟨sq_382, List.forall_mem_cons.mpr ⟨sq_375, List.forall_mem_cons.mpr ⟨sq_375, List.forall_mem_cons.mpr ⟨sq_381, List.forall_mem_cons.mpr ⟨sq_469, fun _ h => nomatch h⟩⟩⟩⟩⟩⟩)
theorem mo_217 : mm_MO mm_ct mm_CM mm_cl mm_WS mm_NW me_217 := ⟨by decide, kw_890, kw_653, by decide, by decide +kernel, mc_217⟩
set_option maxRecDepth 100000 in
theorem ck_218 : mm_cks cX8_setAt 0 cd_218 = true := by decide +kernel
set_option maxRecDepth 100000 in
theorem sf_218 : mm_spf cd_218 = [(.getfield 7, 3, 8, 0), (.invokevirtual 101, 3, 155, 1), (.invokevirtual 316, 3, 216, 1), (.invokevirtual 316, 3, 216, 1), (.getfield 7, 3, 8, 0), (.invokevirtual 104, 3, 154, 1)] := by decide +kernel
theorem mc_218 : mm_MC mm_ct mm_CM mm_cl mm_WS mm_NW me_218 := mm_MC_of rfl rfl ck_218 (by rw [sf_218]; exact List.forall_mem_cons.mpr ⟨sq_375, List.forall_mem_cons.mpr ⟨sq_381, List.forall_mem_cons.mpr ⟨sq_469, List.forall_mem_cons.mpr ⟨sq_469, List.forall_mem_cons.mpr ⟨sq_375, List.forall_mem_cons.mpr ⟨sq_382, fun _ h => nomatch h⟩⟩⟩⟩⟩⟩)
theorem mo_218 : mm_MO mm_ct mm_CM mm_cl mm_WS mm_NW me_218 := ⟨by decide, kw_891, kw_653, by decide, by decide +kernel, mc_218⟩
set_option maxRecDepth 100000 in
theorem ck_219 : mm_cks cX8_exchange 0 cd_219 = true := by decide +kernel
set_option maxRecDepth 100000 in
theorem sf_219 : mm_spf cd_219 = [(.invokevirtual 101, 3, 155, 1), (.invokevirtual 101, 3, 155, 1), (.invokevirtual 316, 3, 216, 1), (.invokevirtual 316, 3, 216, 1)] := by decide +kernel
theorem mc_219 : mm_MC mm_ct mm_CM mm_cl mm_WS mm_NW me_219 := mm_MC_of rfl rfl ck_219 (by rw [sf_219]; exact List.forall_mem_cons.mpr ⟨sq_381, List.forall_mem_cons.mpr ⟨sq_381, List.forall_mem_cons.mpr ⟨sq_469, List.forall_mem_cons.mpr ⟨sq_469, fun _ h => nomatch h⟩⟩⟩⟩)
theorem mo_219 : mm_MO mm_ct mm_CM mm_cl mm_WS mm_NW me_219 := ⟨by decide, kw_892, kw_653, by decide, by decide +kernel, mc_219⟩
set_option maxRecDepth 100000 in
theorem ck_220 : mm_cks cX8_write 0 cd_220 = true := by decide +kernel
set_option maxRecDepth 100000 in
theorem sf_220 : mm_spf cd_220 = [(.getfield 7, 3, 8, 0), (.getfield 7, 3, 8, 0), (.getfield 7, 3, 8, 0), (.getfield 7, 3, 8, 0), (.getfield 7, 3, 8, 0), (.getfield 7, 3, 8, 0), (.getfield 7, 3, 8, 0)] := by decide +kernel
theorem mc_220 : mm_MC mm_ct mm_CM mm_cl mm_WS mm_NW me_220 := mm_MC_of rfl rfl ck_220 (by rw [sf_220]; exact List.forall_mem_cons.mpr ⟨sq_375, List.forall_mem_cons.mpr ⟨sq_375, List.forall_mem_cons.mpr ⟨sq_375, List.forall_mem_cons.mpr ⟨sq_375, List.forall_mem_cons.mpr ⟨sq_375, List.forall_mem_cons.mpr ⟨sq_375, List.forall_mem_cons.mpr ⟨sq_375, fun _ h => nomatch h⟩⟩⟩⟩⟩⟩⟩)
theorem mo_220 : mm_MO mm_ct mm_CM mm_cl mm_WS mm_NW me_220 := ⟨by decide, kw_893, kw_653, by decide, by decide +kernel, mc_220⟩
theorem sq_470 : mm_Pq mm_ct mm_CM mm_cl mm_WS mm_NW "SelfSortingModel" "" (.invokevirtual 319, 3, 211, 1) := ⟨kw_895, kw_896, kw_894, _, _, rfl⟩
theorem sq_471 : mm_Pq mm_ct mm_CM mm_cl mm_WS mm_NW "SelfSortingModel" "" (.invokevirtual 323, 3, 220, 1) := ⟨kw_898, kw_899, kw_897, _, _, rfl⟩
theorem sq_472 : mm_Pq mm_ct mm_CM mm_cl mm_WS mm_NW "SelfSortingModel" "" (.invokevirtual 326, 3, 219, 1) := ⟨kw_901, kw_902, kw_900, _, _, rfl⟩
set_option maxRecDepth 100000 in
theorem ck_221 : mm_cks cX8_changeAt 0 cd_221 = true := by decide +kernel
set_option maxRecDepth 100000 in
theorem sf_221 : mm_spf cd_221 = [(.invokevirtual 101, 3, 155, 1), (.invokevirtual 101, 3, 155, 1), (.invokevirtual 319, 3, 211, 1), (.invokevirtual 303, 3, 210, 1), (.invokevirtual 323, 3, 220, 1), (.invokevirtual 303, 3, 210, 1), (.invokevirtual 323, 3, 220, 1), (.invokevirtual 326, 3, 219, 1)] := by decide +kernel
theorem mc_221 : mm_MC mm_ct mm_CM mm_cl mm_WS mm_NW me_221 := mm_MC_of rfl rfl ck_221 (by rw [sf_221]; exact List.forall_mem_cons.mpr ⟨sq_381, List.forall_mem_cons.mpr ⟨sq_381, List.forall_mem_cons.mpr ⟨sq_470, List.forall_mem_cons.mpr ⟨sq_465, List.forall_mem_cons.mpr ⟨sq_471, List.forall_mem_cons.mpr ⟨sq_465, List.forall_mem_cons.mpr ⟨sq_471, List.forall_mem_cons.mpr ⟨sq_472, fun _ h => nomatch h⟩⟩⟩⟩⟩⟩⟩⟩)
theorem mo_221 : mm_MO mm_ct mm_CM mm_cl mm_WS mm_NW me_221 := ⟨by decide, kw_903, kw_653, by decide, by decide +kernel, mc_221⟩
set_option maxRecDepth 100000 in
theorem ck_222 : mm_cks cX8_isFalling 0 cd_222 = true := by decide +kernel
set_option maxRecDepth 100000 in
theorem sf_222 : mm_spf cd_222 = [(.invokevirtual 288, 3, 206, 1), (.getfield 32, 3, 8, 22), (.getfield 32, 3, 8, 22), (.getfield 32, 3, 8, 22), (.invokevirtual 291, 3, 203, 1), (.getfield 39, 3, 8, 24)] := by decide +kernel
theorem mc_222 : mm_MC mm_ct mm_CM mm_cl mm_WS mm_NW me_222 := mm_MC_of rfl rfl ck_222 (by rw [sf_222]; exact List.forall_mem_cons.mpr ⟨sq_460, List.forall_mem_cons.mpr ⟨sq_455, List.forall_mem_cons.mpr ⟨sq_455, List.forall_mem_cons.mpr ⟨sq_455, List.forall_mem_cons.mpr ⟨sq_461, List.forall_mem_cons.mpr ⟨sq_457, fun _ h => nomatch h⟩⟩⟩⟩⟩⟩)
theorem mo_222 : mm_MO mm_ct mm_CM mm_cl mm_WS mm_NW me_222 := ⟨by decide, kw_904, kw_653, by decide, by decide +kernel, mc_222⟩
theorem sq_473 : mm_Pq mm_ct mm_CM mm_cl mm_WS mm_NW "SelfSortingModel" "" (.invokevirtual 329, 3, 222, 1) := ⟨kw_906, kw_907, kw_905, _, _, rfl⟩
theorem sq_474 : mm_Pq mm_ct mm_CM mm_cl mm_WS mm_NW "SelfSortingModel" "" (.invokevirtual 333, 3, 217, 1) := ⟨kw_909, kw_910, kw_908, _, _, rfl⟩
set_option maxRecDepth 100000 in
theorem ck_223 : mm_cks cX8_fallFrom 0 cd_223 = true := by decide +kernel
set_option maxRecDepth 100000 in
theorem sf_223 : mm_spf cd_223 = [(.invokevirtual 285, 3, 204, 1), (.getfield 7, 3, 8, 0), (.invokevirtual 101, 3, 155, 1), (.invokevirtual 329, 3, 222, 1), (.invokevirtual 333, 3, 217, 1), (.invokevirtual 313, 3, 208, 1), (.getfield 7, 3, 8, 0), (.getfield 7, 3, 8, 0), (.invokevirtual 333, 3, 217, 1)] := by decide +kernel
theorem mc_223 : mm_MC mm_ct mm_CM mm_cl mm_WS mm_NW me_223 := mm_MC_of rfl rfl ck_223 (by rw [sf_223]; exact List.forall_mem_cons.mpr ⟨sq_459, List.forall_mem_cons.mpr ⟨sq_375, List.forall_mem_cons.mpr ⟨sq_381, List.forall_mem_cons.mpr ⟨sq_473, List.forall_mem_cons.mpr ⟨sq_474, List.forall_mem_cons.mpr ⟨sq_468, List.forall_mem_cons.mpr ⟨sq_375, List.forall_mem_cons.mpr ⟨sq_375, List.forall_mem_cons.mpr ⟨sq_474, fun _ h => nomatch h⟩⟩⟩⟩⟩⟩⟩⟩⟩)
theorem mo_223 : mm_MO mm_ct mm_CM mm_cl mm_WS mm_NW me_223 := ⟨by decide, kw_911, kw_653, by decide, by decide +kernel, mc_223⟩
theorem sq_475 : mm_Pq mm_ct mm_CM mm_cl mm_WS mm_NW "SelfSortingModel" "" (.invokevirtual 336, 3, 223, 1) := ⟨kw_913, kw_914, kw_912, _, _, rfl⟩
set_option maxRecDepth 100000 in
theorem ck_224 : mm_cks cX8_fall 0 cd_224 = true := by decide +kernel
set_option maxRecDepth 100000 in
theorem sf_224 : mm_spf cd_224 = [(.invokevirtual 336, 3, 223, 1)] := by decide +kernel
theorem mc_224 : mm_MC mm_ct mm_CM mm_cl mm_WS mm_NW me_224 := mm_MC_of rfl rfl ck_224 (by rw [sf_224]; exact List.forall_mem_cons.mpr ⟨sq_475, fun _ h => nomatch h⟩)
theorem mo_224 : mm_MO mm_ct mm_CM mm_cl mm_WS mm_NW me_224 := ⟨by decide, kw_915, kw_653, by decide, by decide +kernel, mc_224⟩
theorem sq_476 : mm_Pq mm_ct mm_CM mm_cl mm_WS mm_NW "SelfSortingModel" "" (.invokevirtual 339, 3, 214, 1) := ⟨kw_917, kw_918, kw_916, _, _, rfl⟩
theorem sq_477 : mm_Pq mm_ct mm_CM mm_cl mm_WS mm_NW "SelfSortingModel" "" (.invokevirtual 342, 3, 221, 1) := ⟨kw_920, kw_921, kw_919, _, _, rfl⟩
theorem sq_478 : mm_Pq mm_ct mm_CM mm_cl mm_WS mm_NW "SelfSortingModel" "" (.getfield 345, 3, 8, 25) := ⟨(RX8, TX8, 43), rfl, by decide, by decide, kw_922⟩
theorem sq_479 : mm_Pq mm_ct mm_CM mm_cl mm_WS mm_NW "SelfSortingModel" "" (.invokevirtual 348, 3, 224, 1) := ⟨kw_924, kw_925, kw_923, _, _, rfl⟩
theorem sq_480 : mm_Pq mm_ct mm_CM mm_cl mm_WS mm_NW "SelfSortingModel" "" (.putfield 345, 3, 8, 25) := ⟨⟨(RX8, TX8, 43), rfl, by decide, by decide, kw_922⟩, fun r h g => by cases h; cases g⟩
set_option maxRecDepth 100000 in
theorem ck_225 : mm_cks cX8_oneNight 0 cd_225 = true := by decide +kernel
set_option maxRecDepth 100000 in
theorem sf_225 : mm_spf cd_225 = [(.invokevirtual 339, 3, 214, 1), (.getfield 7, 3, 8, 0), (.getfield 7, 3, 8, 0), (.invokevirtual 342, 3, 221, 1), (.getfield 7, 3, 8, 0), (.getfield 345, 3, 8, 25), (.invokevirtual 348, 3, 224, 1), (.putfield 345, 3, 8, 25)] := by decide +kernel
theorem mc_225 : mm_MC mm_ct mm_CM mm_cl mm_WS mm_NW me_225 := mm_MC_of rfl rfl ck_225 (by rw [sf_225]; exact List.forall_mem_cons.mpr ⟨sq_476, List.forall_mem_cons.mpr ⟨sq_375, List.forall_mem_cons.mpr ⟨sq_375, List.forall_mem_cons.mpr ⟨sq_477, List.forall_mem_cons.mpr ⟨sq_375, List.forall_mem_cons.mpr ⟨sq_478, List.forall_mem_cons.mpr ⟨sq_479, List.forall_mem_cons.mpr ⟨sq_480, fun _ h => nomatch h⟩⟩⟩⟩⟩⟩⟩⟩)
theorem mo_225 : mm_MO mm_ct mm_CM mm_cl mm_WS mm_NW me_225 := ⟨by decide, kw_926, kw_653, by decide, by decide +kernel, mc_225⟩
theorem sq_481 : mm_Pq mm_ct mm_CM mm_cl mm_WS mm_NW "SelfSortingModel" "" (.invokevirtual 351, 3, 225, 1) := ⟨kw_928, kw_929, kw_927, _, _, rfl⟩
set_option maxRecDepth 100000 in
theorem ck_226 : mm_cks cX8_night 0 cd_226 = true := by decide +kernel
set_option maxRecDepth 100000 in
theorem sf_226 : mm_spf cd_226 = [(.invokestatic 89, 3, 148, 0), (.getfield 7, 3, 8, 0), (.invokevirtual 351, 3, 225, 1)] := by decide +kernel
theorem mc_226 : mm_MC mm_ct mm_CM mm_cl mm_WS mm_NW me_226 := mm_MC_of rfl rfl ck_226 (by rw [sf_226]; exact List.forall_mem_cons.mpr ⟨sq_378, List.forall_mem_cons.mpr ⟨sq_375, List.forall_mem_cons.mpr ⟨sq_481, fun _ h => nomatch h⟩⟩⟩)
theorem mo_226 : mm_MO mm_ct mm_CM mm_cl mm_WS mm_NW me_226 := ⟨by decide, kw_930, kw_653, by decide, by decide +kernel, mc_226⟩
set_option maxRecDepth 100000 in
theorem ck_227 : mm_cks cX8_nudge 0 cd_227 = true := by decide +kernel
set_option maxRecDepth 100000 in
theorem sf_227 : mm_spf cd_227 = [(.invokestatic 310, 3, 152, 0), (.getfield 7, 3, 8, 0), (.invokestatic 89, 3, 148, 0), (.invokevirtual 339, 3, 214, 1), (.invokevirtual 326, 3, 219, 1), (.invokevirtual 101, 3, 155, 1)] := by decide +kernel
theorem mc_227 : mm_MC mm_ct mm_CM mm_cl mm_WS mm_NW me_227 := mm_MC_of rfl rfl ck_227 (by rw [sf_227]; exact List.forall_mem_cons.mpr ⟨sq_467, List.forall_mem_cons.mpr ⟨sq_375, List.forall_mem_cons.mpr ⟨sq_378, List.forall_mem_cons.mpr ⟨sq_476, List.forall_mem_cons.mpr ⟨sq_472, List.forall_mem_cons.mpr ⟨sq_381, fun _ h => nomatch h⟩⟩⟩⟩⟩⟩)
theorem mo_227 : mm_MO mm_ct mm_CM mm_cl mm_WS mm_NW me_227 := ⟨by decide, kw_931, kw_653, by decide, by decide +kernel, mc_227⟩
theorem sq_482 : mm_Pq mm_ct mm_CM mm_cl mm_WS mm_NW "SelfSortingModel" "" (.invokevirtual 354, 3, 157, 1) := ⟨kw_933, kw_934, kw_932, _, _, rfl⟩
set_option maxRecDepth 100000 in
theorem ck_228 : mm_cks cX8_take 0 cd_228 = true := by decide +kernel
set_option maxRecDepth 100000 in
theorem sf_228 : mm_spf cd_228 = [(.invokevirtual 93, 3, 151, 1), (.invokevirtual 97, 3, 153, 1), (.invokevirtual 339, 3, 214, 1), (.invokevirtual 97, 3, 153, 1), (.invokevirtual 354, 3, 157, 1), (.invokevirtual 333, 3, 217, 1), (.invokevirtual 104, 3, 154, 1)] := by decide +kernel
theorem mc_228 : mm_MC mm_ct mm_CM mm_cl mm_WS mm_NW me_228 := mm_MC_of rfl rfl ck_228 (by rw [sf_228]; exact List.forall_mem_cons.mpr ⟨sq_379, List.forall_mem_cons.mpr ⟨sq_380, List.forall_mem_cons.mpr ⟨sq_476, List.forall_mem_cons.mpr ⟨sq_380, List.forall_mem_cons.mpr ⟨sq_482, List.forall_mem_cons.mpr ⟨sq_474, List.forall_mem_cons.mpr ⟨sq_382, fun _ h => nomatch h⟩⟩⟩⟩⟩⟩⟩)
theorem mo_228 : mm_MO mm_ct mm_CM mm_cl mm_WS mm_NW me_228 := ⟨by decide, kw_935, kw_653, by decide, by decide +kernel, mc_228⟩
theorem sq_483 : mm_Pq mm_ct mm_CM mm_cl mm_WS mm_NW "SelfSortingModel" "" (.invokevirtual 357, 3, 218, 1) := ⟨kw_937, kw_938, kw_936, _, _, rfl⟩
set_option maxRecDepth 100000 in
theorem ck_229 : mm_cks cX8_put 0 cd_229 = true := by decide +kernel
set_option maxRecDepth 100000 in
theorem sf_229 : mm_spf cd_229 = [(.invokevirtual 93, 3, 151, 1), (.invokevirtual 97, 3, 153, 1), (.invokestatic 310, 3, 152, 0), (.getfield 7, 3, 8, 0), (.invokestatic 89, 3, 148, 0), (.invokevirtual 313, 3, 208, 1), (.invokevirtual 296, 3, 207, 1), (.getfield 7, 3, 8, 0), (.invokevirtual 339, 3, 214, 1), (.invokevirtual 357, 3, 218, 1), (.getfield 7, 3, 8, 0)] := by decide +kernel
theorem mc_229 : mm_MC mm_ct mm_CM mm_cl mm_WS mm_NW me_229 := mm_MC_of rfl rfl ck_229 (by rw [sf_229]; exact List.forall_mem_cons.mpr ⟨sq_379, List.forall_mem_cons.mpr ⟨sq_380, List.forall_mem_cons.mpr ⟨sq_467, List.forall_mem_cons.mpr ⟨sq_375, List.forall_mem_cons.mpr ⟨sq_378, List.forall_mem_cons.mpr ⟨sq_468, List.forall_mem_cons.mpr ⟨sq_463, List.forall_mem_cons.mpr ⟨sq_375, List.forall_mem_cons.mpr ⟨sq_476, List.forall_mem_cons.mpr ⟨sq_483, List.forall_mem_cons.mpr ⟨sq_375, fun _ h => nomatch h⟩⟩⟩⟩⟩⟩⟩⟩⟩⟩⟩)
theorem mo_229 : mm_MO mm_ct mm_CM mm_cl mm_WS mm_NW me_229 := ⟨by decide, kw_939, kw_653, by decide, by decide +kernel, mc_229⟩
