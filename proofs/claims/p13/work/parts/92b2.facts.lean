set_option maxRecDepth 1000000 in
theorem mf_X5_isOneOf : pv_mf mX5_isOneOf := ⟨List.mem_filter.mpr ⟨dq_m3 97 (by rfl), rfl⟩, List.mem_filter.mpr ⟨dq_m1 10 (by rfl), rfl⟩⟩
set_option maxRecDepth 1000000 in
theorem mf_X5_readClause : pv_mf mX5_readClause := ⟨List.mem_filter.mpr ⟨dq_m3 89 (by rfl), rfl⟩, List.mem_filter.mpr ⟨dq_m1 10 (by rfl), rfl⟩⟩
set_option maxRecDepth 1000000 in
theorem mf_X5_readCondition : pv_mf mX5_readCondition := ⟨List.mem_filter.mpr ⟨dq_m3 225 (by rfl), rfl⟩, List.mem_filter.mpr ⟨dq_m1 10 (by rfl), rfl⟩⟩
set_option maxRecDepth 1000000 in
theorem mf_X5_readPart : pv_mf mX5_readPart := ⟨List.mem_filter.mpr ⟨dq_m3 229 (by rfl), rfl⟩, List.mem_filter.mpr ⟨dq_m1 10 (by rfl), rfl⟩⟩
set_option maxRecDepth 1000000 in
theorem mf_X5_readJump : pv_mf mX5_readJump := ⟨List.mem_filter.mpr ⟨dq_m4 2 (by rfl), rfl⟩, List.mem_filter.mpr ⟨dq_m1 10 (by rfl), rfl⟩⟩
set_option maxRecDepth 1000000 in
theorem mf_X5_readPiece : pv_mf mX5_readPiece := ⟨List.mem_filter.mpr ⟨dq_m3 233 (by rfl), rfl⟩, List.mem_filter.mpr ⟨dq_m1 10 (by rfl), rfl⟩⟩
set_option maxRecDepth 1000000 in
theorem mf_X5_readComparison : pv_mf mX5_readComparison := ⟨List.mem_filter.mpr ⟨dq_m3 237 (by rfl), rfl⟩, List.mem_filter.mpr ⟨dq_m1 10 (by rfl), rfl⟩⟩
set_option maxRecDepth 1000000 in
theorem mf_X5_readSum : pv_mf mX5_readSum := ⟨List.mem_filter.mpr ⟨dq_m3 191 (by rfl), rfl⟩, List.mem_filter.mpr ⟨dq_m1 10 (by rfl), rfl⟩⟩
set_option maxRecDepth 1000000 in
theorem mf_X5_readTerm : pv_mf mX5_readTerm := ⟨List.mem_filter.mpr ⟨dq_m3 195 (by rfl), rfl⟩, List.mem_filter.mpr ⟨dq_m1 10 (by rfl), rfl⟩⟩
set_option maxRecDepth 1000000 in
theorem mf_X5_readFactor : pv_mf mX5_readFactor := ⟨List.mem_filter.mpr ⟨dq_m3 199 (by rfl), rfl⟩, List.mem_filter.mpr ⟨dq_m1 10 (by rfl), rfl⟩⟩
set_option maxRecDepth 1000000 in
theorem mf_X5_isDigit : pv_mf mX5_isDigit := ⟨List.mem_filter.mpr ⟨dq_m3 210 (by rfl), rfl⟩, List.mem_filter.mpr ⟨dq_m1 10 (by rfl), rfl⟩⟩
set_option maxRecDepth 1000000 in
theorem mf_X5_readNumber : pv_mf mX5_readNumber := ⟨List.mem_filter.mpr ⟨dq_m3 214 (by rfl), rfl⟩, List.mem_filter.mpr ⟨dq_m1 10 (by rfl), rfl⟩⟩
set_option maxRecDepth 1000000 in
theorem mf_X6_init : pv_mf mX6_init := ⟨List.mem_filter.mpr ⟨dq_m2 123 (by rfl), rfl⟩, List.mem_filter.mpr ⟨dq_m1 11 (by rfl), rfl⟩⟩
set_option maxRecDepth 1000000 in
theorem mf_X6_tell : pv_mf mX6_tell := ⟨List.mem_filter.mpr ⟨dq_m5 14 (by rfl), rfl⟩, List.mem_filter.mpr ⟨dq_m1 11 (by rfl), rfl⟩⟩
set_option maxRecDepth 1000000 in
theorem mf_X6_asWork : pv_mf mX6_asWork := ⟨List.mem_filter.mpr ⟨dq_m5 19 (by rfl), rfl⟩, List.mem_filter.mpr ⟨dq_m1 11 (by rfl), rfl⟩⟩
set_option maxRecDepth 1000000 in
theorem mf_X6_hoursBetween : pv_mf mX6_hoursBetween := ⟨List.mem_filter.mpr ⟨dq_m5 22 (by rfl), rfl⟩, List.mem_filter.mpr ⟨dq_m1 11 (by rfl), rfl⟩⟩
set_option maxRecDepth 1000000 in
theorem mf_X6_asMending : pv_mf mX6_asMending := ⟨List.mem_filter.mpr ⟨dq_m5 163 (by rfl), rfl⟩, List.mem_filter.mpr ⟨dq_m1 11 (by rfl), rfl⟩⟩
set_option maxRecDepth 1000000 in
theorem mf_X6_solve : pv_mf mX6_solve := ⟨List.mem_filter.mpr ⟨dq_m5 29 (by rfl), rfl⟩, List.mem_filter.mpr ⟨dq_m1 11 (by rfl), rfl⟩⟩
set_option maxRecDepth 1000000 in
theorem mf_X6_spentOn : pv_mf mX6_spentOn := ⟨List.mem_filter.mpr ⟨dq_m5 33 (by rfl), rfl⟩, List.mem_filter.mpr ⟨dq_m1 11 (by rfl), rfl⟩⟩
set_option maxRecDepth 1000000 in
theorem mf_X6_leastOnward : pv_mf mX6_leastOnward := ⟨List.mem_filter.mpr ⟨dq_m5 37 (by rfl), rfl⟩, List.mem_filter.mpr ⟨dq_m1 11 (by rfl), rfl⟩⟩
set_option maxRecDepth 1000000 in
theorem mf_X6_costVia : pv_mf mX6_costVia := ⟨List.mem_filter.mpr ⟨dq_m5 42 (by rfl), rfl⟩, List.mem_filter.mpr ⟨dq_m1 11 (by rfl), rfl⟩⟩
set_option maxRecDepth 1000000 in
theorem mf_X6_findRow : pv_mf mX6_findRow := ⟨List.mem_filter.mpr ⟨dq_m5 47 (by rfl), rfl⟩, List.mem_filter.mpr ⟨dq_m1 11 (by rfl), rfl⟩⟩
set_option maxRecDepth 1000000 in
theorem mf_X6_least : pv_mf mX6_least := ⟨List.mem_filter.mpr ⟨dq_m5 51 (by rfl), rfl⟩, List.mem_filter.mpr ⟨dq_m1 11 (by rfl), rfl⟩⟩
set_option maxRecDepth 1000000 in
theorem mf_X6_cellAt : pv_mf mX6_cellAt := ⟨List.mem_filter.mpr ⟨dq_m5 55 (by rfl), rfl⟩, List.mem_filter.mpr ⟨dq_m1 11 (by rfl), rfl⟩⟩
set_option maxRecDepth 1000000 in
theorem mf_X7_init : pv_mf mX7_init := ⟨List.mem_filter.mpr ⟨dq_m1 222 (by rfl), rfl⟩, List.mem_filter.mpr ⟨dq_m1 7 (by rfl), rfl⟩⟩
set_option maxRecDepth 1000000 in
theorem mf_X7_put : pv_mf mX7_put := ⟨List.mem_filter.mpr ⟨dq_m3 218 (by rfl), rfl⟩, List.mem_filter.mpr ⟨dq_m1 7 (by rfl), rfl⟩⟩
set_option maxRecDepth 1000000 in
theorem mf_X7_answer : pv_mf mX7_answer := ⟨List.mem_filter.mpr ⟨dq_m4 46 (by rfl), rfl⟩, List.mem_filter.mpr ⟨dq_m1 7 (by rfl), rfl⟩⟩
set_option maxRecDepth 1000000 in
theorem mf_X7_reckon : pv_mf mX7_reckon := ⟨List.mem_filter.mpr ⟨dq_m4 50 (by rfl), rfl⟩, List.mem_filter.mpr ⟨dq_m1 7 (by rfl), rfl⟩⟩
set_option maxRecDepth 1000000 in
theorem mf_X7_joined : pv_mf mX7_joined := ⟨List.mem_filter.mpr ⟨dq_m4 54 (by rfl), rfl⟩, List.mem_filter.mpr ⟨dq_m1 7 (by rfl), rfl⟩⟩
set_option maxRecDepth 1000000 in
theorem mf_X8_init : pv_mf mX8_init := ⟨List.mem_filter.mpr ⟨dq_m2 186 (by rfl), rfl⟩, List.mem_filter.mpr ⟨dq_m1 13 (by rfl), rfl⟩⟩
set_option maxRecDepth 1000000 in
theorem mf_X8_fly : pv_mf mX8_fly := ⟨List.mem_filter.mpr ⟨dq_m5 68 (by rfl), rfl⟩, List.mem_filter.mpr ⟨dq_m1 13 (by rfl), rfl⟩⟩
set_option maxRecDepth 1000000 in
theorem mf_X8_arrive : pv_mf mX8_arrive := ⟨List.mem_filter.mpr ⟨dq_m5 73 (by rfl), rfl⟩, List.mem_filter.mpr ⟨dq_m1 13 (by rfl), rfl⟩⟩
set_option maxRecDepth 1000000 in
theorem mf_X8_cancel : pv_mf mX8_cancel := ⟨List.mem_filter.mpr ⟨dq_m5 80 (by rfl), rfl⟩, List.mem_filter.mpr ⟨dq_m1 13 (by rfl), rfl⟩⟩
set_option maxRecDepth 1000000 in
theorem mf_X9_init : pv_mf mX9_init := ⟨List.mem_filter.mpr ⟨dq_m2 86 (by rfl), rfl⟩, List.mem_filter.mpr ⟨dq_m1 9 (by rfl), rfl⟩⟩
set_option maxRecDepth 1000000 in
theorem mf_X9_append : pv_mf mX9_append := ⟨List.mem_filter.mpr ⟨dq_m3 77 (by rfl), rfl⟩, List.mem_filter.mpr ⟨dq_m1 9 (by rfl), rfl⟩⟩
set_option maxRecDepth 1000000 in
theorem mf_X9_numberAt : pv_mf mX9_numberAt := ⟨List.mem_filter.mpr ⟨dq_m5 180 (by rfl), rfl⟩, List.mem_filter.mpr ⟨dq_m1 9 (by rfl), rfl⟩⟩
set_option maxRecDepth 1000000 in
theorem mf_X10_init : pv_mf mX10_init := ⟨List.mem_filter.mpr ⟨dq_m2 44 (by rfl), rfl⟩, List.mem_filter.mpr ⟨dq_m1 8 (by rfl), rfl⟩⟩
set_option maxRecDepth 1000000 in
theorem mf_X10_pour : pv_mf mX10_pour := ⟨List.mem_filter.mpr ⟨dq_m4 75 (by rfl), rfl⟩, List.mem_filter.mpr ⟨dq_m1 8 (by rfl), rfl⟩⟩
set_option maxRecDepth 1000000 in
theorem mf_X10_passOn : pv_mf mX10_passOn := ⟨List.mem_filter.mpr ⟨dq_m4 89 (by rfl), rfl⟩, List.mem_filter.mpr ⟨dq_m1 8 (by rfl), rfl⟩⟩
set_option maxRecDepth 1000000 in
theorem mf_X10_share : pv_mf mX10_share := ⟨List.mem_filter.mpr ⟨dq_m5 135 (by rfl), rfl⟩, List.mem_filter.mpr ⟨dq_m1 8 (by rfl), rfl⟩⟩
set_option maxRecDepth 1000000 in
theorem mf_X10_reckonGrowth : pv_mf mX10_reckonGrowth := ⟨List.mem_filter.mpr ⟨dq_m5 139 (by rfl), rfl⟩, List.mem_filter.mpr ⟨dq_m1 8 (by rfl), rfl⟩⟩
set_option maxRecDepth 1000000 in
theorem mf_X10_tryValve : pv_mf mX10_tryValve := ⟨List.mem_filter.mpr ⟨dq_m5 145 (by rfl), rfl⟩, List.mem_filter.mpr ⟨dq_m1 8 (by rfl), rfl⟩⟩
set_option maxRecDepth 1000000 in
theorem mf_X10_weighTrial : pv_mf mX10_weighTrial := ⟨List.mem_filter.mpr ⟨dq_m5 149 (by rfl), rfl⟩, List.mem_filter.mpr ⟨dq_m1 8 (by rfl), rfl⟩⟩
set_option maxRecDepth 1000000 in
theorem mf_X10_dropsAt : pv_mf mX10_dropsAt := ⟨List.mem_filter.mpr ⟨dq_m5 154 (by rfl), rfl⟩, List.mem_filter.mpr ⟨dq_m1 8 (by rfl), rfl⟩⟩
set_option maxRecDepth 1000000 in
theorem mf_X11_init : pv_mf mX11_init := ⟨List.mem_filter.mpr ⟨dq_m1 28 (by rfl), rfl⟩, List.mem_filter.mpr ⟨dq_m1 1 (by rfl), rfl⟩⟩
set_option maxRecDepth 1000000 in
theorem mf_X11_hang : pv_mf mX11_hang := ⟨List.mem_filter.mpr ⟨dq_m3 5 (by rfl), rfl⟩, List.mem_filter.mpr ⟨dq_m1 1 (by rfl), rfl⟩⟩
set_option maxRecDepth 1000000 in
theorem mf_X11_knot : pv_mf mX11_knot := ⟨List.mem_filter.mpr ⟨dq_m3 30 (by rfl), rfl⟩, List.mem_filter.mpr ⟨dq_m1 1 (by rfl), rfl⟩⟩
set_option maxRecDepth 1000000 in
theorem mf_X11_kind : pv_mf mX11_kind := ⟨List.mem_filter.mpr ⟨dq_m3 38 (by rfl), rfl⟩, List.mem_filter.mpr ⟨dq_m1 1 (by rfl), rfl⟩⟩
set_option maxRecDepth 1000000 in
theorem mf_X11_plant : pv_mf mX11_plant := ⟨List.mem_filter.mpr ⟨dq_m3 42 (by rfl), rfl⟩, List.mem_filter.mpr ⟨dq_m1 1 (by rfl), rfl⟩⟩
set_option maxRecDepth 1000000 in
theorem mf_X11_valve : pv_mf mX11_valve := ⟨List.mem_filter.mpr ⟨dq_m3 53 (by rfl), rfl⟩, List.mem_filter.mpr ⟨dq_m1 1 (by rfl), rfl⟩⟩
set_option maxRecDepth 1000000 in
theorem mf_X11_kitchen : pv_mf mX11_kitchen := ⟨List.mem_filter.mpr ⟨dq_m3 57 (by rfl), rfl⟩, List.mem_filter.mpr ⟨dq_m1 1 (by rfl), rfl⟩⟩
set_option maxRecDepth 1000000 in
theorem mf_X11_rope : pv_mf mX11_rope := ⟨List.mem_filter.mpr ⟨dq_m3 64 (by rfl), rfl⟩, List.mem_filter.mpr ⟨dq_m1 1 (by rfl), rfl⟩⟩
set_option maxRecDepth 1000000 in
theorem mf_X11_seed : pv_mf mX11_seed := ⟨List.mem_filter.mpr ⟨dq_m3 68 (by rfl), rfl⟩, List.mem_filter.mpr ⟨dq_m1 1 (by rfl), rfl⟩⟩
set_option maxRecDepth 1000000 in
theorem mf_X11_feed : pv_mf mX11_feed := ⟨List.mem_filter.mpr ⟨dq_m3 73 (by rfl), rfl⟩, List.mem_filter.mpr ⟨dq_m1 1 (by rfl), rfl⟩⟩
set_option maxRecDepth 1000000 in
theorem mf_X11_law : pv_mf mX11_law := ⟨List.mem_filter.mpr ⟨dq_m3 81 (by rfl), rfl⟩, List.mem_filter.mpr ⟨dq_m1 1 (by rfl), rfl⟩⟩
set_option maxRecDepth 1000000 in
theorem mf_X11_cell : pv_mf mX11_cell := ⟨List.mem_filter.mpr ⟨dq_m4 8 (by rfl), rfl⟩, List.mem_filter.mpr ⟨dq_m1 1 (by rfl), rfl⟩⟩
set_option maxRecDepth 1000000 in
theorem mf_X11_byLaw : pv_mf mX11_byLaw := ⟨List.mem_filter.mpr ⟨dq_m4 23 (by rfl), rfl⟩, List.mem_filter.mpr ⟨dq_m1 1 (by rfl), rfl⟩⟩
set_option maxRecDepth 1000000 in
theorem mf_X11_water : pv_mf mX11_water := ⟨List.mem_filter.mpr ⟨dq_m4 67 (by rfl), rfl⟩, List.mem_filter.mpr ⟨dq_m1 1 (by rfl), rfl⟩⟩
set_option maxRecDepth 1000000 in
theorem mf_X11_fall : pv_mf mX11_fall := ⟨List.mem_filter.mpr ⟨dq_m4 93 (by rfl), rfl⟩, List.mem_filter.mpr ⟨dq_m1 1 (by rfl), rfl⟩⟩
set_option maxRecDepth 1000000 in
theorem mf_X11_go : pv_mf mX11_go := ⟨List.mem_filter.mpr ⟨dq_m4 132 (by rfl), rfl⟩, List.mem_filter.mpr ⟨dq_m1 1 (by rfl), rfl⟩⟩
set_option maxRecDepth 1000000 in
theorem mf_X11_day : pv_mf mX11_day := ⟨List.mem_filter.mpr ⟨dq_m4 160 (by rfl), rfl⟩, List.mem_filter.mpr ⟨dq_m1 1 (by rfl), rfl⟩⟩
set_option maxRecDepth 1000000 in
theorem mf_X11_torn : pv_mf mX11_torn := ⟨List.mem_filter.mpr ⟨dq_m4 178 (by rfl), rfl⟩, List.mem_filter.mpr ⟨dq_m1 1 (by rfl), rfl⟩⟩
set_option maxRecDepth 1000000 in
theorem mf_X11_fallIs : pv_mf mX11_fallIs := ⟨List.mem_filter.mpr ⟨dq_m4 190 (by rfl), rfl⟩, List.mem_filter.mpr ⟨dq_m1 1 (by rfl), rfl⟩⟩
set_option maxRecDepth 1000000 in
theorem mf_X11_claimed : pv_mf mX11_claimed := ⟨List.mem_filter.mpr ⟨dq_m4 202 (by rfl), rfl⟩, List.mem_filter.mpr ⟨dq_m1 1 (by rfl), rfl⟩⟩
set_option maxRecDepth 1000000 in
theorem mf_X11_right : pv_mf mX11_right := ⟨List.mem_filter.mpr ⟨dq_m4 214 (by rfl), rfl⟩, List.mem_filter.mpr ⟨dq_m1 1 (by rfl), rfl⟩⟩
set_option maxRecDepth 1000000 in
theorem mf_X11_food : pv_mf mX11_food := ⟨List.mem_filter.mpr ⟨dq_m4 218 (by rfl), rfl⟩, List.mem_filter.mpr ⟨dq_m1 1 (by rfl), rfl⟩⟩
set_option maxRecDepth 1000000 in
theorem mf_X11_kitchenIs : pv_mf mX11_kitchenIs := ⟨List.mem_filter.mpr ⟨dq_m4 222 (by rfl), rfl⟩, List.mem_filter.mpr ⟨dq_m1 1 (by rfl), rfl⟩⟩
