set_option maxRecDepth 1000000 in
theorem mf_X5_isOneOf : pv_mf mX5_isOneOf := ⟨List.mem_filter.mpr ⟨List.mem_of_getElem? (i := 722) (by rfl), rfl⟩, List.mem_filter.mpr ⟨List.mem_of_getElem? (i := 155) (by rfl), rfl⟩⟩
set_option maxRecDepth 1000000 in
theorem mf_X5_readClause : pv_mf mX5_readClause := ⟨List.mem_filter.mpr ⟨List.mem_of_getElem? (i := 714) (by rfl), rfl⟩, List.mem_filter.mpr ⟨List.mem_of_getElem? (i := 155) (by rfl), rfl⟩⟩
set_option maxRecDepth 1000000 in
theorem mf_X5_readCondition : pv_mf mX5_readCondition := ⟨List.mem_filter.mpr ⟨List.mem_of_getElem? (i := 850) (by rfl), rfl⟩, List.mem_filter.mpr ⟨List.mem_of_getElem? (i := 155) (by rfl), rfl⟩⟩
set_option maxRecDepth 1000000 in
theorem mf_X5_readPart : pv_mf mX5_readPart := ⟨List.mem_filter.mpr ⟨List.mem_of_getElem? (i := 854) (by rfl), rfl⟩, List.mem_filter.mpr ⟨List.mem_of_getElem? (i := 155) (by rfl), rfl⟩⟩
set_option maxRecDepth 1000000 in
theorem mf_X5_readJump : pv_mf mX5_readJump := ⟨List.mem_filter.mpr ⟨List.mem_of_getElem? (i := 867) (by rfl), rfl⟩, List.mem_filter.mpr ⟨List.mem_of_getElem? (i := 155) (by rfl), rfl⟩⟩
set_option maxRecDepth 1000000 in
theorem mf_X5_readPiece : pv_mf mX5_readPiece := ⟨List.mem_filter.mpr ⟨List.mem_of_getElem? (i := 858) (by rfl), rfl⟩, List.mem_filter.mpr ⟨List.mem_of_getElem? (i := 155) (by rfl), rfl⟩⟩
set_option maxRecDepth 1000000 in
theorem mf_X5_readComparison : pv_mf mX5_readComparison := ⟨List.mem_filter.mpr ⟨List.mem_of_getElem? (i := 862) (by rfl), rfl⟩, List.mem_filter.mpr ⟨List.mem_of_getElem? (i := 155) (by rfl), rfl⟩⟩
set_option maxRecDepth 1000000 in
theorem mf_X5_readSum : pv_mf mX5_readSum := ⟨List.mem_filter.mpr ⟨List.mem_of_getElem? (i := 816) (by rfl), rfl⟩, List.mem_filter.mpr ⟨List.mem_of_getElem? (i := 155) (by rfl), rfl⟩⟩
set_option maxRecDepth 1000000 in
theorem mf_X5_readTerm : pv_mf mX5_readTerm := ⟨List.mem_filter.mpr ⟨List.mem_of_getElem? (i := 820) (by rfl), rfl⟩, List.mem_filter.mpr ⟨List.mem_of_getElem? (i := 155) (by rfl), rfl⟩⟩
set_option maxRecDepth 1000000 in
theorem mf_X5_readFactor : pv_mf mX5_readFactor := ⟨List.mem_filter.mpr ⟨List.mem_of_getElem? (i := 824) (by rfl), rfl⟩, List.mem_filter.mpr ⟨List.mem_of_getElem? (i := 155) (by rfl), rfl⟩⟩
set_option maxRecDepth 1000000 in
theorem mf_X5_isDigit : pv_mf mX5_isDigit := ⟨List.mem_filter.mpr ⟨List.mem_of_getElem? (i := 835) (by rfl), rfl⟩, List.mem_filter.mpr ⟨List.mem_of_getElem? (i := 155) (by rfl), rfl⟩⟩
set_option maxRecDepth 1000000 in
theorem mf_X5_readNumber : pv_mf mX5_readNumber := ⟨List.mem_filter.mpr ⟨List.mem_of_getElem? (i := 839) (by rfl), rfl⟩, List.mem_filter.mpr ⟨List.mem_of_getElem? (i := 155) (by rfl), rfl⟩⟩
set_option maxRecDepth 1000000 in
theorem mf_X6_init : pv_mf mX6_init := ⟨List.mem_filter.mpr ⟨List.mem_of_getElem? (i := 508) (by rfl), rfl⟩, List.mem_filter.mpr ⟨List.mem_of_getElem? (i := 156) (by rfl), rfl⟩⟩
set_option maxRecDepth 1000000 in
theorem mf_X6_tell : pv_mf mX6_tell := ⟨List.mem_filter.mpr ⟨List.mem_of_getElem? (i := 1119) (by rfl), rfl⟩, List.mem_filter.mpr ⟨List.mem_of_getElem? (i := 156) (by rfl), rfl⟩⟩
set_option maxRecDepth 1000000 in
theorem mf_X6_asWork : pv_mf mX6_asWork := ⟨List.mem_filter.mpr ⟨List.mem_of_getElem? (i := 1124) (by rfl), rfl⟩, List.mem_filter.mpr ⟨List.mem_of_getElem? (i := 156) (by rfl), rfl⟩⟩
set_option maxRecDepth 1000000 in
theorem mf_X6_hoursBetween : pv_mf mX6_hoursBetween := ⟨List.mem_filter.mpr ⟨List.mem_of_getElem? (i := 1127) (by rfl), rfl⟩, List.mem_filter.mpr ⟨List.mem_of_getElem? (i := 156) (by rfl), rfl⟩⟩
set_option maxRecDepth 1000000 in
theorem mf_X6_asMending : pv_mf mX6_asMending := ⟨List.mem_filter.mpr ⟨List.mem_of_getElem? (i := 1268) (by rfl), rfl⟩, List.mem_filter.mpr ⟨List.mem_of_getElem? (i := 156) (by rfl), rfl⟩⟩
set_option maxRecDepth 1000000 in
theorem mf_X6_solve : pv_mf mX6_solve := ⟨List.mem_filter.mpr ⟨List.mem_of_getElem? (i := 1134) (by rfl), rfl⟩, List.mem_filter.mpr ⟨List.mem_of_getElem? (i := 156) (by rfl), rfl⟩⟩
set_option maxRecDepth 1000000 in
theorem mf_X6_spentOn : pv_mf mX6_spentOn := ⟨List.mem_filter.mpr ⟨List.mem_of_getElem? (i := 1138) (by rfl), rfl⟩, List.mem_filter.mpr ⟨List.mem_of_getElem? (i := 156) (by rfl), rfl⟩⟩
set_option maxRecDepth 1000000 in
theorem mf_X6_leastOnward : pv_mf mX6_leastOnward := ⟨List.mem_filter.mpr ⟨List.mem_of_getElem? (i := 1142) (by rfl), rfl⟩, List.mem_filter.mpr ⟨List.mem_of_getElem? (i := 156) (by rfl), rfl⟩⟩
set_option maxRecDepth 1000000 in
theorem mf_X6_costVia : pv_mf mX6_costVia := ⟨List.mem_filter.mpr ⟨List.mem_of_getElem? (i := 1147) (by rfl), rfl⟩, List.mem_filter.mpr ⟨List.mem_of_getElem? (i := 156) (by rfl), rfl⟩⟩
set_option maxRecDepth 1000000 in
theorem mf_X6_findRow : pv_mf mX6_findRow := ⟨List.mem_filter.mpr ⟨List.mem_of_getElem? (i := 1152) (by rfl), rfl⟩, List.mem_filter.mpr ⟨List.mem_of_getElem? (i := 156) (by rfl), rfl⟩⟩
set_option maxRecDepth 1000000 in
theorem mf_X6_least : pv_mf mX6_least := ⟨List.mem_filter.mpr ⟨List.mem_of_getElem? (i := 1156) (by rfl), rfl⟩, List.mem_filter.mpr ⟨List.mem_of_getElem? (i := 156) (by rfl), rfl⟩⟩
set_option maxRecDepth 1000000 in
theorem mf_X6_cellAt : pv_mf mX6_cellAt := ⟨List.mem_filter.mpr ⟨List.mem_of_getElem? (i := 1160) (by rfl), rfl⟩, List.mem_filter.mpr ⟨List.mem_of_getElem? (i := 156) (by rfl), rfl⟩⟩
set_option maxRecDepth 1000000 in
theorem mf_X7_init : pv_mf mX7_init := ⟨List.mem_filter.mpr ⟨List.mem_of_getElem? (i := 367) (by rfl), rfl⟩, List.mem_filter.mpr ⟨List.mem_of_getElem? (i := 152) (by rfl), rfl⟩⟩
set_option maxRecDepth 1000000 in
theorem mf_X7_put : pv_mf mX7_put := ⟨List.mem_filter.mpr ⟨List.mem_of_getElem? (i := 843) (by rfl), rfl⟩, List.mem_filter.mpr ⟨List.mem_of_getElem? (i := 152) (by rfl), rfl⟩⟩
set_option maxRecDepth 1000000 in
theorem mf_X7_answer : pv_mf mX7_answer := ⟨List.mem_filter.mpr ⟨List.mem_of_getElem? (i := 911) (by rfl), rfl⟩, List.mem_filter.mpr ⟨List.mem_of_getElem? (i := 152) (by rfl), rfl⟩⟩
set_option maxRecDepth 1000000 in
theorem mf_X7_reckon : pv_mf mX7_reckon := ⟨List.mem_filter.mpr ⟨List.mem_of_getElem? (i := 915) (by rfl), rfl⟩, List.mem_filter.mpr ⟨List.mem_of_getElem? (i := 152) (by rfl), rfl⟩⟩
set_option maxRecDepth 1000000 in
theorem mf_X7_joined : pv_mf mX7_joined := ⟨List.mem_filter.mpr ⟨List.mem_of_getElem? (i := 919) (by rfl), rfl⟩, List.mem_filter.mpr ⟨List.mem_of_getElem? (i := 152) (by rfl), rfl⟩⟩
set_option maxRecDepth 1000000 in
theorem mf_X8_init : pv_mf mX8_init := ⟨List.mem_filter.mpr ⟨List.mem_of_getElem? (i := 571) (by rfl), rfl⟩, List.mem_filter.mpr ⟨List.mem_of_getElem? (i := 158) (by rfl), rfl⟩⟩
set_option maxRecDepth 1000000 in
theorem mf_X8_fly : pv_mf mX8_fly := ⟨List.mem_filter.mpr ⟨List.mem_of_getElem? (i := 1173) (by rfl), rfl⟩, List.mem_filter.mpr ⟨List.mem_of_getElem? (i := 158) (by rfl), rfl⟩⟩
set_option maxRecDepth 1000000 in
theorem mf_X8_arrive : pv_mf mX8_arrive := ⟨List.mem_filter.mpr ⟨List.mem_of_getElem? (i := 1178) (by rfl), rfl⟩, List.mem_filter.mpr ⟨List.mem_of_getElem? (i := 158) (by rfl), rfl⟩⟩
set_option maxRecDepth 1000000 in
theorem mf_X8_cancel : pv_mf mX8_cancel := ⟨List.mem_filter.mpr ⟨List.mem_of_getElem? (i := 1185) (by rfl), rfl⟩, List.mem_filter.mpr ⟨List.mem_of_getElem? (i := 158) (by rfl), rfl⟩⟩
set_option maxRecDepth 1000000 in
theorem mf_X9_init : pv_mf mX9_init := ⟨List.mem_filter.mpr ⟨List.mem_of_getElem? (i := 471) (by rfl), rfl⟩, List.mem_filter.mpr ⟨List.mem_of_getElem? (i := 154) (by rfl), rfl⟩⟩
set_option maxRecDepth 1000000 in
theorem mf_X9_append : pv_mf mX9_append := ⟨List.mem_filter.mpr ⟨List.mem_of_getElem? (i := 702) (by rfl), rfl⟩, List.mem_filter.mpr ⟨List.mem_of_getElem? (i := 154) (by rfl), rfl⟩⟩
set_option maxRecDepth 1000000 in
theorem mf_X9_numberAt : pv_mf mX9_numberAt := ⟨List.mem_filter.mpr ⟨List.mem_of_getElem? (i := 1285) (by rfl), rfl⟩, List.mem_filter.mpr ⟨List.mem_of_getElem? (i := 154) (by rfl), rfl⟩⟩
set_option maxRecDepth 1000000 in
theorem mf_X10_init : pv_mf mX10_init := ⟨List.mem_filter.mpr ⟨List.mem_of_getElem? (i := 429) (by rfl), rfl⟩, List.mem_filter.mpr ⟨List.mem_of_getElem? (i := 153) (by rfl), rfl⟩⟩
set_option maxRecDepth 1000000 in
theorem mf_X10_pour : pv_mf mX10_pour := ⟨List.mem_filter.mpr ⟨List.mem_of_getElem? (i := 940) (by rfl), rfl⟩, List.mem_filter.mpr ⟨List.mem_of_getElem? (i := 153) (by rfl), rfl⟩⟩
set_option maxRecDepth 1000000 in
theorem mf_X10_passOn : pv_mf mX10_passOn := ⟨List.mem_filter.mpr ⟨List.mem_of_getElem? (i := 954) (by rfl), rfl⟩, List.mem_filter.mpr ⟨List.mem_of_getElem? (i := 153) (by rfl), rfl⟩⟩
set_option maxRecDepth 1000000 in
theorem mf_X10_share : pv_mf mX10_share := ⟨List.mem_filter.mpr ⟨List.mem_of_getElem? (i := 1240) (by rfl), rfl⟩, List.mem_filter.mpr ⟨List.mem_of_getElem? (i := 153) (by rfl), rfl⟩⟩
set_option maxRecDepth 1000000 in
theorem mf_X10_reckonGrowth : pv_mf mX10_reckonGrowth := ⟨List.mem_filter.mpr ⟨List.mem_of_getElem? (i := 1244) (by rfl), rfl⟩, List.mem_filter.mpr ⟨List.mem_of_getElem? (i := 153) (by rfl), rfl⟩⟩
set_option maxRecDepth 1000000 in
theorem mf_X10_tryValve : pv_mf mX10_tryValve := ⟨List.mem_filter.mpr ⟨List.mem_of_getElem? (i := 1250) (by rfl), rfl⟩, List.mem_filter.mpr ⟨List.mem_of_getElem? (i := 153) (by rfl), rfl⟩⟩
set_option maxRecDepth 1000000 in
theorem mf_X10_weighTrial : pv_mf mX10_weighTrial := ⟨List.mem_filter.mpr ⟨List.mem_of_getElem? (i := 1254) (by rfl), rfl⟩, List.mem_filter.mpr ⟨List.mem_of_getElem? (i := 153) (by rfl), rfl⟩⟩
set_option maxRecDepth 1000000 in
theorem mf_X10_dropsAt : pv_mf mX10_dropsAt := ⟨List.mem_filter.mpr ⟨List.mem_of_getElem? (i := 1259) (by rfl), rfl⟩, List.mem_filter.mpr ⟨List.mem_of_getElem? (i := 153) (by rfl), rfl⟩⟩
set_option maxRecDepth 1000000 in
theorem mf_X11_init : pv_mf mX11_init := ⟨List.mem_filter.mpr ⟨List.mem_of_getElem? (i := 173) (by rfl), rfl⟩, List.mem_filter.mpr ⟨List.mem_of_getElem? (i := 146) (by rfl), rfl⟩⟩
set_option maxRecDepth 1000000 in
theorem mf_X11_hang : pv_mf mX11_hang := ⟨List.mem_filter.mpr ⟨List.mem_of_getElem? (i := 630) (by rfl), rfl⟩, List.mem_filter.mpr ⟨List.mem_of_getElem? (i := 146) (by rfl), rfl⟩⟩
set_option maxRecDepth 1000000 in
theorem mf_X11_knot : pv_mf mX11_knot := ⟨List.mem_filter.mpr ⟨List.mem_of_getElem? (i := 655) (by rfl), rfl⟩, List.mem_filter.mpr ⟨List.mem_of_getElem? (i := 146) (by rfl), rfl⟩⟩
set_option maxRecDepth 1000000 in
theorem mf_X11_kind : pv_mf mX11_kind := ⟨List.mem_filter.mpr ⟨List.mem_of_getElem? (i := 663) (by rfl), rfl⟩, List.mem_filter.mpr ⟨List.mem_of_getElem? (i := 146) (by rfl), rfl⟩⟩
set_option maxRecDepth 1000000 in
theorem mf_X11_plant : pv_mf mX11_plant := ⟨List.mem_filter.mpr ⟨List.mem_of_getElem? (i := 667) (by rfl), rfl⟩, List.mem_filter.mpr ⟨List.mem_of_getElem? (i := 146) (by rfl), rfl⟩⟩
set_option maxRecDepth 1000000 in
theorem mf_X11_valve : pv_mf mX11_valve := ⟨List.mem_filter.mpr ⟨List.mem_of_getElem? (i := 678) (by rfl), rfl⟩, List.mem_filter.mpr ⟨List.mem_of_getElem? (i := 146) (by rfl), rfl⟩⟩
set_option maxRecDepth 1000000 in
theorem mf_X11_kitchen : pv_mf mX11_kitchen := ⟨List.mem_filter.mpr ⟨List.mem_of_getElem? (i := 682) (by rfl), rfl⟩, List.mem_filter.mpr ⟨List.mem_of_getElem? (i := 146) (by rfl), rfl⟩⟩
set_option maxRecDepth 1000000 in
theorem mf_X11_rope : pv_mf mX11_rope := ⟨List.mem_filter.mpr ⟨List.mem_of_getElem? (i := 689) (by rfl), rfl⟩, List.mem_filter.mpr ⟨List.mem_of_getElem? (i := 146) (by rfl), rfl⟩⟩
set_option maxRecDepth 1000000 in
theorem mf_X11_seed : pv_mf mX11_seed := ⟨List.mem_filter.mpr ⟨List.mem_of_getElem? (i := 693) (by rfl), rfl⟩, List.mem_filter.mpr ⟨List.mem_of_getElem? (i := 146) (by rfl), rfl⟩⟩
set_option maxRecDepth 1000000 in
theorem mf_X11_feed : pv_mf mX11_feed := ⟨List.mem_filter.mpr ⟨List.mem_of_getElem? (i := 698) (by rfl), rfl⟩, List.mem_filter.mpr ⟨List.mem_of_getElem? (i := 146) (by rfl), rfl⟩⟩
set_option maxRecDepth 1000000 in
theorem mf_X11_law : pv_mf mX11_law := ⟨List.mem_filter.mpr ⟨List.mem_of_getElem? (i := 706) (by rfl), rfl⟩, List.mem_filter.mpr ⟨List.mem_of_getElem? (i := 146) (by rfl), rfl⟩⟩
set_option maxRecDepth 1000000 in
theorem mf_X11_cell : pv_mf mX11_cell := ⟨List.mem_filter.mpr ⟨List.mem_of_getElem? (i := 873) (by rfl), rfl⟩, List.mem_filter.mpr ⟨List.mem_of_getElem? (i := 146) (by rfl), rfl⟩⟩
set_option maxRecDepth 1000000 in
theorem mf_X11_byLaw : pv_mf mX11_byLaw := ⟨List.mem_filter.mpr ⟨List.mem_of_getElem? (i := 888) (by rfl), rfl⟩, List.mem_filter.mpr ⟨List.mem_of_getElem? (i := 146) (by rfl), rfl⟩⟩
set_option maxRecDepth 1000000 in
theorem mf_X11_water : pv_mf mX11_water := ⟨List.mem_filter.mpr ⟨List.mem_of_getElem? (i := 932) (by rfl), rfl⟩, List.mem_filter.mpr ⟨List.mem_of_getElem? (i := 146) (by rfl), rfl⟩⟩
set_option maxRecDepth 1000000 in
theorem mf_X11_fall : pv_mf mX11_fall := ⟨List.mem_filter.mpr ⟨List.mem_of_getElem? (i := 958) (by rfl), rfl⟩, List.mem_filter.mpr ⟨List.mem_of_getElem? (i := 146) (by rfl), rfl⟩⟩
set_option maxRecDepth 1000000 in
theorem mf_X11_go : pv_mf mX11_go := ⟨List.mem_filter.mpr ⟨List.mem_of_getElem? (i := 997) (by rfl), rfl⟩, List.mem_filter.mpr ⟨List.mem_of_getElem? (i := 146) (by rfl), rfl⟩⟩
set_option maxRecDepth 1000000 in
theorem mf_X11_day : pv_mf mX11_day := ⟨List.mem_filter.mpr ⟨List.mem_of_getElem? (i := 1025) (by rfl), rfl⟩, List.mem_filter.mpr ⟨List.mem_of_getElem? (i := 146) (by rfl), rfl⟩⟩
set_option maxRecDepth 1000000 in
theorem mf_X11_torn : pv_mf mX11_torn := ⟨List.mem_filter.mpr ⟨List.mem_of_getElem? (i := 1043) (by rfl), rfl⟩, List.mem_filter.mpr ⟨List.mem_of_getElem? (i := 146) (by rfl), rfl⟩⟩
set_option maxRecDepth 1000000 in
theorem mf_X11_fallIs : pv_mf mX11_fallIs := ⟨List.mem_filter.mpr ⟨List.mem_of_getElem? (i := 1055) (by rfl), rfl⟩, List.mem_filter.mpr ⟨List.mem_of_getElem? (i := 146) (by rfl), rfl⟩⟩
set_option maxRecDepth 1000000 in
theorem mf_X11_claimed : pv_mf mX11_claimed := ⟨List.mem_filter.mpr ⟨List.mem_of_getElem? (i := 1067) (by rfl), rfl⟩, List.mem_filter.mpr ⟨List.mem_of_getElem? (i := 146) (by rfl), rfl⟩⟩
set_option maxRecDepth 1000000 in
theorem mf_X11_right : pv_mf mX11_right := ⟨List.mem_filter.mpr ⟨List.mem_of_getElem? (i := 1079) (by rfl), rfl⟩, List.mem_filter.mpr ⟨List.mem_of_getElem? (i := 146) (by rfl), rfl⟩⟩
set_option maxRecDepth 1000000 in
theorem mf_X11_food : pv_mf mX11_food := ⟨List.mem_filter.mpr ⟨List.mem_of_getElem? (i := 1083) (by rfl), rfl⟩, List.mem_filter.mpr ⟨List.mem_of_getElem? (i := 146) (by rfl), rfl⟩⟩
set_option maxRecDepth 1000000 in
theorem mf_X11_kitchenIs : pv_mf mX11_kitchenIs := ⟨List.mem_filter.mpr ⟨List.mem_of_getElem? (i := 1087) (by rfl), rfl⟩, List.mem_filter.mpr ⟨List.mem_of_getElem? (i := 146) (by rfl), rfl⟩⟩
