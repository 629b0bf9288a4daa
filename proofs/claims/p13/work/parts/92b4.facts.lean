set_option maxRecDepth 1000000 in
theorem mf_X12_reckon : pv_mf mX12_reckon := ⟨List.mem_filter.mpr ⟨dq_m7 133 (by rfl), rfl⟩, List.mem_filter.mpr ⟨dq_m1 14 (by rfl), rfl⟩⟩
set_option maxRecDepth 1000000 in
theorem mf_X12_comesTo : pv_mf mX12_comesTo := ⟨List.mem_filter.mpr ⟨dq_m7 130 (by rfl), rfl⟩, List.mem_filter.mpr ⟨dq_m1 14 (by rfl), rfl⟩⟩
set_option maxRecDepth 1000000 in
theorem mf_X12_told : pv_mf mX12_told := ⟨List.mem_filter.mpr ⟨dq_m7 126 (by rfl), rfl⟩, List.mem_filter.mpr ⟨dq_m1 14 (by rfl), rfl⟩⟩
set_option maxRecDepth 1000000 in
theorem mf_X12_feelsCell : pv_mf mX12_feelsCell := ⟨List.mem_filter.mpr ⟨dq_m7 114 (by rfl), rfl⟩, List.mem_filter.mpr ⟨dq_m1 14 (by rfl), rfl⟩⟩
set_option maxRecDepth 1000000 in
theorem mf_X12_feelsCrop : pv_mf mX12_feelsCrop := ⟨List.mem_filter.mpr ⟨dq_m7 122 (by rfl), rfl⟩, List.mem_filter.mpr ⟨dq_m1 14 (by rfl), rfl⟩⟩
set_option maxRecDepth 1000000 in
theorem mf_X12_isRipe : pv_mf mX12_isRipe := ⟨List.mem_filter.mpr ⟨dq_m7 118 (by rfl), rfl⟩, List.mem_filter.mpr ⟨dq_m1 14 (by rfl), rfl⟩⟩
set_option maxRecDepth 1000000 in
theorem mf_X12_feels : pv_mf mX12_feels := ⟨List.mem_filter.mpr ⟨dq_m7 110 (by rfl), rfl⟩, List.mem_filter.mpr ⟨dq_m1 14 (by rfl), rfl⟩⟩
set_option maxRecDepth 1000000 in
theorem mf_X12_asked : pv_mf mX12_asked := ⟨List.mem_filter.mpr ⟨dq_m7 106 (by rfl), rfl⟩, List.mem_filter.mpr ⟨dq_m1 14 (by rfl), rfl⟩⟩
set_option maxRecDepth 1000000 in
theorem mf_X12_byLaw : pv_mf mX12_byLaw := ⟨List.mem_filter.mpr ⟨dq_m7 102 (by rfl), rfl⟩, List.mem_filter.mpr ⟨dq_m1 14 (by rfl), rfl⟩⟩
set_option maxRecDepth 1000000 in
theorem mf_X12_sends : pv_mf mX12_sends := ⟨List.mem_filter.mpr ⟨dq_m7 149 (by rfl), rfl⟩, List.mem_filter.mpr ⟨dq_m1 14 (by rfl), rfl⟩⟩
set_option maxRecDepth 1000000 in
theorem mf_X12_drips : pv_mf mX12_drips := ⟨List.mem_filter.mpr ⟨dq_m7 145 (by rfl), rfl⟩, List.mem_filter.mpr ⟨dq_m1 14 (by rfl), rfl⟩⟩
set_option maxRecDepth 1000000 in
theorem mf_X12_flows : pv_mf mX12_flows := ⟨List.mem_filter.mpr ⟨dq_m7 141 (by rfl), rfl⟩, List.mem_filter.mpr ⟨dq_m1 14 (by rfl), rfl⟩⟩
set_option maxRecDepth 1000000 in
theorem mf_X12_water : pv_mf mX12_water := ⟨List.mem_filter.mpr ⟨dq_m7 137 (by rfl), rfl⟩, List.mem_filter.mpr ⟨dq_m1 14 (by rfl), rfl⟩⟩
set_option maxRecDepth 1000000 in
theorem mf_X12_ownLoad : pv_mf mX12_ownLoad := ⟨List.mem_filter.mpr ⟨dq_m7 164 (by rfl), rfl⟩, List.mem_filter.mpr ⟨dq_m1 14 (by rfl), rfl⟩⟩
set_option maxRecDepth 1000000 in
theorem mf_X12_loadOf : pv_mf mX12_loadOf := ⟨List.mem_filter.mpr ⟨dq_m7 160 (by rfl), rfl⟩, List.mem_filter.mpr ⟨dq_m1 14 (by rfl), rfl⟩⟩
set_option maxRecDepth 1000000 in
theorem mf_X12_cell : pv_mf mX12_cell := ⟨List.mem_filter.mpr ⟨dq_m7 156 (by rfl), rfl⟩, List.mem_filter.mpr ⟨dq_m1 14 (by rfl), rfl⟩⟩
set_option maxRecDepth 1000000 in
theorem mf_X12_catcher : pv_mf mX12_catcher := ⟨List.mem_filter.mpr ⟨dq_m7 176 (by rfl), rfl⟩, List.mem_filter.mpr ⟨dq_m1 14 (by rfl), rfl⟩⟩
set_option maxRecDepth 1000000 in
theorem mf_X12_writes : pv_mf mX12_writes := ⟨List.mem_filter.mpr ⟨dq_m7 180 (by rfl), rfl⟩, List.mem_filter.mpr ⟨dq_m1 14 (by rfl), rfl⟩⟩
set_option maxRecDepth 1000000 in
theorem mf_X12_falls : pv_mf mX12_falls := ⟨List.mem_filter.mpr ⟨dq_m7 172 (by rfl), rfl⟩, List.mem_filter.mpr ⟨dq_m1 14 (by rfl), rfl⟩⟩
set_option maxRecDepth 1000000 in
theorem mf_X12_fall : pv_mf mX12_fall := ⟨List.mem_filter.mpr ⟨dq_m7 168 (by rfl), rfl⟩, List.mem_filter.mpr ⟨dq_m1 14 (by rfl), rfl⟩⟩
set_option maxRecDepth 1000000 in
theorem mf_X12_firstGoing : pv_mf mX12_firstGoing := ⟨List.mem_filter.mpr ⟨dq_m7 188 (by rfl), rfl⟩, List.mem_filter.mpr ⟨dq_m1 14 (by rfl), rfl⟩⟩
set_option maxRecDepth 1000000 in
theorem mf_X12_tears : pv_mf mX12_tears := ⟨List.mem_filter.mpr ⟨dq_m7 196 (by rfl), rfl⟩, List.mem_filter.mpr ⟨dq_m1 14 (by rfl), rfl⟩⟩
set_option maxRecDepth 1000000 in
theorem mf_X12_goesOff : pv_mf mX12_goesOff := ⟨List.mem_filter.mpr ⟨dq_m7 192 (by rfl), rfl⟩, List.mem_filter.mpr ⟨dq_m1 14 (by rfl), rfl⟩⟩
set_option maxRecDepth 1000000 in
theorem mf_X12_go : pv_mf mX12_go := ⟨List.mem_filter.mpr ⟨dq_m7 184 (by rfl), rfl⟩, List.mem_filter.mpr ⟨dq_m1 14 (by rfl), rfl⟩⟩
set_option maxRecDepth 1000000 in
theorem mf_X12_torn : pv_mf mX12_torn := ⟨List.mem_filter.mpr ⟨dq_m7 203 (by rfl), rfl⟩, List.mem_filter.mpr ⟨dq_m1 14 (by rfl), rfl⟩⟩
set_option maxRecDepth 1000000 in
theorem mf_X12_day : pv_mf mX12_day := ⟨List.mem_filter.mpr ⟨dq_m7 208 (by rfl), rfl⟩, List.mem_filter.mpr ⟨dq_m1 14 (by rfl), rfl⟩⟩
set_option maxRecDepth 1000000 in
theorem mf_X12_isFall : pv_mf mX12_isFall := ⟨List.mem_filter.mpr ⟨dq_m7 219 (by rfl), rfl⟩, List.mem_filter.mpr ⟨dq_m1 14 (by rfl), rfl⟩⟩
set_option maxRecDepth 1000000 in
theorem mf_X12_fallIs : pv_mf mX12_fallIs := ⟨List.mem_filter.mpr ⟨dq_m7 215 (by rfl), rfl⟩, List.mem_filter.mpr ⟨dq_m1 14 (by rfl), rfl⟩⟩
set_option maxRecDepth 1000000 in
theorem mf_X12_claimer : pv_mf mX12_claimer := ⟨List.mem_filter.mpr ⟨dq_m7 227 (by rfl), rfl⟩, List.mem_filter.mpr ⟨dq_m1 14 (by rfl), rfl⟩⟩
set_option maxRecDepth 1000000 in
theorem mf_X12_claimed : pv_mf mX12_claimed := ⟨List.mem_filter.mpr ⟨dq_m7 223 (by rfl), rfl⟩, List.mem_filter.mpr ⟨dq_m1 14 (by rfl), rfl⟩⟩
set_option maxRecDepth 1000000 in
theorem mf_X12_right : pv_mf mX12_right := ⟨List.mem_filter.mpr ⟨dq_m7 231 (by rfl), rfl⟩, List.mem_filter.mpr ⟨dq_m1 14 (by rfl), rfl⟩⟩
set_option maxRecDepth 1000000 in
theorem mf_X12_food : pv_mf mX12_food := ⟨List.mem_filter.mpr ⟨dq_m7 235 (by rfl), rfl⟩, List.mem_filter.mpr ⟨dq_m1 14 (by rfl), rfl⟩⟩
set_option maxRecDepth 1000000 in
theorem mf_X12_kitchenIs : pv_mf mX12_kitchenIs := ⟨List.mem_filter.mpr ⟨dq_m7 239 (by rfl), rfl⟩, List.mem_filter.mpr ⟨dq_m1 14 (by rfl), rfl⟩⟩
set_option maxRecDepth 1000000 in
theorem mf_X12_lays : pv_mf mX12_lays := ⟨List.mem_filter.mpr ⟨dq_m8 15 (by rfl), rfl⟩, List.mem_filter.mpr ⟨dq_m1 14 (by rfl), rfl⟩⟩
set_option maxRecDepth 1000000 in
theorem mf_X12_mayBe : pv_mf mX12_mayBe := ⟨List.mem_filter.mpr ⟨dq_m8 7 (by rfl), rfl⟩, List.mem_filter.mpr ⟨dq_m1 14 (by rfl), rfl⟩⟩
set_option maxRecDepth 1000000 in
theorem mf_X12_mayWork : pv_mf mX12_mayWork := ⟨List.mem_filter.mpr ⟨dq_m8 3 (by rfl), rfl⟩, List.mem_filter.mpr ⟨dq_m1 14 (by rfl), rfl⟩⟩
set_option maxRecDepth 1000000 in
theorem mf_X12_apart : pv_mf mX12_apart := ⟨List.mem_filter.mpr ⟨dq_m8 27 (by rfl), rfl⟩, List.mem_filter.mpr ⟨dq_m1 14 (by rfl), rfl⟩⟩
set_option maxRecDepth 1000000 in
theorem mf_X12_way : pv_mf mX12_way := ⟨List.mem_filter.mpr ⟨dq_m8 24 (by rfl), rfl⟩, List.mem_filter.mpr ⟨dq_m1 14 (by rfl), rfl⟩⟩
set_option maxRecDepth 1000000 in
theorem mf_X12_laysHours : pv_mf mX12_laysHours := ⟨List.mem_filter.mpr ⟨dq_m8 20 (by rfl), rfl⟩, List.mem_filter.mpr ⟨dq_m1 14 (by rfl), rfl⟩⟩
set_option maxRecDepth 1000000 in
theorem mf_X12_work : pv_mf mX12_work := ⟨List.mem_filter.mpr ⟨dq_m8 11 (by rfl), rfl⟩, List.mem_filter.mpr ⟨dq_m1 14 (by rfl), rfl⟩⟩
set_option maxRecDepth 1000000 in
theorem mf_X12_hasKind : pv_mf mX12_hasKind := ⟨List.mem_filter.mpr ⟨dq_m8 39 (by rfl), rfl⟩, List.mem_filter.mpr ⟨dq_m1 14 (by rfl), rfl⟩⟩
set_option maxRecDepth 1000000 in
theorem mf_X12_takesUp : pv_mf mX12_takesUp := ⟨List.mem_filter.mpr ⟨dq_m8 35 (by rfl), rfl⟩, List.mem_filter.mpr ⟨dq_m1 14 (by rfl), rfl⟩⟩
set_option maxRecDepth 1000000 in
theorem mf_X12_moved : pv_mf mX12_moved := ⟨List.mem_filter.mpr ⟨dq_m8 46 (by rfl), rfl⟩, List.mem_filter.mpr ⟨dq_m1 14 (by rfl), rfl⟩⟩
set_option maxRecDepth 1000000 in
theorem mf_X12_flies : pv_mf mX12_flies := ⟨List.mem_filter.mpr ⟨dq_m8 43 (by rfl), rfl⟩, List.mem_filter.mpr ⟨dq_m1 14 (by rfl), rfl⟩⟩
set_option maxRecDepth 1000000 in
theorem mf_X12_gcd : pv_mf mX12_gcd := ⟨List.mem_filter.mpr ⟨dq_m8 50 (by rfl), rfl⟩, List.mem_filter.mpr ⟨dq_m1 14 (by rfl), rfl⟩⟩
set_option maxRecDepth 1000000 in
theorem mf_X12_pollen : pv_mf mX12_pollen := ⟨List.mem_filter.mpr ⟨dq_m8 31 (by rfl), rfl⟩, List.mem_filter.mpr ⟨dq_m1 14 (by rfl), rfl⟩⟩
set_option maxRecDepth 1000000 in
theorem mf_X12_pollinate : pv_mf mX12_pollinate := ⟨List.mem_filter.mpr ⟨dq_m8 54 (by rfl), rfl⟩, List.mem_filter.mpr ⟨dq_m1 14 (by rfl), rfl⟩⟩
set_option maxRecDepth 1000000 in
theorem mf_X12_bearsAll : pv_mf mX12_bearsAll := ⟨List.mem_filter.mpr ⟨dq_m8 66 (by rfl), rfl⟩, List.mem_filter.mpr ⟨dq_m1 14 (by rfl), rfl⟩⟩
set_option maxRecDepth 1000000 in
theorem mf_X12_areWhole : pv_mf mX12_areWhole := ⟨List.mem_filter.mpr ⟨dq_m8 62 (by rfl), rfl⟩, List.mem_filter.mpr ⟨dq_m1 14 (by rfl), rfl⟩⟩
set_option maxRecDepth 1000000 in
theorem mf_X12_planted : pv_mf mX12_planted := ⟨List.mem_filter.mpr ⟨dq_m8 58 (by rfl), rfl⟩, List.mem_filter.mpr ⟨dq_m1 14 (by rfl), rfl⟩⟩
set_option maxRecDepth 1000000 in
theorem mf_X12_growth : pv_mf mX12_growth := ⟨List.mem_filter.mpr ⟨dq_m8 77 (by rfl), rfl⟩, List.mem_filter.mpr ⟨dq_m1 14 (by rfl), rfl⟩⟩
set_option maxRecDepth 1000000 in
theorem mf_X12_drought : pv_mf mX12_drought := ⟨List.mem_filter.mpr ⟨dq_m8 70 (by rfl), rfl⟩, List.mem_filter.mpr ⟨dq_m1 14 (by rfl), rfl⟩⟩
set_option maxRecDepth 1000000 in
theorem mf_X12_bits : pv_mf mX12_bits := ⟨List.mem_filter.mpr ⟨dq_m8 73 (by rfl), rfl⟩, List.mem_filter.mpr ⟨dq_m1 14 (by rfl), rfl⟩⟩
set_option maxRecDepth 1000000 in
theorem mf_X12_takesOf : pv_mf mX12_takesOf := ⟨List.mem_filter.mpr ⟨dq_m8 96 (by rfl), rfl⟩, List.mem_filter.mpr ⟨dq_m1 14 (by rfl), rfl⟩⟩
set_option maxRecDepth 1000000 in
theorem mf_X12_hoursOf : pv_mf mX12_hoursOf := ⟨List.mem_filter.mpr ⟨dq_m8 93 (by rfl), rfl⟩, List.mem_filter.mpr ⟨dq_m1 14 (by rfl), rfl⟩⟩
set_option maxRecDepth 1000000 in
theorem mf_X12_canBeNext : pv_mf mX12_canBeNext := ⟨List.mem_filter.mpr ⟨dq_m8 85 (by rfl), rfl⟩, List.mem_filter.mpr ⟨dq_m1 14 (by rfl), rfl⟩⟩
set_option maxRecDepth 1000000 in
theorem mf_X12_costBy : pv_mf mX12_costBy := ⟨List.mem_filter.mpr ⟨dq_m8 89 (by rfl), rfl⟩, List.mem_filter.mpr ⟨dq_m1 14 (by rfl), rfl⟩⟩
set_option maxRecDepth 1000000 in
theorem mf_X12_mended : pv_mf mX12_mended := ⟨List.mem_filter.mpr ⟨dq_m8 81 (by rfl), rfl⟩, List.mem_filter.mpr ⟨dq_m1 14 (by rfl), rfl⟩⟩
set_option maxRecDepth 1000000 in
theorem mf_X12_isHit : pv_mf mX12_isHit := ⟨List.mem_filter.mpr ⟨dq_m8 104 (by rfl), rfl⟩, List.mem_filter.mpr ⟨dq_m1 14 (by rfl), rfl⟩⟩
set_option maxRecDepth 1000000 in
theorem mf_X12_hail : pv_mf mX12_hail := ⟨List.mem_filter.mpr ⟨dq_m8 100 (by rfl), rfl⟩, List.mem_filter.mpr ⟨dq_m1 14 (by rfl), rfl⟩⟩
set_option maxRecDepth 1000000 in
theorem mf_X12_tapeNumber : pv_mf mX12_tapeNumber := ⟨List.mem_filter.mpr ⟨dq_m8 112 (by rfl), rfl⟩, List.mem_filter.mpr ⟨dq_m1 14 (by rfl), rfl⟩⟩
set_option maxRecDepth 1000000 in
theorem mf_X12_check : pv_mf mX12_check := ⟨List.mem_filter.mpr ⟨dq_m8 108 (by rfl), rfl⟩, List.mem_filter.mpr ⟨dq_m1 14 (by rfl), rfl⟩⟩
set_option maxRecDepth 1000000 in
theorem mf_X12_cells : pv_mf mX12_cells := ⟨List.mem_filter.mpr ⟨dq_m8 120 (by rfl), rfl⟩, List.mem_filter.mpr ⟨dq_m1 14 (by rfl), rfl⟩⟩
set_option maxRecDepth 1000000 in
theorem mf_X12_count : pv_mf mX12_count := ⟨List.mem_filter.mpr ⟨dq_m8 116 (by rfl), rfl⟩, List.mem_filter.mpr ⟨dq_m1 14 (by rfl), rfl⟩⟩
set_option maxRecDepth 1000000 in
theorem mf_J6_bitCount_0f7a4 : pv_mf mJ6_bitCount_0f7a4 := ⟨List.mem_filter.mpr ⟨dq_m5 128 (by rfl), rfl⟩, List.mem_filter.mpr ⟨dq_m1 23 (by rfl), rfl⟩⟩
set_option maxRecDepth 1000000 in
theorem mf_J13_bitCount_95d88 : pv_mf mJ13_bitCount_95d88 := ⟨List.mem_filter.mpr ⟨dq_m5 4 (by rfl), rfl⟩, List.mem_filter.mpr ⟨dq_m1 22 (by rfl), rfl⟩⟩
set_option maxRecDepth 1000000 in
theorem mf_J7_fill_53178 : pv_mf mJ7_fill_53178 := ⟨List.mem_filter.mpr ⟨dq_m1 40 (by rfl), rfl⟩, List.mem_filter.mpr ⟨dq_m1 3 (by rfl), rfl⟩⟩

