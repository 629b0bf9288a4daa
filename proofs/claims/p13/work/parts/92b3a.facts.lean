set_option maxRecDepth 1000000 in
theorem mf_X11_mayWork : pv_mf mX11_mayWork := ⟨List.mem_filter.mpr ⟨dq_m4 230 (by rfl), rfl⟩, List.mem_filter.mpr ⟨dq_m1 1 (by rfl), rfl⟩⟩
set_option maxRecDepth 1000000 in
theorem mf_X11_work : pv_mf mX11_work := ⟨List.mem_filter.mpr ⟨dq_m4 238 (by rfl), rfl⟩, List.mem_filter.mpr ⟨dq_m1 1 (by rfl), rfl⟩⟩
set_option maxRecDepth 1000000 in
theorem mf_X11_pollen : pv_mf mX11_pollen := ⟨List.mem_filter.mpr ⟨dq_m5 60 (by rfl), rfl⟩, List.mem_filter.mpr ⟨dq_m1 1 (by rfl), rfl⟩⟩
set_option maxRecDepth 1000000 in
theorem mf_X11_pollinate : pv_mf mX11_pollinate := ⟨List.mem_filter.mpr ⟨dq_m5 84 (by rfl), rfl⟩, List.mem_filter.mpr ⟨dq_m1 1 (by rfl), rfl⟩⟩
set_option maxRecDepth 1000000 in
theorem mf_X11_planted : pv_mf mX11_planted := ⟨List.mem_filter.mpr ⟨dq_m5 88 (by rfl), rfl⟩, List.mem_filter.mpr ⟨dq_m1 1 (by rfl), rfl⟩⟩
set_option maxRecDepth 1000000 in
theorem mf_X11_drought : pv_mf mX11_drought := ⟨List.mem_filter.mpr ⟨dq_m5 125 (by rfl), rfl⟩, List.mem_filter.mpr ⟨dq_m1 1 (by rfl), rfl⟩⟩
set_option maxRecDepth 1000000 in
theorem mf_X11_mended : pv_mf mX11_mended := ⟨List.mem_filter.mpr ⟨dq_m5 159 (by rfl), rfl⟩, List.mem_filter.mpr ⟨dq_m1 1 (by rfl), rfl⟩⟩
set_option maxRecDepth 1000000 in
theorem mf_X11_hail : pv_mf mX11_hail := ⟨List.mem_filter.mpr ⟨dq_m5 168 (by rfl), rfl⟩, List.mem_filter.mpr ⟨dq_m1 1 (by rfl), rfl⟩⟩
set_option maxRecDepth 1000000 in
theorem mf_X11_check : pv_mf mX11_check := ⟨List.mem_filter.mpr ⟨dq_m5 176 (by rfl), rfl⟩, List.mem_filter.mpr ⟨dq_m1 1 (by rfl), rfl⟩⟩
set_option maxRecDepth 1000000 in
theorem mf_X11_count : pv_mf mX11_count := ⟨List.mem_filter.mpr ⟨dq_m5 184 (by rfl), rfl⟩, List.mem_filter.mpr ⟨dq_m1 1 (by rfl), rfl⟩⟩
set_option maxRecDepth 1000000 in
theorem mf_X11_countOfRow : pv_mf mX11_countOfRow := ⟨List.mem_filter.mpr ⟨dq_m5 192 (by rfl), rfl⟩, List.mem_filter.mpr ⟨dq_m1 1 (by rfl), rfl⟩⟩
set_option maxRecDepth 1000000 in
theorem mf_X11_letWaterFlow : pv_mf mX11_letWaterFlow := ⟨List.mem_filter.mpr ⟨dq_m4 71 (by rfl), rfl⟩, List.mem_filter.mpr ⟨dq_m1 1 (by rfl), rfl⟩⟩
set_option maxRecDepth 1000000 in
theorem mf_X11_letCropsGrow : pv_mf mX11_letCropsGrow := ⟨List.mem_filter.mpr ⟨dq_m4 164 (by rfl), rfl⟩, List.mem_filter.mpr ⟨dq_m1 1 (by rfl), rfl⟩⟩
set_option maxRecDepth 1000000 in
theorem mf_X11_letCropsFall : pv_mf mX11_letCropsFall := ⟨List.mem_filter.mpr ⟨dq_m4 169 (by rfl), rfl⟩, List.mem_filter.mpr ⟨dq_m1 1 (by rfl), rfl⟩⟩
set_option maxRecDepth 1000000 in
theorem mf_X11_letKnotsAge : pv_mf mX11_letKnotsAge := ⟨List.mem_filter.mpr ⟨dq_m4 173 (by rfl), rfl⟩, List.mem_filter.mpr ⟨dq_m1 1 (by rfl), rfl⟩⟩
set_option maxRecDepth 1000000 in
theorem mf_X11_letKnotsGo : pv_mf mX11_letKnotsGo := ⟨List.mem_filter.mpr ⟨dq_m4 136 (by rfl), rfl⟩, List.mem_filter.mpr ⟨dq_m1 1 (by rfl), rfl⟩⟩
set_option maxRecDepth 1000000 in
theorem mf_X11_tearDown : pv_mf mX11_tearDown := ⟨List.mem_filter.mpr ⟨dq_m4 144 (by rfl), rfl⟩, List.mem_filter.mpr ⟨dq_m1 1 (by rfl), rfl⟩⟩
set_option maxRecDepth 1000000 in
theorem mf_X11_dropCrop : pv_mf mX11_dropCrop := ⟨List.mem_filter.mpr ⟨dq_m4 97 (by rfl), rfl⟩, List.mem_filter.mpr ⟨dq_m1 1 (by rfl), rfl⟩⟩
set_option maxRecDepth 1000000 in
theorem mf_X11_landInKitchen : pv_mf mX11_landInKitchen := ⟨List.mem_filter.mpr ⟨dq_m4 124 (by rfl), rfl⟩, List.mem_filter.mpr ⟨dq_m1 1 (by rfl), rfl⟩⟩
set_option maxRecDepth 1000000 in
theorem mf_X11_claimantOf : pv_mf mX11_claimantOf := ⟨List.mem_filter.mpr ⟨dq_m4 206 (by rfl), rfl⟩, List.mem_filter.mpr ⟨dq_m1 1 (by rfl), rfl⟩⟩
set_option maxRecDepth 1000000 in
theorem mf_X11_hungCell : pv_mf mX11_hungCell := ⟨List.mem_filter.mpr ⟨dq_m3 34 (by rfl), rfl⟩, List.mem_filter.mpr ⟨dq_m1 1 (by rfl), rfl⟩⟩
set_option maxRecDepth 1000000 in
theorem mf_X11_within : pv_mf mX11_within := ⟨List.mem_filter.mpr ⟨dq_m3 14 (by rfl), rfl⟩, List.mem_filter.mpr ⟨dq_m1 1 (by rfl), rfl⟩⟩
set_option maxRecDepth 1000000 in
theorem mf_X11_isColumn : pv_mf mX11_isColumn := ⟨List.mem_filter.mpr ⟨dq_m3 11 (by rfl), rfl⟩, List.mem_filter.mpr ⟨dq_m1 1 (by rfl), rfl⟩⟩
set_option maxRecDepth 1000000 in
theorem mf_X11_isPerson : pv_mf mX11_isPerson := ⟨List.mem_filter.mpr ⟨dq_m3 60 (by rfl), rfl⟩, List.mem_filter.mpr ⟨dq_m1 1 (by rfl), rfl⟩⟩
set_option maxRecDepth 1000000 in
theorem mf_X11_isCell : pv_mf mX11_isCell := ⟨List.mem_filter.mpr ⟨dq_m3 8 (by rfl), rfl⟩, List.mem_filter.mpr ⟨dq_m1 1 (by rfl), rfl⟩⟩
set_option maxRecDepth 1000000 in
theorem mf_X11_isTold : pv_mf mX11_isTold := ⟨List.mem_filter.mpr ⟨dq_m5 10 (by rfl), rfl⟩, List.mem_filter.mpr ⟨dq_m1 1 (by rfl), rfl⟩⟩
set_option maxRecDepth 1000000 in
theorem mf_X11_toldCells : pv_mf mX11_toldCells := ⟨List.mem_filter.mpr ⟨dq_m5 1 (by rfl), rfl⟩, List.mem_filter.mpr ⟨dq_m1 1 (by rfl), rfl⟩⟩
