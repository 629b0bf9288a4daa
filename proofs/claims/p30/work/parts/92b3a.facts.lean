set_option maxRecDepth 1000000 in
theorem mf_X11_mayWork : pv_mf mX11_mayWork := ⟨List.mem_filter.mpr ⟨List.mem_of_getElem? (i := 1095) (by rfl), rfl⟩, List.mem_filter.mpr ⟨List.mem_of_getElem? (i := 146) (by rfl), rfl⟩⟩
set_option maxRecDepth 1000000 in
theorem mf_X11_work : pv_mf mX11_work := ⟨List.mem_filter.mpr ⟨List.mem_of_getElem? (i := 1103) (by rfl), rfl⟩, List.mem_filter.mpr ⟨List.mem_of_getElem? (i := 146) (by rfl), rfl⟩⟩
set_option maxRecDepth 1000000 in
theorem mf_X11_pollen : pv_mf mX11_pollen := ⟨List.mem_filter.mpr ⟨List.mem_of_getElem? (i := 1165) (by rfl), rfl⟩, List.mem_filter.mpr ⟨List.mem_of_getElem? (i := 146) (by rfl), rfl⟩⟩
set_option maxRecDepth 1000000 in
theorem mf_X11_pollinate : pv_mf mX11_pollinate := ⟨List.mem_filter.mpr ⟨List.mem_of_getElem? (i := 1189) (by rfl), rfl⟩, List.mem_filter.mpr ⟨List.mem_of_getElem? (i := 146) (by rfl), rfl⟩⟩
set_option maxRecDepth 1000000 in
theorem mf_X11_planted : pv_mf mX11_planted := ⟨List.mem_filter.mpr ⟨List.mem_of_getElem? (i := 1193) (by rfl), rfl⟩, List.mem_filter.mpr ⟨List.mem_of_getElem? (i := 146) (by rfl), rfl⟩⟩
set_option maxRecDepth 1000000 in
theorem mf_X11_drought : pv_mf mX11_drought := ⟨List.mem_filter.mpr ⟨List.mem_of_getElem? (i := 1230) (by rfl), rfl⟩, List.mem_filter.mpr ⟨List.mem_of_getElem? (i := 146) (by rfl), rfl⟩⟩
set_option maxRecDepth 1000000 in
theorem mf_X11_mended : pv_mf mX11_mended := ⟨List.mem_filter.mpr ⟨List.mem_of_getElem? (i := 1264) (by rfl), rfl⟩, List.mem_filter.mpr ⟨List.mem_of_getElem? (i := 146) (by rfl), rfl⟩⟩
set_option maxRecDepth 1000000 in
theorem mf_X11_hail : pv_mf mX11_hail := ⟨List.mem_filter.mpr ⟨List.mem_of_getElem? (i := 1273) (by rfl), rfl⟩, List.mem_filter.mpr ⟨List.mem_of_getElem? (i := 146) (by rfl), rfl⟩⟩
set_option maxRecDepth 1000000 in
theorem mf_X11_check : pv_mf mX11_check := ⟨List.mem_filter.mpr ⟨List.mem_of_getElem? (i := 1281) (by rfl), rfl⟩, List.mem_filter.mpr ⟨List.mem_of_getElem? (i := 146) (by rfl), rfl⟩⟩
set_option maxRecDepth 1000000 in
theorem mf_X11_count : pv_mf mX11_count := ⟨List.mem_filter.mpr ⟨List.mem_of_getElem? (i := 1289) (by rfl), rfl⟩, List.mem_filter.mpr ⟨List.mem_of_getElem? (i := 146) (by rfl), rfl⟩⟩
set_option maxRecDepth 1000000 in
theorem mf_X11_countOfRow : pv_mf mX11_countOfRow := ⟨List.mem_filter.mpr ⟨List.mem_of_getElem? (i := 1297) (by rfl), rfl⟩, List.mem_filter.mpr ⟨List.mem_of_getElem? (i := 146) (by rfl), rfl⟩⟩
set_option maxRecDepth 1000000 in
theorem mf_X11_letWaterFlow : pv_mf mX11_letWaterFlow := ⟨List.mem_filter.mpr ⟨List.mem_of_getElem? (i := 936) (by rfl), rfl⟩, List.mem_filter.mpr ⟨List.mem_of_getElem? (i := 146) (by rfl), rfl⟩⟩
set_option maxRecDepth 1000000 in
theorem mf_X11_letCropsGrow : pv_mf mX11_letCropsGrow := ⟨List.mem_filter.mpr ⟨List.mem_of_getElem? (i := 1029) (by rfl), rfl⟩, List.mem_filter.mpr ⟨List.mem_of_getElem? (i := 146) (by rfl), rfl⟩⟩
set_option maxRecDepth 1000000 in
theorem mf_X11_letCropsFall : pv_mf mX11_letCropsFall := ⟨List.mem_filter.mpr ⟨List.mem_of_getElem? (i := 1034) (by rfl), rfl⟩, List.mem_filter.mpr ⟨List.mem_of_getElem? (i := 146) (by rfl), rfl⟩⟩
set_option maxRecDepth 1000000 in
theorem mf_X11_letKnotsAge : pv_mf mX11_letKnotsAge := ⟨List.mem_filter.mpr ⟨List.mem_of_getElem? (i := 1038) (by rfl), rfl⟩, List.mem_filter.mpr ⟨List.mem_of_getElem? (i := 146) (by rfl), rfl⟩⟩
set_option maxRecDepth 1000000 in
theorem mf_X11_letKnotsGo : pv_mf mX11_letKnotsGo := ⟨List.mem_filter.mpr ⟨List.mem_of_getElem? (i := 1001) (by rfl), rfl⟩, List.mem_filter.mpr ⟨List.mem_of_getElem? (i := 146) (by rfl), rfl⟩⟩
set_option maxRecDepth 1000000 in
theorem mf_X11_tearDown : pv_mf mX11_tearDown := ⟨List.mem_filter.mpr ⟨List.mem_of_getElem? (i := 1009) (by rfl), rfl⟩, List.mem_filter.mpr ⟨List.mem_of_getElem? (i := 146) (by rfl), rfl⟩⟩
set_option maxRecDepth 1000000 in
theorem mf_X11_dropCrop : pv_mf mX11_dropCrop := ⟨List.mem_filter.mpr ⟨List.mem_of_getElem? (i := 962) (by rfl), rfl⟩, List.mem_filter.mpr ⟨List.mem_of_getElem? (i := 146) (by rfl), rfl⟩⟩
set_option maxRecDepth 1000000 in
theorem mf_X11_landInKitchen : pv_mf mX11_landInKitchen := ⟨List.mem_filter.mpr ⟨List.mem_of_getElem? (i := 989) (by rfl), rfl⟩, List.mem_filter.mpr ⟨List.mem_of_getElem? (i := 146) (by rfl), rfl⟩⟩
set_option maxRecDepth 1000000 in
theorem mf_X11_claimantOf : pv_mf mX11_claimantOf := ⟨List.mem_filter.mpr ⟨List.mem_of_getElem? (i := 1071) (by rfl), rfl⟩, List.mem_filter.mpr ⟨List.mem_of_getElem? (i := 146) (by rfl), rfl⟩⟩
set_option maxRecDepth 1000000 in
theorem mf_X11_hungCell : pv_mf mX11_hungCell := ⟨List.mem_filter.mpr ⟨List.mem_of_getElem? (i := 659) (by rfl), rfl⟩, List.mem_filter.mpr ⟨List.mem_of_getElem? (i := 146) (by rfl), rfl⟩⟩
set_option maxRecDepth 1000000 in
theorem mf_X11_within : pv_mf mX11_within := ⟨List.mem_filter.mpr ⟨List.mem_of_getElem? (i := 639) (by rfl), rfl⟩, List.mem_filter.mpr ⟨List.mem_of_getElem? (i := 146) (by rfl), rfl⟩⟩
set_option maxRecDepth 1000000 in
theorem mf_X11_isColumn : pv_mf mX11_isColumn := ⟨List.mem_filter.mpr ⟨List.mem_of_getElem? (i := 636) (by rfl), rfl⟩, List.mem_filter.mpr ⟨List.mem_of_getElem? (i := 146) (by rfl), rfl⟩⟩
set_option maxRecDepth 1000000 in
theorem mf_X11_isPerson : pv_mf mX11_isPerson := ⟨List.mem_filter.mpr ⟨List.mem_of_getElem? (i := 685) (by rfl), rfl⟩, List.mem_filter.mpr ⟨List.mem_of_getElem? (i := 146) (by rfl), rfl⟩⟩
set_option maxRecDepth 1000000 in
theorem mf_X11_isCell : pv_mf mX11_isCell := ⟨List.mem_filter.mpr ⟨List.mem_of_getElem? (i := 633) (by rfl), rfl⟩, List.mem_filter.mpr ⟨List.mem_of_getElem? (i := 146) (by rfl), rfl⟩⟩
set_option maxRecDepth 1000000 in
theorem mf_X11_isTold : pv_mf mX11_isTold := ⟨List.mem_filter.mpr ⟨List.mem_of_getElem? (i := 1115) (by rfl), rfl⟩, List.mem_filter.mpr ⟨List.mem_of_getElem? (i := 146) (by rfl), rfl⟩⟩
set_option maxRecDepth 1000000 in
theorem mf_X11_toldCells : pv_mf mX11_toldCells := ⟨List.mem_filter.mpr ⟨List.mem_of_getElem? (i := 1106) (by rfl), rfl⟩, List.mem_filter.mpr ⟨List.mem_of_getElem? (i := 146) (by rfl), rfl⟩⟩
