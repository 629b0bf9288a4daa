set_option maxRecDepth 1000000 in
theorem mf_X12_reckon : pv_mf mX12_reckon := ⟨List.mem_filter.mpr ⟨List.mem_of_getElem? (i := 1718) (by rfl), rfl⟩, List.mem_filter.mpr ⟨List.mem_of_getElem? (i := 159) (by rfl), rfl⟩⟩
set_option maxRecDepth 1000000 in
theorem mf_X12_comesTo : pv_mf mX12_comesTo := ⟨List.mem_filter.mpr ⟨List.mem_of_getElem? (i := 1715) (by rfl), rfl⟩, List.mem_filter.mpr ⟨List.mem_of_getElem? (i := 159) (by rfl), rfl⟩⟩
set_option maxRecDepth 1000000 in
theorem mf_X12_told : pv_mf mX12_told := ⟨List.mem_filter.mpr ⟨List.mem_of_getElem? (i := 1711) (by rfl), rfl⟩, List.mem_filter.mpr ⟨List.mem_of_getElem? (i := 159) (by rfl), rfl⟩⟩
set_option maxRecDepth 1000000 in
theorem mf_X12_feelsCell : pv_mf mX12_feelsCell := ⟨List.mem_filter.mpr ⟨List.mem_of_getElem? (i := 1699) (by rfl), rfl⟩, List.mem_filter.mpr ⟨List.mem_of_getElem? (i := 159) (by rfl), rfl⟩⟩
set_option maxRecDepth 1000000 in
theorem mf_X12_feelsCrop : pv_mf mX12_feelsCrop := ⟨List.mem_filter.mpr ⟨List.mem_of_getElem? (i := 1707) (by rfl), rfl⟩, List.mem_filter.mpr ⟨List.mem_of_getElem? (i := 159) (by rfl), rfl⟩⟩
set_option maxRecDepth 1000000 in
theorem mf_X12_isRipe : pv_mf mX12_isRipe := ⟨List.mem_filter.mpr ⟨List.mem_of_getElem? (i := 1703) (by rfl), rfl⟩, List.mem_filter.mpr ⟨List.mem_of_getElem? (i := 159) (by rfl), rfl⟩⟩
set_option maxRecDepth 1000000 in
theorem mf_X12_feels : pv_mf mX12_feels := ⟨List.mem_filter.mpr ⟨List.mem_of_getElem? (i := 1695) (by rfl), rfl⟩, List.mem_filter.mpr ⟨List.mem_of_getElem? (i := 159) (by rfl), rfl⟩⟩
set_option maxRecDepth 1000000 in
theorem mf_X12_asked : pv_mf mX12_asked := ⟨List.mem_filter.mpr ⟨List.mem_of_getElem? (i := 1691) (by rfl), rfl⟩, List.mem_filter.mpr ⟨List.mem_of_getElem? (i := 159) (by rfl), rfl⟩⟩
set_option maxRecDepth 1000000 in
theorem mf_X12_byLaw : pv_mf mX12_byLaw := ⟨List.mem_filter.mpr ⟨List.mem_of_getElem? (i := 1687) (by rfl), rfl⟩, List.mem_filter.mpr ⟨List.mem_of_getElem? (i := 159) (by rfl), rfl⟩⟩
set_option maxRecDepth 1000000 in
theorem mf_X12_sends : pv_mf mX12_sends := ⟨List.mem_filter.mpr ⟨List.mem_of_getElem? (i := 1734) (by rfl), rfl⟩, List.mem_filter.mpr ⟨List.mem_of_getElem? (i := 159) (by rfl), rfl⟩⟩
set_option maxRecDepth 1000000 in
theorem mf_X12_drips : pv_mf mX12_drips := ⟨List.mem_filter.mpr ⟨List.mem_of_getElem? (i := 1730) (by rfl), rfl⟩, List.mem_filter.mpr ⟨List.mem_of_getElem? (i := 159) (by rfl), rfl⟩⟩
set_option maxRecDepth 1000000 in
theorem mf_X12_flows : pv_mf mX12_flows := ⟨List.mem_filter.mpr ⟨List.mem_of_getElem? (i := 1726) (by rfl), rfl⟩, List.mem_filter.mpr ⟨List.mem_of_getElem? (i := 159) (by rfl), rfl⟩⟩
set_option maxRecDepth 1000000 in
theorem mf_X12_water : pv_mf mX12_water := ⟨List.mem_filter.mpr ⟨List.mem_of_getElem? (i := 1722) (by rfl), rfl⟩, List.mem_filter.mpr ⟨List.mem_of_getElem? (i := 159) (by rfl), rfl⟩⟩
set_option maxRecDepth 1000000 in
theorem mf_X12_ownLoad : pv_mf mX12_ownLoad := ⟨List.mem_filter.mpr ⟨List.mem_of_getElem? (i := 1749) (by rfl), rfl⟩, List.mem_filter.mpr ⟨List.mem_of_getElem? (i := 159) (by rfl), rfl⟩⟩
set_option maxRecDepth 1000000 in
theorem mf_X12_loadOf : pv_mf mX12_loadOf := ⟨List.mem_filter.mpr ⟨List.mem_of_getElem? (i := 1745) (by rfl), rfl⟩, List.mem_filter.mpr ⟨List.mem_of_getElem? (i := 159) (by rfl), rfl⟩⟩
set_option maxRecDepth 1000000 in
theorem mf_X12_cell : pv_mf mX12_cell := ⟨List.mem_filter.mpr ⟨List.mem_of_getElem? (i := 1741) (by rfl), rfl⟩, List.mem_filter.mpr ⟨List.mem_of_getElem? (i := 159) (by rfl), rfl⟩⟩
set_option maxRecDepth 1000000 in
theorem mf_X12_catcher : pv_mf mX12_catcher := ⟨List.mem_filter.mpr ⟨List.mem_of_getElem? (i := 1761) (by rfl), rfl⟩, List.mem_filter.mpr ⟨List.mem_of_getElem? (i := 159) (by rfl), rfl⟩⟩
set_option maxRecDepth 1000000 in
theorem mf_X12_writes : pv_mf mX12_writes := ⟨List.mem_filter.mpr ⟨List.mem_of_getElem? (i := 1765) (by rfl), rfl⟩, List.mem_filter.mpr ⟨List.mem_of_getElem? (i := 159) (by rfl), rfl⟩⟩
set_option maxRecDepth 1000000 in
theorem mf_X12_falls : pv_mf mX12_falls := ⟨List.mem_filter.mpr ⟨List.mem_of_getElem? (i := 1757) (by rfl), rfl⟩, List.mem_filter.mpr ⟨List.mem_of_getElem? (i := 159) (by rfl), rfl⟩⟩
set_option maxRecDepth 1000000 in
theorem mf_X12_fall : pv_mf mX12_fall := ⟨List.mem_filter.mpr ⟨List.mem_of_getElem? (i := 1753) (by rfl), rfl⟩, List.mem_filter.mpr ⟨List.mem_of_getElem? (i := 159) (by rfl), rfl⟩⟩
set_option maxRecDepth 1000000 in
theorem mf_X12_firstGoing : pv_mf mX12_firstGoing := ⟨List.mem_filter.mpr ⟨List.mem_of_getElem? (i := 1773) (by rfl), rfl⟩, List.mem_filter.mpr ⟨List.mem_of_getElem? (i := 159) (by rfl), rfl⟩⟩
set_option maxRecDepth 1000000 in
theorem mf_X12_tears : pv_mf mX12_tears := ⟨List.mem_filter.mpr ⟨List.mem_of_getElem? (i := 1781) (by rfl), rfl⟩, List.mem_filter.mpr ⟨List.mem_of_getElem? (i := 159) (by rfl), rfl⟩⟩
set_option maxRecDepth 1000000 in
theorem mf_X12_goesOff : pv_mf mX12_goesOff := ⟨List.mem_filter.mpr ⟨List.mem_of_getElem? (i := 1777) (by rfl), rfl⟩, List.mem_filter.mpr ⟨List.mem_of_getElem? (i := 159) (by rfl), rfl⟩⟩
set_option maxRecDepth 1000000 in
theorem mf_X12_go : pv_mf mX12_go := ⟨List.mem_filter.mpr ⟨List.mem_of_getElem? (i := 1769) (by rfl), rfl⟩, List.mem_filter.mpr ⟨List.mem_of_getElem? (i := 159) (by rfl), rfl⟩⟩
set_option maxRecDepth 1000000 in
theorem mf_X12_torn : pv_mf mX12_torn := ⟨List.mem_filter.mpr ⟨List.mem_of_getElem? (i := 1788) (by rfl), rfl⟩, List.mem_filter.mpr ⟨List.mem_of_getElem? (i := 159) (by rfl), rfl⟩⟩
set_option maxRecDepth 1000000 in
theorem mf_X12_day : pv_mf mX12_day := ⟨List.mem_filter.mpr ⟨List.mem_of_getElem? (i := 1793) (by rfl), rfl⟩, List.mem_filter.mpr ⟨List.mem_of_getElem? (i := 159) (by rfl), rfl⟩⟩
set_option maxRecDepth 1000000 in
theorem mf_X12_isFall : pv_mf mX12_isFall := ⟨List.mem_filter.mpr ⟨List.mem_of_getElem? (i := 1804) (by rfl), rfl⟩, List.mem_filter.mpr ⟨List.mem_of_getElem? (i := 159) (by rfl), rfl⟩⟩
set_option maxRecDepth 1000000 in
theorem mf_X12_fallIs : pv_mf mX12_fallIs := ⟨List.mem_filter.mpr ⟨List.mem_of_getElem? (i := 1800) (by rfl), rfl⟩, List.mem_filter.mpr ⟨List.mem_of_getElem? (i := 159) (by rfl), rfl⟩⟩
set_option maxRecDepth 1000000 in
theorem mf_X12_claimer : pv_mf mX12_claimer := ⟨List.mem_filter.mpr ⟨List.mem_of_getElem? (i := 1812) (by rfl), rfl⟩, List.mem_filter.mpr ⟨List.mem_of_getElem? (i := 159) (by rfl), rfl⟩⟩
set_option maxRecDepth 1000000 in
theorem mf_X12_claimed : pv_mf mX12_claimed := ⟨List.mem_filter.mpr ⟨List.mem_of_getElem? (i := 1808) (by rfl), rfl⟩, List.mem_filter.mpr ⟨List.mem_of_getElem? (i := 159) (by rfl), rfl⟩⟩
set_option maxRecDepth 1000000 in
theorem mf_X12_right : pv_mf mX12_right := ⟨List.mem_filter.mpr ⟨List.mem_of_getElem? (i := 1816) (by rfl), rfl⟩, List.mem_filter.mpr ⟨List.mem_of_getElem? (i := 159) (by rfl), rfl⟩⟩
set_option maxRecDepth 1000000 in
theorem mf_X12_food : pv_mf mX12_food := ⟨List.mem_filter.mpr ⟨List.mem_of_getElem? (i := 1820) (by rfl), rfl⟩, List.mem_filter.mpr ⟨List.mem_of_getElem? (i := 159) (by rfl), rfl⟩⟩
set_option maxRecDepth 1000000 in
theorem mf_X12_kitchenIs : pv_mf mX12_kitchenIs := ⟨List.mem_filter.mpr ⟨List.mem_of_getElem? (i := 1824) (by rfl), rfl⟩, List.mem_filter.mpr ⟨List.mem_of_getElem? (i := 159) (by rfl), rfl⟩⟩
set_option maxRecDepth 1000000 in
theorem mf_X12_lays : pv_mf mX12_lays := ⟨List.mem_filter.mpr ⟨List.mem_of_getElem? (i := 1840) (by rfl), rfl⟩, List.mem_filter.mpr ⟨List.mem_of_getElem? (i := 159) (by rfl), rfl⟩⟩
set_option maxRecDepth 1000000 in
theorem mf_X12_mayBe : pv_mf mX12_mayBe := ⟨List.mem_filter.mpr ⟨List.mem_of_getElem? (i := 1832) (by rfl), rfl⟩, List.mem_filter.mpr ⟨List.mem_of_getElem? (i := 159) (by rfl), rfl⟩⟩
set_option maxRecDepth 1000000 in
theorem mf_X12_mayWork : pv_mf mX12_mayWork := ⟨List.mem_filter.mpr ⟨List.mem_of_getElem? (i := 1828) (by rfl), rfl⟩, List.mem_filter.mpr ⟨List.mem_of_getElem? (i := 159) (by rfl), rfl⟩⟩
set_option maxRecDepth 1000000 in
theorem mf_X12_apart : pv_mf mX12_apart := ⟨List.mem_filter.mpr ⟨List.mem_of_getElem? (i := 1852) (by rfl), rfl⟩, List.mem_filter.mpr ⟨List.mem_of_getElem? (i := 159) (by rfl), rfl⟩⟩
set_option maxRecDepth 1000000 in
theorem mf_X12_way : pv_mf mX12_way := ⟨List.mem_filter.mpr ⟨List.mem_of_getElem? (i := 1849) (by rfl), rfl⟩, List.mem_filter.mpr ⟨List.mem_of_getElem? (i := 159) (by rfl), rfl⟩⟩
set_option maxRecDepth 1000000 in
theorem mf_X12_laysHours : pv_mf mX12_laysHours := ⟨List.mem_filter.mpr ⟨List.mem_of_getElem? (i := 1845) (by rfl), rfl⟩, List.mem_filter.mpr ⟨List.mem_of_getElem? (i := 159) (by rfl), rfl⟩⟩
set_option maxRecDepth 1000000 in
theorem mf_X12_work : pv_mf mX12_work := ⟨List.mem_filter.mpr ⟨List.mem_of_getElem? (i := 1836) (by rfl), rfl⟩, List.mem_filter.mpr ⟨List.mem_of_getElem? (i := 159) (by rfl), rfl⟩⟩
set_option maxRecDepth 1000000 in
theorem mf_X12_hasKind : pv_mf mX12_hasKind := ⟨List.mem_filter.mpr ⟨List.mem_of_getElem? (i := 1864) (by rfl), rfl⟩, List.mem_filter.mpr ⟨List.mem_of_getElem? (i := 159) (by rfl), rfl⟩⟩
set_option maxRecDepth 1000000 in
theorem mf_X12_takesUp : pv_mf mX12_takesUp := ⟨List.mem_filter.mpr ⟨List.mem_of_getElem? (i := 1860) (by rfl), rfl⟩, List.mem_filter.mpr ⟨List.mem_of_getElem? (i := 159) (by rfl), rfl⟩⟩
set_option maxRecDepth 1000000 in
theorem mf_X12_moved : pv_mf mX12_moved := ⟨List.mem_filter.mpr ⟨List.mem_of_getElem? (i := 1871) (by rfl), rfl⟩, List.mem_filter.mpr ⟨List.mem_of_getElem? (i := 159) (by rfl), rfl⟩⟩
set_option maxRecDepth 1000000 in
theorem mf_X12_flies : pv_mf mX12_flies := ⟨List.mem_filter.mpr ⟨List.mem_of_getElem? (i := 1868) (by rfl), rfl⟩, List.mem_filter.mpr ⟨List.mem_of_getElem? (i := 159) (by rfl), rfl⟩⟩
set_option maxRecDepth 1000000 in
theorem mf_X12_gcd : pv_mf mX12_gcd := ⟨List.mem_filter.mpr ⟨List.mem_of_getElem? (i := 1875) (by rfl), rfl⟩, List.mem_filter.mpr ⟨List.mem_of_getElem? (i := 159) (by rfl), rfl⟩⟩
set_option maxRecDepth 1000000 in
theorem mf_X12_pollen : pv_mf mX12_pollen := ⟨List.mem_filter.mpr ⟨List.mem_of_getElem? (i := 1856) (by rfl), rfl⟩, List.mem_filter.mpr ⟨List.mem_of_getElem? (i := 159) (by rfl), rfl⟩⟩
set_option maxRecDepth 1000000 in
theorem mf_X12_pollinate : pv_mf mX12_pollinate := ⟨List.mem_filter.mpr ⟨List.mem_of_getElem? (i := 1879) (by rfl), rfl⟩, List.mem_filter.mpr ⟨List.mem_of_getElem? (i := 159) (by rfl), rfl⟩⟩
set_option maxRecDepth 1000000 in
theorem mf_X12_bearsAll : pv_mf mX12_bearsAll := ⟨List.mem_filter.mpr ⟨List.mem_of_getElem? (i := 1891) (by rfl), rfl⟩, List.mem_filter.mpr ⟨List.mem_of_getElem? (i := 159) (by rfl), rfl⟩⟩
set_option maxRecDepth 1000000 in
theorem mf_X12_areWhole : pv_mf mX12_areWhole := ⟨List.mem_filter.mpr ⟨List.mem_of_getElem? (i := 1887) (by rfl), rfl⟩, List.mem_filter.mpr ⟨List.mem_of_getElem? (i := 159) (by rfl), rfl⟩⟩
set_option maxRecDepth 1000000 in
theorem mf_X12_planted : pv_mf mX12_planted := ⟨List.mem_filter.mpr ⟨List.mem_of_getElem? (i := 1883) (by rfl), rfl⟩, List.mem_filter.mpr ⟨List.mem_of_getElem? (i := 159) (by rfl), rfl⟩⟩
set_option maxRecDepth 1000000 in
theorem mf_X12_growth : pv_mf mX12_growth := ⟨List.mem_filter.mpr ⟨List.mem_of_getElem? (i := 1902) (by rfl), rfl⟩, List.mem_filter.mpr ⟨List.mem_of_getElem? (i := 159) (by rfl), rfl⟩⟩
set_option maxRecDepth 1000000 in
theorem mf_X12_drought : pv_mf mX12_drought := ⟨List.mem_filter.mpr ⟨List.mem_of_getElem? (i := 1895) (by rfl), rfl⟩, List.mem_filter.mpr ⟨List.mem_of_getElem? (i := 159) (by rfl), rfl⟩⟩
set_option maxRecDepth 1000000 in
theorem mf_X12_bits : pv_mf mX12_bits := ⟨List.mem_filter.mpr ⟨List.mem_of_getElem? (i := 1898) (by rfl), rfl⟩, List.mem_filter.mpr ⟨List.mem_of_getElem? (i := 159) (by rfl), rfl⟩⟩
set_option maxRecDepth 1000000 in
theorem mf_X12_takesOf : pv_mf mX12_takesOf := ⟨List.mem_filter.mpr ⟨List.mem_of_getElem? (i := 1921) (by rfl), rfl⟩, List.mem_filter.mpr ⟨List.mem_of_getElem? (i := 159) (by rfl), rfl⟩⟩
set_option maxRecDepth 1000000 in
theorem mf_X12_hoursOf : pv_mf mX12_hoursOf := ⟨List.mem_filter.mpr ⟨List.mem_of_getElem? (i := 1918) (by rfl), rfl⟩, List.mem_filter.mpr ⟨List.mem_of_getElem? (i := 159) (by rfl), rfl⟩⟩
set_option maxRecDepth 1000000 in
theorem mf_X12_canBeNext : pv_mf mX12_canBeNext := ⟨List.mem_filter.mpr ⟨List.mem_of_getElem? (i := 1910) (by rfl), rfl⟩, List.mem_filter.mpr ⟨List.mem_of_getElem? (i := 159) (by rfl), rfl⟩⟩
set_option maxRecDepth 1000000 in
theorem mf_X12_costBy : pv_mf mX12_costBy := ⟨List.mem_filter.mpr ⟨List.mem_of_getElem? (i := 1914) (by rfl), rfl⟩, List.mem_filter.mpr ⟨List.mem_of_getElem? (i := 159) (by rfl), rfl⟩⟩
set_option maxRecDepth 1000000 in
theorem mf_X12_mended : pv_mf mX12_mended := ⟨List.mem_filter.mpr ⟨List.mem_of_getElem? (i := 1906) (by rfl), rfl⟩, List.mem_filter.mpr ⟨List.mem_of_getElem? (i := 159) (by rfl), rfl⟩⟩
set_option maxRecDepth 1000000 in
theorem mf_X12_isHit : pv_mf mX12_isHit := ⟨List.mem_filter.mpr ⟨List.mem_of_getElem? (i := 1929) (by rfl), rfl⟩, List.mem_filter.mpr ⟨List.mem_of_getElem? (i := 159) (by rfl), rfl⟩⟩
set_option maxRecDepth 1000000 in
theorem mf_X12_hail : pv_mf mX12_hail := ⟨List.mem_filter.mpr ⟨List.mem_of_getElem? (i := 1925) (by rfl), rfl⟩, List.mem_filter.mpr ⟨List.mem_of_getElem? (i := 159) (by rfl), rfl⟩⟩
set_option maxRecDepth 1000000 in
theorem mf_X12_tapeNumber : pv_mf mX12_tapeNumber := ⟨List.mem_filter.mpr ⟨List.mem_of_getElem? (i := 1937) (by rfl), rfl⟩, List.mem_filter.mpr ⟨List.mem_of_getElem? (i := 159) (by rfl), rfl⟩⟩
set_option maxRecDepth 1000000 in
theorem mf_X12_check : pv_mf mX12_check := ⟨List.mem_filter.mpr ⟨List.mem_of_getElem? (i := 1933) (by rfl), rfl⟩, List.mem_filter.mpr ⟨List.mem_of_getElem? (i := 159) (by rfl), rfl⟩⟩
set_option maxRecDepth 1000000 in
theorem mf_X12_cells : pv_mf mX12_cells := ⟨List.mem_filter.mpr ⟨List.mem_of_getElem? (i := 1945) (by rfl), rfl⟩, List.mem_filter.mpr ⟨List.mem_of_getElem? (i := 159) (by rfl), rfl⟩⟩
set_option maxRecDepth 1000000 in
theorem mf_X12_count : pv_mf mX12_count := ⟨List.mem_filter.mpr ⟨List.mem_of_getElem? (i := 1941) (by rfl), rfl⟩, List.mem_filter.mpr ⟨List.mem_of_getElem? (i := 159) (by rfl), rfl⟩⟩
set_option maxRecDepth 1000000 in
theorem mf_J6_bitCount_0f7a4 : pv_mf mJ6_bitCount_0f7a4 := ⟨List.mem_filter.mpr ⟨List.mem_of_getElem? (i := 1233) (by rfl), rfl⟩, List.mem_filter.mpr ⟨List.mem_of_getElem? (i := 168) (by rfl), rfl⟩⟩
set_option maxRecDepth 1000000 in
theorem mf_J13_bitCount_95d88 : pv_mf mJ13_bitCount_95d88 := ⟨List.mem_filter.mpr ⟨List.mem_of_getElem? (i := 1109) (by rfl), rfl⟩, List.mem_filter.mpr ⟨List.mem_of_getElem? (i := 167) (by rfl), rfl⟩⟩
set_option maxRecDepth 1000000 in
theorem mf_J7_fill_53178 : pv_mf mJ7_fill_53178 := ⟨List.mem_filter.mpr ⟨List.mem_of_getElem? (i := 185) (by rfl), rfl⟩, List.mem_filter.mpr ⟨List.mem_of_getElem? (i := 148) (by rfl), rfl⟩⟩

