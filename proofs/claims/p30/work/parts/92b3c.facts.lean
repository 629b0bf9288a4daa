set_option maxRecDepth 1000000 in
theorem mf_X12_in : pv_mf mX12_in := ⟨List.mem_filter.mpr ⟨List.mem_of_getElem? (i := 1549) (by rfl), rfl⟩, List.mem_filter.mpr ⟨List.mem_of_getElem? (i := 159) (by rfl), rfl⟩⟩
set_option maxRecDepth 1000000 in
theorem mf_X12_less : pv_mf mX12_less := ⟨List.mem_filter.mpr ⟨List.mem_of_getElem? (i := 1737) (by rfl), rfl⟩, List.mem_filter.mpr ⟨List.mem_of_getElem? (i := 159) (by rfl), rfl⟩⟩
set_option maxRecDepth 1000000 in
theorem mf_X12_more : pv_mf mX12_more := ⟨List.mem_filter.mpr ⟨List.mem_of_getElem? (i := 1784) (by rfl), rfl⟩, List.mem_filter.mpr ⟨List.mem_of_getElem? (i := 159) (by rfl), rfl⟩⟩
set_option maxRecDepth 1000000 in
theorem mf_X12_isCell : pv_mf mX12_isCell := ⟨List.mem_filter.mpr ⟨List.mem_of_getElem? (i := 1546) (by rfl), rfl⟩, List.mem_filter.mpr ⟨List.mem_of_getElem? (i := 159) (by rfl), rfl⟩⟩
set_option maxRecDepth 1000000 in
theorem mf_X12_at : pv_mf mX12_at := ⟨List.mem_filter.mpr ⟨List.mem_of_getElem? (i := 1552) (by rfl), rfl⟩, List.mem_filter.mpr ⟨List.mem_of_getElem? (i := 159) (by rfl), rfl⟩⟩
set_option maxRecDepth 1000000 in
theorem mf_X12_isHung : pv_mf mX12_isHung := ⟨List.mem_filter.mpr ⟨List.mem_of_getElem? (i := 1564) (by rfl), rfl⟩, List.mem_filter.mpr ⟨List.mem_of_getElem? (i := 159) (by rfl), rfl⟩⟩
set_option maxRecDepth 1000000 in
theorem mf_X12_hang : pv_mf mX12_hang := ⟨List.mem_filter.mpr ⟨List.mem_of_getElem? (i := 1543) (by rfl), rfl⟩, List.mem_filter.mpr ⟨List.mem_of_getElem? (i := 159) (by rfl), rfl⟩⟩
set_option maxRecDepth 1000000 in
theorem mf_X12_empties : pv_mf mX12_empties := ⟨List.mem_filter.mpr ⟨List.mem_of_getElem? (i := 1556) (by rfl), rfl⟩, List.mem_filter.mpr ⟨List.mem_of_getElem? (i := 159) (by rfl), rfl⟩⟩
set_option maxRecDepth 1000000 in
theorem mf_X12_knot : pv_mf mX12_knot := ⟨List.mem_filter.mpr ⟨List.mem_of_getElem? (i := 1560) (by rfl), rfl⟩, List.mem_filter.mpr ⟨List.mem_of_getElem? (i := 159) (by rfl), rfl⟩⟩
set_option maxRecDepth 1000000 in
theorem mf_X12_kind : pv_mf mX12_kind := ⟨List.mem_filter.mpr ⟨List.mem_of_getElem? (i := 1568) (by rfl), rfl⟩, List.mem_filter.mpr ⟨List.mem_of_getElem? (i := 159) (by rfl), rfl⟩⟩
set_option maxRecDepth 1000000 in
theorem mf_X12_plant : pv_mf mX12_plant := ⟨List.mem_filter.mpr ⟨List.mem_of_getElem? (i := 1572) (by rfl), rfl⟩, List.mem_filter.mpr ⟨List.mem_of_getElem? (i := 159) (by rfl), rfl⟩⟩
set_option maxRecDepth 1000000 in
theorem mf_X12_valve : pv_mf mX12_valve := ⟨List.mem_filter.mpr ⟨List.mem_of_getElem? (i := 1576) (by rfl), rfl⟩, List.mem_filter.mpr ⟨List.mem_of_getElem? (i := 159) (by rfl), rfl⟩⟩
set_option maxRecDepth 1000000 in
theorem mf_X12_kitchen : pv_mf mX12_kitchen := ⟨List.mem_filter.mpr ⟨List.mem_of_getElem? (i := 1580) (by rfl), rfl⟩, List.mem_filter.mpr ⟨List.mem_of_getElem? (i := 159) (by rfl), rfl⟩⟩
set_option maxRecDepth 1000000 in
theorem mf_X12_rope : pv_mf mX12_rope := ⟨List.mem_filter.mpr ⟨List.mem_of_getElem? (i := 1584) (by rfl), rfl⟩, List.mem_filter.mpr ⟨List.mem_of_getElem? (i := 159) (by rfl), rfl⟩⟩
set_option maxRecDepth 1000000 in
theorem mf_X12_seed : pv_mf mX12_seed := ⟨List.mem_filter.mpr ⟨List.mem_of_getElem? (i := 1588) (by rfl), rfl⟩, List.mem_filter.mpr ⟨List.mem_of_getElem? (i := 159) (by rfl), rfl⟩⟩
set_option maxRecDepth 1000000 in
theorem mf_X12_types : pv_mf mX12_types := ⟨List.mem_filter.mpr ⟨List.mem_of_getElem? (i := 1597) (by rfl), rfl⟩, List.mem_filter.mpr ⟨List.mem_of_getElem? (i := 159) (by rfl), rfl⟩⟩
set_option maxRecDepth 1000000 in
theorem mf_X12_feed : pv_mf mX12_feed := ⟨List.mem_filter.mpr ⟨List.mem_of_getElem? (i := 1593) (by rfl), rfl⟩, List.mem_filter.mpr ⟨List.mem_of_getElem? (i := 159) (by rfl), rfl⟩⟩
set_option maxRecDepth 1000000 in
theorem mf_X12_here : pv_mf mX12_here := ⟨List.mem_filter.mpr ⟨List.mem_of_getElem? (i := 1609) (by rfl), rfl⟩, List.mem_filter.mpr ⟨List.mem_of_getElem? (i := 159) (by rfl), rfl⟩⟩
set_option maxRecDepth 1000000 in
theorem mf_X12_isDigit : pv_mf mX12_isDigit := ⟨List.mem_filter.mpr ⟨List.mem_of_getElem? (i := 1633) (by rfl), rfl⟩, List.mem_filter.mpr ⟨List.mem_of_getElem? (i := 159) (by rfl), rfl⟩⟩
set_option maxRecDepth 1000000 in
theorem mf_X12_wrongAt : pv_mf mX12_wrongAt := ⟨List.mem_filter.mpr ⟨List.mem_of_getElem? (i := 1616) (by rfl), rfl⟩, List.mem_filter.mpr ⟨List.mem_of_getElem? (i := 159) (by rfl), rfl⟩⟩
set_option maxRecDepth 1000000 in
theorem mf_X12_takes : pv_mf mX12_takes := ⟨List.mem_filter.mpr ⟨List.mem_of_getElem? (i := 1683) (by rfl), rfl⟩, List.mem_filter.mpr ⟨List.mem_of_getElem? (i := 159) (by rfl), rfl⟩⟩
set_option maxRecDepth 1000000 in
theorem mf_X12_readsNumber : pv_mf mX12_readsNumber := ⟨List.mem_filter.mpr ⟨List.mem_of_getElem? (i := 1637) (by rfl), rfl⟩, List.mem_filter.mpr ⟨List.mem_of_getElem? (i := 159) (by rfl), rfl⟩⟩
set_option maxRecDepth 1000000 in
theorem mf_X12_notes : pv_mf mX12_notes := ⟨List.mem_filter.mpr ⟨List.mem_of_getElem? (i := 1641) (by rfl), rfl⟩, List.mem_filter.mpr ⟨List.mem_of_getElem? (i := 159) (by rfl), rfl⟩⟩
set_option maxRecDepth 1000000 in
theorem mf_X12_opens : pv_mf mX12_opens := ⟨List.mem_filter.mpr ⟨List.mem_of_getElem? (i := 1628) (by rfl), rfl⟩, List.mem_filter.mpr ⟨List.mem_of_getElem? (i := 159) (by rfl), rfl⟩⟩
set_option maxRecDepth 1000000 in
theorem mf_X12_top : pv_mf mX12_top := ⟨List.mem_filter.mpr ⟨List.mem_of_getElem? (i := 1655) (by rfl), rfl⟩, List.mem_filter.mpr ⟨List.mem_of_getElem? (i := 159) (by rfl), rfl⟩⟩
set_option maxRecDepth 1000000 in
theorem mf_X12_factOf : pv_mf mX12_factOf := ⟨List.mem_filter.mpr ⟨List.mem_of_getElem? (i := 1644) (by rfl), rfl⟩, List.mem_filter.mpr ⟨List.mem_of_getElem? (i := 159) (by rfl), rfl⟩⟩
set_option maxRecDepth 1000000 in
theorem mf_X12_sumSign : pv_mf mX12_sumSign := ⟨List.mem_filter.mpr ⟨List.mem_of_getElem? (i := 1647) (by rfl), rfl⟩, List.mem_filter.mpr ⟨List.mem_of_getElem? (i := 159) (by rfl), rfl⟩⟩
set_option maxRecDepth 1000000 in
theorem mf_X12_closesSums : pv_mf mX12_closesSums := ⟨List.mem_filter.mpr ⟨List.mem_of_getElem? (i := 1651) (by rfl), rfl⟩, List.mem_filter.mpr ⟨List.mem_of_getElem? (i := 159) (by rfl), rfl⟩⟩
set_option maxRecDepth 1000000 in
theorem mf_X12_readsFactor : pv_mf mX12_readsFactor := ⟨List.mem_filter.mpr ⟨List.mem_of_getElem? (i := 1624) (by rfl), rfl⟩, List.mem_filter.mpr ⟨List.mem_of_getElem? (i := 159) (by rfl), rfl⟩⟩
set_option maxRecDepth 1000000 in
theorem mf_X12_hasOpenSum : pv_mf mX12_hasOpenSum := ⟨List.mem_filter.mpr ⟨List.mem_of_getElem? (i := 1659) (by rfl), rfl⟩, List.mem_filter.mpr ⟨List.mem_of_getElem? (i := 159) (by rfl), rfl⟩⟩
set_option maxRecDepth 1000000 in
theorem mf_X12_readsSum : pv_mf mX12_readsSum := ⟨List.mem_filter.mpr ⟨List.mem_of_getElem? (i := 1620) (by rfl), rfl⟩, List.mem_filter.mpr ⟨List.mem_of_getElem? (i := 159) (by rfl), rfl⟩⟩
set_option maxRecDepth 1000000 in
theorem mf_X12_endsPiece : pv_mf mX12_endsPiece := ⟨List.mem_filter.mpr ⟨List.mem_of_getElem? (i := 1671) (by rfl), rfl⟩, List.mem_filter.mpr ⟨List.mem_of_getElem? (i := 159) (by rfl), rfl⟩⟩
set_option maxRecDepth 1000000 in
theorem mf_X12_lands : pv_mf mX12_lands := ⟨List.mem_filter.mpr ⟨List.mem_of_getElem? (i := 1675) (by rfl), rfl⟩, List.mem_filter.mpr ⟨List.mem_of_getElem? (i := 159) (by rfl), rfl⟩⟩
set_option maxRecDepth 1000000 in
theorem mf_X12_jumps : pv_mf mX12_jumps := ⟨List.mem_filter.mpr ⟨List.mem_of_getElem? (i := 1679) (by rfl), rfl⟩, List.mem_filter.mpr ⟨List.mem_of_getElem? (i := 159) (by rfl), rfl⟩⟩
set_option maxRecDepth 1000000 in
theorem mf_X12_readsCompared : pv_mf mX12_readsCompared := ⟨List.mem_filter.mpr ⟨List.mem_of_getElem? (i := 1667) (by rfl), rfl⟩, List.mem_filter.mpr ⟨List.mem_of_getElem? (i := 159) (by rfl), rfl⟩⟩
set_option maxRecDepth 1000000 in
theorem mf_X12_readsCondition : pv_mf mX12_readsCondition := ⟨List.mem_filter.mpr ⟨List.mem_of_getElem? (i := 1663) (by rfl), rfl⟩, List.mem_filter.mpr ⟨List.mem_of_getElem? (i := 159) (by rfl), rfl⟩⟩
set_option maxRecDepth 1000000 in
theorem mf_X12_canBegin : pv_mf mX12_canBegin := ⟨List.mem_filter.mpr ⟨List.mem_of_getElem? (i := 1612) (by rfl), rfl⟩, List.mem_filter.mpr ⟨List.mem_of_getElem? (i := 159) (by rfl), rfl⟩⟩
set_option maxRecDepth 1000000 in
theorem mf_X12_readsClause : pv_mf mX12_readsClause := ⟨List.mem_filter.mpr ⟨List.mem_of_getElem? (i := 1605) (by rfl), rfl⟩, List.mem_filter.mpr ⟨List.mem_of_getElem? (i := 159) (by rfl), rfl⟩⟩
set_option maxRecDepth 1000000 in
theorem mf_X12_law : pv_mf mX12_law := ⟨List.mem_filter.mpr ⟨List.mem_of_getElem? (i := 1601) (by rfl), rfl⟩, List.mem_filter.mpr ⟨List.mem_of_getElem? (i := 159) (by rfl), rfl⟩⟩

