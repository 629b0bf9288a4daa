set_option maxRecDepth 1000000 in
theorem mf_X12_in : pv_mf mX12_in := ⟨List.mem_filter.mpr ⟨dq_m6 204 (by rfl), rfl⟩, List.mem_filter.mpr ⟨dq_m1 14 (by rfl), rfl⟩⟩
set_option maxRecDepth 1000000 in
theorem mf_X12_less : pv_mf mX12_less := ⟨List.mem_filter.mpr ⟨dq_m7 152 (by rfl), rfl⟩, List.mem_filter.mpr ⟨dq_m1 14 (by rfl), rfl⟩⟩
set_option maxRecDepth 1000000 in
theorem mf_X12_more : pv_mf mX12_more := ⟨List.mem_filter.mpr ⟨dq_m7 199 (by rfl), rfl⟩, List.mem_filter.mpr ⟨dq_m1 14 (by rfl), rfl⟩⟩
set_option maxRecDepth 1000000 in
theorem mf_X12_isCell : pv_mf mX12_isCell := ⟨List.mem_filter.mpr ⟨dq_m6 201 (by rfl), rfl⟩, List.mem_filter.mpr ⟨dq_m1 14 (by rfl), rfl⟩⟩
set_option maxRecDepth 1000000 in
theorem mf_X12_at : pv_mf mX12_at := ⟨List.mem_filter.mpr ⟨dq_m6 207 (by rfl), rfl⟩, List.mem_filter.mpr ⟨dq_m1 14 (by rfl), rfl⟩⟩
set_option maxRecDepth 1000000 in
theorem mf_X12_isHung : pv_mf mX12_isHung := ⟨List.mem_filter.mpr ⟨dq_m6 219 (by rfl), rfl⟩, List.mem_filter.mpr ⟨dq_m1 14 (by rfl), rfl⟩⟩
set_option maxRecDepth 1000000 in
theorem mf_X12_hang : pv_mf mX12_hang := ⟨List.mem_filter.mpr ⟨dq_m6 198 (by rfl), rfl⟩, List.mem_filter.mpr ⟨dq_m1 14 (by rfl), rfl⟩⟩
set_option maxRecDepth 1000000 in
theorem mf_X12_empties : pv_mf mX12_empties := ⟨List.mem_filter.mpr ⟨dq_m6 211 (by rfl), rfl⟩, List.mem_filter.mpr ⟨dq_m1 14 (by rfl), rfl⟩⟩
set_option maxRecDepth 1000000 in
theorem mf_X12_knot : pv_mf mX12_knot := ⟨List.mem_filter.mpr ⟨dq_m6 215 (by rfl), rfl⟩, List.mem_filter.mpr ⟨dq_m1 14 (by rfl), rfl⟩⟩
set_option maxRecDepth 1000000 in
theorem mf_X12_kind : pv_mf mX12_kind := ⟨List.mem_filter.mpr ⟨dq_m6 223 (by rfl), rfl⟩, List.mem_filter.mpr ⟨dq_m1 14 (by rfl), rfl⟩⟩
set_option maxRecDepth 1000000 in
theorem mf_X12_plant : pv_mf mX12_plant := ⟨List.mem_filter.mpr ⟨dq_m6 227 (by rfl), rfl⟩, List.mem_filter.mpr ⟨dq_m1 14 (by rfl), rfl⟩⟩
set_option maxRecDepth 1000000 in
theorem mf_X12_valve : pv_mf mX12_valve := ⟨List.mem_filter.mpr ⟨dq_m6 231 (by rfl), rfl⟩, List.mem_filter.mpr ⟨dq_m1 14 (by rfl), rfl⟩⟩
set_option maxRecDepth 1000000 in
theorem mf_X12_kitchen : pv_mf mX12_kitchen := ⟨List.mem_filter.mpr ⟨dq_m6 235 (by rfl), rfl⟩, List.mem_filter.mpr ⟨dq_m1 14 (by rfl), rfl⟩⟩
set_option maxRecDepth 1000000 in
theorem mf_X12_rope : pv_mf mX12_rope := ⟨List.mem_filter.mpr ⟨dq_m6 239 (by rfl), rfl⟩, List.mem_filter.mpr ⟨dq_m1 14 (by rfl), rfl⟩⟩
set_option maxRecDepth 1000000 in
theorem mf_X12_seed : pv_mf mX12_seed := ⟨List.mem_filter.mpr ⟨dq_m7 3 (by rfl), rfl⟩, List.mem_filter.mpr ⟨dq_m1 14 (by rfl), rfl⟩⟩
set_option maxRecDepth 1000000 in
theorem mf_X12_types : pv_mf mX12_types := ⟨List.mem_filter.mpr ⟨dq_m7 12 (by rfl), rfl⟩, List.mem_filter.mpr ⟨dq_m1 14 (by rfl), rfl⟩⟩
set_option maxRecDepth 1000000 in
theorem mf_X12_feed : pv_mf mX12_feed := ⟨List.mem_filter.mpr ⟨dq_m7 8 (by rfl), rfl⟩, List.mem_filter.mpr ⟨dq_m1 14 (by rfl), rfl⟩⟩
set_option maxRecDepth 1000000 in
theorem mf_X12_here : pv_mf mX12_here := ⟨List.mem_filter.mpr ⟨dq_m7 24 (by rfl), rfl⟩, List.mem_filter.mpr ⟨dq_m1 14 (by rfl), rfl⟩⟩
set_option maxRecDepth 1000000 in
theorem mf_X12_isDigit : pv_mf mX12_isDigit := ⟨List.mem_filter.mpr ⟨dq_m7 48 (by rfl), rfl⟩, List.mem_filter.mpr ⟨dq_m1 14 (by rfl), rfl⟩⟩
set_option maxRecDepth 1000000 in
theorem mf_X12_wrongAt : pv_mf mX12_wrongAt := ⟨List.mem_filter.mpr ⟨dq_m7 31 (by rfl), rfl⟩, List.mem_filter.mpr ⟨dq_m1 14 (by rfl), rfl⟩⟩
set_option maxRecDepth 1000000 in
theorem mf_X12_takes : pv_mf mX12_takes := ⟨List.mem_filter.mpr ⟨dq_m7 98 (by rfl), rfl⟩, List.mem_filter.mpr ⟨dq_m1 14 (by rfl), rfl⟩⟩
set_option maxRecDepth 1000000 in
theorem mf_X12_readsNumber : pv_mf mX12_readsNumber := ⟨List.mem_filter.mpr ⟨dq_m7 52 (by rfl), rfl⟩, List.mem_filter.mpr ⟨dq_m1 14 (by rfl), rfl⟩⟩
set_option maxRecDepth 1000000 in
theorem mf_X12_notes : pv_mf mX12_notes := ⟨List.mem_filter.mpr ⟨dq_m7 56 (by rfl), rfl⟩, List.mem_filter.mpr ⟨dq_m1 14 (by rfl), rfl⟩⟩
set_option maxRecDepth 1000000 in
theorem mf_X12_opens : pv_mf mX12_opens := ⟨List.mem_filter.mpr ⟨dq_m7 43 (by rfl), rfl⟩, List.mem_filter.mpr ⟨dq_m1 14 (by rfl), rfl⟩⟩
set_option maxRecDepth 1000000 in
theorem mf_X12_top : pv_mf mX12_top := ⟨List.mem_filter.mpr ⟨dq_m7 70 (by rfl), rfl⟩, List.mem_filter.mpr ⟨dq_m1 14 (by rfl), rfl⟩⟩
set_option maxRecDepth 1000000 in
theorem mf_X12_factOf : pv_mf mX12_factOf := ⟨List.mem_filter.mpr ⟨dq_m7 59 (by rfl), rfl⟩, List.mem_filter.mpr ⟨dq_m1 14 (by rfl), rfl⟩⟩
set_option maxRecDepth 1000000 in
theorem mf_X12_sumSign : pv_mf mX12_sumSign := ⟨List.mem_filter.mpr ⟨dq_m7 62 (by rfl), rfl⟩, List.mem_filter.mpr ⟨dq_m1 14 (by rfl), rfl⟩⟩
set_option maxRecDepth 1000000 in
theorem mf_X12_closesSums : pv_mf mX12_closesSums := ⟨List.mem_filter.mpr ⟨dq_m7 66 (by rfl), rfl⟩, List.mem_filter.mpr ⟨dq_m1 14 (by rfl), rfl⟩⟩
set_option maxRecDepth 1000000 in
theorem mf_X12_readsFactor : pv_mf mX12_readsFactor := ⟨List.mem_filter.mpr ⟨dq_m7 39 (by rfl), rfl⟩, List.mem_filter.mpr ⟨dq_m1 14 (by rfl), rfl⟩⟩
set_option maxRecDepth 1000000 in
theorem mf_X12_hasOpenSum : pv_mf mX12_hasOpenSum := ⟨List.mem_filter.mpr ⟨dq_m7 74 (by rfl), rfl⟩, List.mem_filter.mpr ⟨dq_m1 14 (by rfl), rfl⟩⟩
set_option maxRecDepth 1000000 in
theorem mf_X12_readsSum : pv_mf mX12_readsSum := ⟨List.mem_filter.mpr ⟨dq_m7 35 (by rfl), rfl⟩, List.mem_filter.mpr ⟨dq_m1 14 (by rfl), rfl⟩⟩
set_option maxRecDepth 1000000 in
theorem mf_X12_endsPiece : pv_mf mX12_endsPiece := ⟨List.mem_filter.mpr ⟨dq_m7 86 (by rfl), rfl⟩, List.mem_filter.mpr ⟨dq_m1 14 (by rfl), rfl⟩⟩
set_option maxRecDepth 1000000 in
theorem mf_X12_lands : pv_mf mX12_lands := ⟨List.mem_filter.mpr ⟨dq_m7 90 (by rfl), rfl⟩, List.mem_filter.mpr ⟨dq_m1 14 (by rfl), rfl⟩⟩
set_option maxRecDepth 1000000 in
theorem mf_X12_jumps : pv_mf mX12_jumps := ⟨List.mem_filter.mpr ⟨dq_m7 94 (by rfl), rfl⟩, List.mem_filter.mpr ⟨dq_m1 14 (by rfl), rfl⟩⟩
set_option maxRecDepth 1000000 in
theorem mf_X12_readsCompared : pv_mf mX12_readsCompared := ⟨List.mem_filter.mpr ⟨dq_m7 82 (by rfl), rfl⟩, List.mem_filter.mpr ⟨dq_m1 14 (by rfl), rfl⟩⟩
set_option maxRecDepth 1000000 in
theorem mf_X12_readsCondition : pv_mf mX12_readsCondition := ⟨List.mem_filter.mpr ⟨dq_m7 78 (by rfl), rfl⟩, List.mem_filter.mpr ⟨dq_m1 14 (by rfl), rfl⟩⟩
set_option maxRecDepth 1000000 in
theorem mf_X12_canBegin : pv_mf mX12_canBegin := ⟨List.mem_filter.mpr ⟨dq_m7 27 (by rfl), rfl⟩, List.mem_filter.mpr ⟨dq_m1 14 (by rfl), rfl⟩⟩
set_option maxRecDepth 1000000 in
theorem mf_X12_readsClause : pv_mf mX12_readsClause := ⟨List.mem_filter.mpr ⟨dq_m7 20 (by rfl), rfl⟩, List.mem_filter.mpr ⟨dq_m1 14 (by rfl), rfl⟩⟩
set_option maxRecDepth 1000000 in
theorem mf_X12_law : pv_mf mX12_law := ⟨List.mem_filter.mpr ⟨dq_m7 16 (by rfl), rfl⟩, List.mem_filter.mpr ⟨dq_m1 14 (by rfl), rfl⟩⟩

