set_option maxRecDepth 1000000 in
theorem mf_X12_init0 : lw_tbl[1302]? = some (Cond.code mX12_init.1 mX12_init.2.1 mX12_init.2.2.1 mX12_init.2.2.2.1) := by rfl
theorem mf_X12_init : pv_mf mX12_init := ⟨List.mem_filter.mpr ⟨List.mem_of_getElem? mf_X12_init0, rfl⟩, (pv_mT 159 (by decide +kernel))⟩
