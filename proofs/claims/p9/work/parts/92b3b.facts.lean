theorem mf_X12_init : pv_mf mX12_init := ⟨(pv_mT 1302 (by decide +kernel)), (pv_mT 159 (by decide +kernel))⟩
