set_option maxRecDepth 100000 in
theorem cw_M_hashName_149 : on_CVs M_M_hashName M_String_charAt 149 1 := ⟨⟨on_w 1316 rfl rfl, k_String_charAt, on_w 117 rfl rfl, by decide +kernel, by decide, by decide⟩, on_w 1317 rfl rfl, on_w 1318 rfl rfl, rfl⟩
set_option maxRecDepth 100000 in
theorem cw_M_keyName_149 : on_CVs M_M_keyName M_String_charAt 149 1 := ⟨⟨on_w 1316 rfl rfl, k_String_charAt, on_w 117 rfl rfl, by decide +kernel, by decide, by decide⟩, on_w 1317 rfl rfl, on_w 1318 rfl rfl, rfl⟩
set_option maxRecDepth 100000 in
theorem cw_M_streamBlock_149 : on_CVs M_M_streamBlock M_String_charAt 149 1 := ⟨⟨on_w 1316 rfl rfl, k_String_charAt, on_w 117 rfl rfl, by decide +kernel, by decide, by decide⟩, on_w 1317 rfl rfl, on_w 1318 rfl rfl, rfl⟩
set_option maxRecDepth 100000 in
theorem cw_M_secretText_149 : on_CVs M_M_secretText M_String_charAt 149 1 := ⟨⟨on_w 1316 rfl rfl, k_String_charAt, on_w 117 rfl rfl, by decide +kernel, by decide, by decide⟩, on_w 1317 rfl rfl, on_w 1318 rfl rfl, rfl⟩
