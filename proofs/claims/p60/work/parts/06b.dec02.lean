/-! the code of each method is that of the printed bytes, 2 -/
set_option maxRecDepth 100000 in
theorem am_Q63_0 : am_kL cX8_readKite am_c63_0 = true := by decide +kernel
set_option maxRecDepth 100000 in
theorem am_Q63_1 : am_kL cX8_readKite am_c63_1 = true := by decide +kernel
set_option maxRecDepth 100000 in
theorem am_Q63_2 : am_kL cX8_readKite am_c63_2 = true := by decide +kernel
theorem am_Q63 : am_kL cX8_readKite am_c63 = true := (am_kL2 am_Q63_0 (am_kL2 am_Q63_1 am_Q63_2))
set_option maxRecDepth 100000 in
theorem am_Q64_0 : am_kL cX8_readName am_c64_0 = true := by decide +kernel
set_option maxRecDepth 100000 in
theorem am_Q64_1 : am_kL cX8_readName am_c64_1 = true := by decide +kernel
theorem am_Q64 : am_kL cX8_readName am_c64 = true := (am_kL2 am_Q64_0 am_Q64_1)
set_option maxRecDepth 100000 in
theorem am_Q65 : am_kL cX8_readOption am_c65 = true := by decide +kernel
set_option maxRecDepth 100000 in
theorem am_Q66_0 : am_kL cX8_readWind am_c66_0 = true := by decide +kernel
set_option maxRecDepth 100000 in
theorem am_Q66_1 : am_kL cX8_readWind am_c66_1 = true := by decide +kernel
theorem am_Q66 : am_kL cX8_readWind am_c66 = true := (am_kL2 am_Q66_0 am_Q66_1)
set_option maxRecDepth 100000 in
theorem am_Q67 : am_kL cX8_readSpeed am_c67 = true := by decide +kernel
set_option maxRecDepth 100000 in
theorem am_Q68 : am_kL cX8_readSetting am_c68 = true := by decide +kernel
set_option maxRecDepth 100000 in
theorem am_Q69 : am_kL cX8_readNumber am_c69 = true := by decide +kernel
set_option maxRecDepth 100000 in
theorem am_Q70 : am_kL cX8_readSemicolon am_c70 = true := by decide +kernel
set_option maxRecDepth 100000 in
theorem am_Q71 : am_kL cX8_fail am_c71 = true := by decide +kernel
set_option maxRecDepth 100000 in
theorem am_Q72 : am_kL cX8_quotedWord am_c72 = true := by decide +kernel
set_option maxRecDepth 100000 in
theorem am_Q73 : am_kL cX8_quoted am_c73 = true := by decide +kernel
set_option maxRecDepth 100000 in
theorem am_Q74 : am_kL cX9_init am_c74 = true := by decide +kernel
set_option maxRecDepth 100000 in
theorem am_Q75 : am_kL cX9_readFirst am_c75 = true := by decide +kernel
set_option maxRecDepth 100000 in
theorem am_Q76_0 : am_kL cX9_readNext am_c76_0 = true := by decide +kernel
set_option maxRecDepth 100000 in
theorem am_Q76_1 : am_kL cX9_readNext am_c76_1 = true := by decide +kernel
set_option maxRecDepth 100000 in
theorem am_Q76_2 : am_kL cX9_readNext am_c76_2 = true := by decide +kernel
theorem am_Q76 : am_kL cX9_readNext am_c76 = true := (am_kL2 am_Q76_0 (am_kL2 am_Q76_1 am_Q76_2))
set_option maxRecDepth 100000 in
theorem am_Q77 : am_kL cX9_kindOf am_c77 = true := by decide +kernel
set_option maxRecDepth 100000 in
theorem am_Q78 : am_kL cX9_isNumber am_c78 = true := by decide +kernel
set_option maxRecDepth 100000 in
theorem am_Q79 : am_kL cX9_value am_c79 = true := by decide +kernel
set_option maxRecDepth 100000 in
theorem am_Q80 : am_kL cX9_isWord am_c80 = true := by decide +kernel
set_option maxRecDepth 100000 in
theorem am_Q81 : am_kL cX10_init am_c81 = true := by decide +kernel
set_option maxRecDepth 100000 in
theorem am_Q82 : am_kL cX10_copyFrom am_c82 = true := by decide +kernel
set_option maxRecDepth 100000 in
theorem am_Q83 : am_kL cX10_become am_c83 = true := by decide +kernel
set_option maxRecDepth 100000 in
theorem am_Q84 : am_kL cX10_force am_c84 = true := by decide +kernel
set_option maxRecDepth 100000 in
theorem am_Q86 : am_kL cX11_init am_c86 = true := by decide +kernel
set_option maxRecDepth 100000 in
theorem am_Q87 : am_kL cX11_feed am_c87 = true := by decide +kernel
set_option maxRecDepth 100000 in
theorem am_Q88 : am_kL cX11_truncate am_c88 = true := by decide +kernel
set_option maxRecDepth 100000 in
theorem am_Q89 : am_kL cX11_parse am_c89 = true := by decide +kernel
set_option maxRecDepth 100000 in
theorem am_Q92_0 : am_kL cX11_count am_c92_0 = true := by decide +kernel
set_option maxRecDepth 100000 in
theorem am_Q92_1 : am_kL cX11_count am_c92_1 = true := by decide +kernel
theorem am_Q92 : am_kL cX11_count am_c92 = true := (am_kL2 am_Q92_0 am_Q92_1)
set_option maxRecDepth 100000 in
theorem am_Q93 : am_kL cX11_setting am_c93 = true := by decide +kernel
set_option maxRecDepth 100000 in
theorem am_Q95 : am_kL cX11_kite am_c95 = true := by decide +kernel
set_option maxRecDepth 100000 in
theorem am_Q98 : am_kL cX11_span am_c98 = true := by decide +kernel
set_option maxRecDepth 100000 in
theorem am_Q99 : am_kL cX11_slack am_c99 = true := by decide +kernel
