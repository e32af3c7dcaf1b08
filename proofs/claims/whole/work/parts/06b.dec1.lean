/-! the code of each method is that of the printed bytes, 1 -/
set_option maxRecDepth 100000 in
theorem am_Q59 : am_kL cX7_addNumber am_c59 = true := by decide +kernel
set_option maxRecDepth 100000 in
theorem am_Q60 : am_kL cX8_init am_c60 = true := by decide +kernel
set_option maxRecDepth 100000 in
theorem am_Q61 : am_kL cX8_readText am_c61 = true := by decide +kernel
set_option maxRecDepth 100000 in
theorem am_Q62 : am_kL cX8_readStatement am_c62 = true := by decide +kernel
set_option maxRecDepth 100000 in
theorem am_Q63_0 : am_kL cX8_readKite am_c63_0 = true := by decide +kernel
set_option maxRecDepth 100000 in
theorem am_Q63_1 : am_kL cX8_readKite am_c63_1 = true := by decide +kernel
set_option maxRecDepth 100000 in
theorem am_Q63_2 : am_kL cX8_readKite am_c63_2 = true := by decide +kernel
theorem am_Q63 : am_kL cX8_readKite am_c63 = true := (am_kL2 am_Q63_0 (am_kL2 am_Q63_1 am_Q63_2))
set_option maxRecDepth 100000 in
theorem am_Q64_0 : am_kL cX8_readName am_c64_0 = true := by decide +kernel
set_option maxRecDepth 100000 in
theorem am_Q64_1 : am_kL cX8_readName am_c64_1 = true := by decide +kernel
theorem am_Q64 : am_kL cX8_readName am_c64 = true := (am_kL2 am_Q64_0 am_Q64_1)
set_option maxRecDepth 100000 in
theorem am_Q65 : am_kL cX8_readOption am_c65 = true := by decide +kernel
set_option maxRecDepth 100000 in
theorem am_Q66_0 : am_kL cX8_readWind am_c66_0 = true := by decide +kernel
set_option maxRecDepth 100000 in
theorem am_Q66_1 : am_kL cX8_readWind am_c66_1 = true := by decide +kernel
theorem am_Q66 : am_kL cX8_readWind am_c66 = true := (am_kL2 am_Q66_0 am_Q66_1)
set_option maxRecDepth 100000 in
theorem am_Q67 : am_kL cX8_readSpeed am_c67 = true := by decide +kernel
set_option maxRecDepth 100000 in
theorem am_Q68 : am_kL cX8_readSetting am_c68 = true := by decide +kernel
set_option maxRecDepth 100000 in
theorem am_Q69 : am_kL cX8_readNumber am_c69 = true := by decide +kernel
set_option maxRecDepth 100000 in
theorem am_Q70 : am_kL cX8_readSemicolon am_c70 = true := by decide +kernel
set_option maxRecDepth 100000 in
theorem am_Q71 : am_kL cX8_fail am_c71 = true := by decide +kernel
set_option maxRecDepth 100000 in
theorem am_Q72 : am_kL cX8_quotedWord am_c72 = true := by decide +kernel
set_option maxRecDepth 100000 in
theorem am_Q73 : am_kL cX8_quoted am_c73 = true := by decide +kernel
set_option maxRecDepth 100000 in
theorem am_Q74 : am_kL cX9_init am_c74 = true := by decide +kernel
set_option maxRecDepth 100000 in
theorem am_Q75 : am_kL cX9_readFirst am_c75 = true := by decide +kernel
set_option maxRecDepth 100000 in
theorem am_Q76_0 : am_kL cX9_readNext am_c76_0 = true := by decide +kernel
set_option maxRecDepth 100000 in
theorem am_Q76_1 : am_kL cX9_readNext am_c76_1 = true := by decide +kernel
set_option maxRecDepth 100000 in
theorem am_Q76_2 : am_kL cX9_readNext am_c76_2 = true := by decide +kernel
theorem am_Q76 : am_kL cX9_readNext am_c76 = true := (am_kL2 am_Q76_0 (am_kL2 am_Q76_1 am_Q76_2))
set_option maxRecDepth 100000 in
theorem am_Q77 : am_kL cX9_kindOf am_c77 = true := by decide +kernel
set_option maxRecDepth 100000 in
theorem am_Q78 : am_kL cX9_isNumber am_c78 = true := by decide +kernel
set_option maxRecDepth 100000 in
theorem am_Q79 : am_kL cX9_value am_c79 = true := by decide +kernel
set_option maxRecDepth 100000 in
theorem am_Q80 : am_kL cX9_isWord am_c80 = true := by decide +kernel
set_option maxRecDepth 100000 in
theorem am_Q81 : am_kL cX10_init am_c81 = true := by decide +kernel
set_option maxRecDepth 100000 in
theorem am_Q82 : am_kL cX10_copyFrom am_c82 = true := by decide +kernel
set_option maxRecDepth 100000 in
theorem am_Q83 : am_kL cX10_become am_c83 = true := by decide +kernel
set_option maxRecDepth 100000 in
theorem am_Q84 : am_kL cX10_force am_c84 = true := by decide +kernel
set_option maxRecDepth 100000 in
theorem am_Q85 : am_kL cX10_number am_c85 = true := by decide +kernel
set_option maxRecDepth 100000 in
theorem am_Q86 : am_kL cX11_init am_c86 = true := by decide +kernel
set_option maxRecDepth 100000 in
theorem am_Q87 : am_kL cX11_feed am_c87 = true := by decide +kernel
set_option maxRecDepth 100000 in
theorem am_Q88 : am_kL cX11_truncate am_c88 = true := by decide +kernel
set_option maxRecDepth 100000 in
theorem am_Q89 : am_kL cX11_parse am_c89 = true := by decide +kernel
set_option maxRecDepth 100000 in
theorem am_Q90 : am_kL cX11_errorCode am_c90 = true := by decide +kernel
set_option maxRecDepth 100000 in
theorem am_Q91 : am_kL cX11_errorOffset am_c91 = true := by decide +kernel
set_option maxRecDepth 100000 in
theorem am_Q92_0 : am_kL cX11_count am_c92_0 = true := by decide +kernel
set_option maxRecDepth 100000 in
theorem am_Q92_1 : am_kL cX11_count am_c92_1 = true := by decide +kernel
theorem am_Q92 : am_kL cX11_count am_c92 = true := (am_kL2 am_Q92_0 am_Q92_1)
set_option maxRecDepth 100000 in
theorem am_Q93 : am_kL cX11_setting am_c93 = true := by decide +kernel
set_option maxRecDepth 100000 in
theorem am_Q94 : am_kL cX11_find am_c94 = true := by decide +kernel
set_option maxRecDepth 100000 in
theorem am_Q95 : am_kL cX11_kite am_c95 = true := by decide +kernel
set_option maxRecDepth 100000 in
theorem am_Q96 : am_kL cX11_wind am_c96 = true := by decide +kernel
set_option maxRecDepth 100000 in
theorem am_Q97 : am_kL cX11_windAt am_c97 = true := by decide +kernel
set_option maxRecDepth 100000 in
theorem am_Q98 : am_kL cX11_span am_c98 = true := by decide +kernel
set_option maxRecDepth 100000 in
theorem am_Q99 : am_kL cX11_slack am_c99 = true := by decide +kernel
set_option maxRecDepth 100000 in
theorem am_Q100 : am_kL cX11_crosses am_c100 = true := by decide +kernel
set_option maxRecDepth 100000 in
theorem am_Q101_0 : am_kL cX11_crossing am_c101_0 = true := by decide +kernel
set_option maxRecDepth 100000 in
theorem am_Q101_1 : am_kL cX11_crossing am_c101_1 = true := by decide +kernel
theorem am_Q101 : am_kL cX11_crossing am_c101 = true := (am_kL2 am_Q101_0 am_Q101_1)
set_option maxRecDepth 100000 in
theorem am_Q102 : am_kL cX11_rubs am_c102 = true := by decide +kernel
set_option maxRecDepth 100000 in
theorem am_Q103 : am_kL cX11_wearNow am_c103 = true := by decide +kernel
set_option maxRecDepth 100000 in
theorem am_Q104 : am_kL cX11_event am_c104 = true := by decide +kernel
set_option maxRecDepth 100000 in
theorem am_Q105 : am_kL cX11_highest am_c105 = true := by decide +kernel
set_option maxRecDepth 100000 in
theorem am_Q106 : am_kL cX11_tautest am_c106 = true := by decide +kernel
set_option maxRecDepth 100000 in
theorem am_Q107 : am_kL cX11_leader am_c107 = true := by decide +kernel
set_option maxRecDepth 100000 in
theorem am_Q108 : am_kL cX11_picker am_c108 = true := by decide +kernel
set_option maxRecDepth 100000 in
theorem am_Q109 : am_kL cX11_gap am_c109 = true := by decide +kernel
set_option maxRecDepth 100000 in
theorem am_Q110_0 : am_kL cX11_nearest am_c110_0 = true := by decide +kernel
set_option maxRecDepth 100000 in
theorem am_Q110_1 : am_kL cX11_nearest am_c110_1 = true := by decide +kernel
theorem am_Q110 : am_kL cX11_nearest am_c110 = true := (am_kL2 am_Q110_0 am_Q110_1)
set_option maxRecDepth 100000 in
theorem am_Q111_0 : am_kL cX11_upwind am_c111_0 = true := by decide +kernel
set_option maxRecDepth 100000 in
theorem am_Q111_1 : am_kL cX11_upwind am_c111_1 = true := by decide +kernel
theorem am_Q111 : am_kL cX11_upwind am_c111 = true := (am_kL2 am_Q111_0 am_Q111_1)
set_option maxRecDepth 100000 in
theorem am_Q112 : am_kL cX11_threat am_c112 = true := by decide +kernel
set_option maxRecDepth 100000 in
theorem am_Q113 : am_kL cX11_sum am_c113 = true := by decide +kernel
set_option maxRecDepth 100000 in
theorem am_Q114 : am_kL cX11_rank am_c114 = true := by decide +kernel
set_option maxRecDepth 100000 in
theorem am_Q115_0 : am_kL cX11_inBox am_c115_0 = true := by decide +kernel
set_option maxRecDepth 100000 in
theorem am_Q115_1 : am_kL cX11_inBox am_c115_1 = true := by decide +kernel
theorem am_Q115 : am_kL cX11_inBox am_c115 = true := (am_kL2 am_Q115_0 am_Q115_1)
set_option maxRecDepth 100000 in
theorem am_Q116 : am_kL cX11_spread am_c116 = true := by decide +kernel
set_option maxRecDepth 100000 in
theorem am_Q117 : am_kL cX11_meanHeight am_c117 = true := by decide +kernel
set_option maxRecDepth 100000 in
theorem am_Q118 : am_kL cX11_left am_c118 = true := by decide +kernel
set_option maxRecDepth 100000 in
theorem am_Q119 : am_kL cX11_kiteIn am_c119 = true := by decide +kernel
set_option maxRecDepth 100000 in
theorem am_Q120_0 : am_kL cX11_cutIn am_c120_0 = true := by decide +kernel
set_option maxRecDepth 100000 in
theorem am_Q120_1 : am_kL cX11_cutIn am_c120_1 = true := by decide +kernel
theorem am_Q120 : am_kL cX11_cutIn am_c120 = true := (am_kL2 am_Q120_0 am_Q120_1)
set_option maxRecDepth 100000 in
theorem am_Q121 : am_kL cX11_crossIn am_c121 = true := by decide +kernel
set_option maxRecDepth 100000 in
theorem am_Q122 : am_kL cX11_cutsIn am_c122 = true := by decide +kernel
set_option maxRecDepth 100000 in
theorem am_Q123 : am_kL cX11_landsIn am_c123 = true := by decide +kernel
set_option maxRecDepth 100000 in
theorem am_Q124_0 : am_kL cX11_duel am_c124_0 = true := by decide +kernel
set_option maxRecDepth 100000 in
theorem am_Q124_1 : am_kL cX11_duel am_c124_1 = true := by decide +kernel
