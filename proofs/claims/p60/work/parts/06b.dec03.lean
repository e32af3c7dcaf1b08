/-! the code of each method is that of the printed bytes, 3 -/
set_option maxRecDepth 100000 in
theorem am_Q100 : am_kL cX11_crosses am_c100 = true := by decide +kernel
set_option maxRecDepth 100000 in
theorem am_Q101_0 : am_kL cX11_crossing am_c101_0 = true := by decide +kernel
set_option maxRecDepth 100000 in
theorem am_Q101_1 : am_kL cX11_crossing am_c101_1 = true := by decide +kernel
theorem am_Q101 : am_kL cX11_crossing am_c101 = true := (am_kL2 am_Q101_0 am_Q101_1)
set_option maxRecDepth 100000 in
theorem am_Q102 : am_kL cX11_rubs am_c102 = true := by decide +kernel
set_option maxRecDepth 100000 in
theorem am_Q103 : am_kL cX11_wearNow am_c103 = true := by decide +kernel
set_option maxRecDepth 100000 in
theorem am_Q105 : am_kL cX11_highest am_c105 = true := by decide +kernel
set_option maxRecDepth 100000 in
theorem am_Q109 : am_kL cX11_gap am_c109 = true := by decide +kernel
set_option maxRecDepth 100000 in
theorem am_Q112 : am_kL cX11_threat am_c112 = true := by decide +kernel
set_option maxRecDepth 100000 in
theorem am_Q113 : am_kL cX11_sum am_c113 = true := by decide +kernel
set_option maxRecDepth 100000 in
theorem am_Q115_0 : am_kL cX11_inBox am_c115_0 = true := by decide +kernel
set_option maxRecDepth 100000 in
theorem am_Q115_1 : am_kL cX11_inBox am_c115_1 = true := by decide +kernel
theorem am_Q115 : am_kL cX11_inBox am_c115 = true := (am_kL2 am_Q115_0 am_Q115_1)
set_option maxRecDepth 100000 in
theorem am_Q119 : am_kL cX11_kiteIn am_c119 = true := by decide +kernel
set_option maxRecDepth 100000 in
theorem am_Q122 : am_kL cX11_cutsIn am_c122 = true := by decide +kernel
set_option maxRecDepth 100000 in
theorem am_Q123 : am_kL cX11_landsIn am_c123 = true := by decide +kernel
set_option maxRecDepth 100000 in
theorem am_Q126 : am_kL cX11_bestReel am_c126 = true := by decide +kernel
set_option maxRecDepth 100000 in
theorem am_Q128 : am_kL cX11_run am_c128 = true := by decide +kernel
set_option maxRecDepth 100000 in
theorem am_Q129 : am_kL cX11_launch am_c129 = true := by decide +kernel
set_option maxRecDepth 100000 in
theorem am_Q130 : am_kL cX11_reel am_c130 = true := by decide +kernel
set_option maxRecDepth 100000 in
theorem am_Q131 : am_kL cX11_letGo am_c131 = true := by decide +kernel
set_option maxRecDepth 100000 in
theorem am_Q132 : am_kL cX11_pull am_c132 = true := by decide +kernel
set_option maxRecDepth 100000 in
theorem am_Q133_0 : am_kL cX11_walk am_c133_0 = true := by decide +kernel
set_option maxRecDepth 100000 in
theorem am_Q133_1 : am_kL cX11_walk am_c133_1 = true := by decide +kernel
theorem am_Q133 : am_kL cX11_walk am_c133 = true := (am_kL2 am_Q133_0 am_Q133_1)
set_option maxRecDepth 100000 in
theorem am_Q135 : am_kL cX11_setWind am_c135 = true := by decide +kernel
set_option maxRecDepth 100000 in
theorem am_Q137 : am_kL cX11_undo am_c137 = true := by decide +kernel
set_option maxRecDepth 100000 in
theorem am_Q142 : am_kL cX11_saveState am_c142 = true := by decide +kernel
set_option maxRecDepth 100000 in
theorem am_Q143 : am_kL cX11_restoreState am_c143 = true := by decide +kernel
set_option maxRecDepth 100000 in
theorem am_Q144 : am_kL cX11_checkKite am_c144 = true := by decide +kernel
set_option maxRecDepth 100000 in
theorem am_Q145 : am_kL cX11_checkWind am_c145 = true := by decide +kernel
set_option maxRecDepth 100000 in
theorem am_Q146 : am_kL cX11_checkRange am_c146 = true := by decide +kernel
set_option maxRecDepth 100000 in
theorem am_Q147 : am_kL cX11_checkState am_c147 = true := by decide +kernel
set_option maxRecDepth 100000 in
theorem am_Q148_0 : am_kL cX11_reelFor am_c148_0 = true := by decide +kernel
set_option maxRecDepth 100000 in
theorem am_Q148_1 : am_kL cX11_reelFor am_c148_1 = true := by decide +kernel
theorem am_Q148 : am_kL cX11_reelFor am_c148 = true := (am_kL2 am_Q148_0 am_Q148_1)
set_option maxRecDepth 100000 in
theorem am_Q151 : am_kL cX11_isIn am_c151 = true := by decide +kernel
set_option maxRecDepth 100000 in
theorem am_Q152 : am_kL cX11_bounded am_c152 = true := by decide +kernel
set_option maxRecDepth 100000 in
theorem am_Q313 : am_kL cJ9_floorDiv_7cf53 am_c313 = true := by decide +kernel
set_option maxRecDepth 100000 in
theorem am_Q314 : am_kL cJ9_abs_0f7a4 am_c314 = true := by decide +kernel
set_option maxRecDepth 100000 in
theorem am_Q315 : am_kL cJ9_max_7cf53 am_c315 = true := by decide +kernel
set_option maxRecDepth 100000 in
theorem am_Q316 : am_kL cJ9_min_7cf53 am_c316 = true := by decide +kernel
set_option maxRecDepth 100000 in
theorem am_Q317 : am_kL cJ0_length_8abf5 am_c317 = true := by decide +kernel
set_option maxRecDepth 100000 in
theorem am_Q318 : am_kL cJ0_charAt_5068e am_c318 = true := by decide +kernel
