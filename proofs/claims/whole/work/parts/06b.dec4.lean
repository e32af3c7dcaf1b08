/-! the code of each method is that of the printed bytes, 4 -/
theorem am_Q260 : am_kL cX12_launch am_c260 = true := (am_kL2 am_Q260_0 am_Q260_1)
set_option maxRecDepth 100000 in
theorem am_Q261 : am_kL cX12_reel am_c261 = true := by decide +kernel
set_option maxRecDepth 100000 in
theorem am_Q262 : am_kL cX12_letGo am_c262 = true := by decide +kernel
set_option maxRecDepth 100000 in
theorem am_Q263 : am_kL cX12_pull am_c263 = true := by decide +kernel
set_option maxRecDepth 100000 in
theorem am_Q264_0 : am_kL cX12_walk am_c264_0 = true := by decide +kernel
set_option maxRecDepth 100000 in
theorem am_Q264_1 : am_kL cX12_walk am_c264_1 = true := by decide +kernel
theorem am_Q264 : am_kL cX12_walk am_c264 = true := (am_kL2 am_Q264_0 am_Q264_1)
set_option maxRecDepth 100000 in
theorem am_Q265_0 : am_kL cX12_restring am_c265_0 = true := by decide +kernel
set_option maxRecDepth 100000 in
theorem am_Q265_1 : am_kL cX12_restring am_c265_1 = true := by decide +kernel
set_option maxRecDepth 100000 in
theorem am_Q265_2 : am_kL cX12_restring am_c265_2 = true := by decide +kernel
theorem am_Q265 : am_kL cX12_restring am_c265 = true := (am_kL2 am_Q265_0 (am_kL2 am_Q265_1 am_Q265_2))
set_option maxRecDepth 100000 in
theorem am_Q266 : am_kL cX12_areSpeeds am_c266 = true := by decide +kernel
set_option maxRecDepth 100000 in
theorem am_Q267_0 : am_kL cX12_setWind am_c267_0 = true := by decide +kernel
set_option maxRecDepth 100000 in
theorem am_Q267_1 : am_kL cX12_setWind am_c267_1 = true := by decide +kernel
theorem am_Q267 : am_kL cX12_setWind am_c267 = true := (am_kL2 am_Q267_0 am_Q267_1)
set_option maxRecDepth 100000 in
theorem am_Q268 : am_kL cX12_leastOf am_c268 = true := by decide +kernel
set_option maxRecDepth 100000 in
theorem am_Q269 : am_kL cX12_mostOf am_c269 = true := by decide +kernel
set_option maxRecDepth 100000 in
theorem am_Q270 : am_kL cX12_set_ am_c270 = true := by decide +kernel
set_option maxRecDepth 100000 in
theorem am_Q271_0 : am_kL cX12_feed am_c271_0 = true := by decide +kernel
set_option maxRecDepth 100000 in
theorem am_Q271_1 : am_kL cX12_feed am_c271_1 = true := by decide +kernel
theorem am_Q271 : am_kL cX12_feed am_c271 = true := (am_kL2 am_Q271_0 am_Q271_1)
set_option maxRecDepth 100000 in
theorem am_Q272 : am_kL cX12_truncate am_c272 = true := by decide +kernel
set_option maxRecDepth 100000 in
theorem am_Q273 : am_kL cX12_here am_c273 = true := by decide +kernel
set_option maxRecDepth 100000 in
theorem am_Q274 : am_kL cX12_isLetter am_c274 = true := by decide +kernel
set_option maxRecDepth 100000 in
theorem am_Q275_0 : am_kL cX12_next am_c275_0 = true := by decide +kernel
set_option maxRecDepth 100000 in
theorem am_Q275_1 : am_kL cX12_next am_c275_1 = true := by decide +kernel
set_option maxRecDepth 100000 in
theorem am_Q275_2 : am_kL cX12_next am_c275_2 = true := by decide +kernel
set_option maxRecDepth 100000 in
theorem am_Q275_3 : am_kL cX12_next am_c275_3 = true := by decide +kernel
theorem am_Q275 : am_kL cX12_next am_c275 = true := (am_kL2 am_Q275_0 (am_kL2 am_Q275_1 (am_kL2 am_Q275_2 am_Q275_3)))
set_option maxRecDepth 100000 in
theorem am_Q276_0 : am_kL cX12_wordHere am_c276_0 = true := by decide +kernel
set_option maxRecDepth 100000 in
theorem am_Q276_1 : am_kL cX12_wordHere am_c276_1 = true := by decide +kernel
theorem am_Q276 : am_kL cX12_wordHere am_c276 = true := (am_kL2 am_Q276_0 am_Q276_1)
set_option maxRecDepth 100000 in
theorem am_Q277 : am_kL cX12_nameAt am_c277 = true := by decide +kernel
set_option maxRecDepth 100000 in
theorem am_Q278 : am_kL cX12_named am_c278 = true := by decide +kernel
set_option maxRecDepth 100000 in
theorem am_Q279 : am_kL cX12_find am_c279 = true := by decide +kernel
set_option maxRecDepth 100000 in
theorem am_Q280 : am_kL cX12_fine am_c280 = true := by decide +kernel
set_option maxRecDepth 100000 in
theorem am_Q281 : am_kL cX12_needs am_c281 = true := by decide +kernel
set_option maxRecDepth 100000 in
theorem am_Q282 : am_kL cX12_goOn am_c282 = true := by decide +kernel
set_option maxRecDepth 100000 in
theorem am_Q283 : am_kL cX12_isWord am_c283 = true := by decide +kernel
set_option maxRecDepth 100000 in
theorem am_Q284 : am_kL cX12_number am_c284 = true := by decide +kernel
set_option maxRecDepth 100000 in
theorem am_Q285 : am_kL cX12_speed am_c285 = true := by decide +kernel
set_option maxRecDepth 100000 in
theorem am_Q286 : am_kL cX12_perhaps am_c286 = true := by decide +kernel
set_option maxRecDepth 100000 in
theorem am_Q287_0 : am_kL cX12_readsKite am_c287_0 = true := by decide +kernel
set_option maxRecDepth 100000 in
theorem am_Q287_1 : am_kL cX12_readsKite am_c287_1 = true := by decide +kernel
set_option maxRecDepth 100000 in
theorem am_Q287_2 : am_kL cX12_readsKite am_c287_2 = true := by decide +kernel
set_option maxRecDepth 100000 in
theorem am_Q287_3 : am_kL cX12_readsKite am_c287_3 = true := by decide +kernel
theorem am_Q287 : am_kL cX12_readsKite am_c287 = true := (am_kL2 am_Q287_0 (am_kL2 am_Q287_1 (am_kL2 am_Q287_2 am_Q287_3)))
set_option maxRecDepth 100000 in
theorem am_Q288_0 : am_kL cX12_readsWind am_c288_0 = true := by decide +kernel
set_option maxRecDepth 100000 in
theorem am_Q288_1 : am_kL cX12_readsWind am_c288_1 = true := by decide +kernel
theorem am_Q288 : am_kL cX12_readsWind am_c288 = true := (am_kL2 am_Q288_0 am_Q288_1)
set_option maxRecDepth 100000 in
theorem am_Q289 : am_kL cX12_readsOnce am_c289 = true := by decide +kernel
set_option maxRecDepth 100000 in
theorem am_Q290 : am_kL cX12_statement am_c290 = true := by decide +kernel
set_option maxRecDepth 100000 in
theorem am_Q291_0 : am_kL cX12_parse am_c291_0 = true := by decide +kernel
set_option maxRecDepth 100000 in
theorem am_Q291_1 : am_kL cX12_parse am_c291_1 = true := by decide +kernel
theorem am_Q291 : am_kL cX12_parse am_c291 = true := (am_kL2 am_Q291_0 am_Q291_1)
set_option maxRecDepth 100000 in
theorem am_Q292 : am_kL cX12_errorCode am_c292 = true := by decide +kernel
set_option maxRecDepth 100000 in
theorem am_Q293 : am_kL cX12_errorOffset am_c293 = true := by decide +kernel
set_option maxRecDepth 100000 in
theorem am_Q294 : am_kL cX12_says am_c294 = true := by decide +kernel
set_option maxRecDepth 100000 in
theorem am_Q295 : am_kL cX12_saysNumber am_c295 = true := by decide +kernel
set_option maxRecDepth 100000 in
theorem am_Q300 : am_kL cX12_saysLetters am_c300 = true := by decide +kernel
set_option maxRecDepth 100000 in
theorem am_Q307 : am_kL cX12_saysWord am_c307 = true := by decide +kernel
set_option maxRecDepth 100000 in
theorem am_Q308 : am_kL cX12_saysState am_c308 = true := by decide +kernel
set_option maxRecDepth 100000 in
theorem am_Q309_0 : am_kL cX12_printKite am_c309_0 = true := by decide +kernel
set_option maxRecDepth 100000 in
theorem am_Q309_1 : am_kL cX12_printKite am_c309_1 = true := by decide +kernel
theorem am_Q309 : am_kL cX12_printKite am_c309 = true := (am_kL2 am_Q309_0 am_Q309_1)
set_option maxRecDepth 100000 in
theorem am_Q310_0 : am_kL cX12_printPairs am_c310_0 = true := by decide +kernel
set_option maxRecDepth 100000 in
theorem am_Q310_1 : am_kL cX12_printPairs am_c310_1 = true := by decide +kernel
theorem am_Q310 : am_kL cX12_printPairs am_c310 = true := (am_kL2 am_Q310_0 am_Q310_1)
set_option maxRecDepth 100000 in
theorem am_Q311_0 : am_kL cX12_printEvents am_c311_0 = true := by decide +kernel
set_option maxRecDepth 100000 in
theorem am_Q311_1 : am_kL cX12_printEvents am_c311_1 = true := by decide +kernel
theorem am_Q311 : am_kL cX12_printEvents am_c311 = true := (am_kL2 am_Q311_0 am_Q311_1)
set_option maxRecDepth 100000 in
theorem am_Q312 : am_kL cX12_outputByte am_c312 = true := by decide +kernel
set_option maxRecDepth 100000 in
theorem am_Q313 : am_kL cJ9_floorDiv_7cf53 am_c313 = true := by decide +kernel
set_option maxRecDepth 100000 in
theorem am_Q314 : am_kL cJ9_abs_0f7a4 am_c314 = true := by decide +kernel
set_option maxRecDepth 100000 in
theorem am_Q315 : am_kL cJ9_max_7cf53 am_c315 = true := by decide +kernel
set_option maxRecDepth 100000 in
theorem am_Q316 : am_kL cJ9_min_7cf53 am_c316 = true := by decide +kernel
set_option maxRecDepth 100000 in
theorem am_Q317 : am_kL cJ0_length_8abf5 am_c317 = true := by decide +kernel
set_option maxRecDepth 100000 in
theorem am_Q318 : am_kL cJ0_charAt_5068e am_c318 = true := by decide +kernel
set_option maxRecDepth 100000 in
theorem am_Q319 : am_kL cJ0_coder_7d493 am_c319 = true := by decide +kernel
set_option maxRecDepth 100000 in
theorem am_Q320 : am_kL cJ0_isLatin1_aae02 am_c320 = true := by decide +kernel
set_option maxRecDepth 100000 in
theorem am_Q321 : am_kL cJ0_checkIndex_df160 am_c321 = true := by decide +kernel
set_option maxRecDepth 100000 in
theorem am_Q322 : am_kL cJ1_charAt_3b067 am_c322 = true := by decide +kernel
set_option maxRecDepth 100000 in
theorem am_Q323 : am_kL cJ3_checkIndex_8e157 am_c323 = true := by decide +kernel
set_option maxRecDepth 100000 in
theorem am_Q324 : am_kL cL_kite am_c324 = true := by decide +kernel
set_option maxRecDepth 100000 in
theorem am_Q325 : am_kL cL_wind am_c325 = true := by decide +kernel
set_option maxRecDepth 100000 in
theorem am_Q326 : am_kL cL_windAt am_c326 = true := by decide +kernel
set_option maxRecDepth 100000 in
theorem am_Q327 : am_kL cL_span am_c327 = true := by decide +kernel
set_option maxRecDepth 100000 in
theorem am_Q328 : am_kL cL_slack am_c328 = true := by decide +kernel
set_option maxRecDepth 100000 in
theorem am_Q329 : am_kL cL_crosses am_c329 = true := by decide +kernel
