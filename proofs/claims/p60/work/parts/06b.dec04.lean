/-! the code of each method is that of the printed bytes, 4 -/
set_option maxRecDepth 100000 in
theorem am_Q319 : am_kL cJ0_coder_7d493 am_c319 = true := by decide +kernel
set_option maxRecDepth 100000 in
theorem am_Q320 : am_kL cJ0_isLatin1_aae02 am_c320 = true := by decide +kernel
set_option maxRecDepth 100000 in
theorem am_Q321 : am_kL cJ0_checkIndex_df160 am_c321 = true := by decide +kernel
set_option maxRecDepth 100000 in
theorem am_Q322 : am_kL cJ1_charAt_3b067 am_c322 = true := by decide +kernel
set_option maxRecDepth 100000 in
theorem am_Q323 : am_kL cJ3_checkIndex_8e157 am_c323 = true := by decide +kernel
set_option maxRecDepth 100000 in
theorem am_Q324 : am_kL cJ1_canEncode_fc78d am_c324 = true := by decide +kernel
set_option maxRecDepth 100000 in
theorem am_Q325 : am_kL cJ8_newLength_cabcc am_c325 = true := by decide +kernel
set_option maxRecDepth 100000 in
theorem am_Q326 : am_kL cJ7_copyOf_9075b am_c326 = true := by decide +kernel
set_option maxRecDepth 100000 in
theorem am_Q327 : am_kL cJ7_checkLength_df160 am_c327 = true := by decide +kernel
set_option maxRecDepth 100000 in
theorem am_Q328 : am_kL cJ7_copyOfRangeByte_39247 am_c328 = true := by decide +kernel
set_option maxRecDepth 100000 in
theorem am_Q329 : am_kL cJ7_copyOfRange_39247 am_c329 = true := by decide +kernel
set_option maxRecDepth 100000 in
theorem am_Q330 : am_kL cJ6_stringSize_0f7a4 am_c330 = true := by decide +kernel
set_option maxRecDepth 100000 in
theorem am_Q331_0 : am_kL cJ6_getChars_ba4f3 am_c331_0 = true := by decide +kernel
set_option maxRecDepth 100000 in
theorem am_Q331_1 : am_kL cJ6_getChars_ba4f3 am_c331_1 = true := by decide +kernel
theorem am_Q331 : am_kL cJ6_getChars_ba4f3 am_c331 = true := (am_kL2 am_Q331_0 am_Q331_1)
set_option maxRecDepth 100000 in
theorem am_Q332 : am_kL cJ5_isLatin1_aae02 am_c332 = true := by decide +kernel
set_option maxRecDepth 100000 in
theorem am_Q333 : am_kL cJ5_getValue_6d5f1 am_c333 = true := by decide +kernel
set_option maxRecDepth 100000 in
theorem am_Q334 : am_kL cJ5_length_8abf5 am_c334 = true := by decide +kernel
set_option maxRecDepth 100000 in
theorem am_Q335 : am_kL cJ5_newCapacity_0f7a4 am_c335 = true := by decide +kernel
set_option maxRecDepth 100000 in
theorem am_Q336 : am_kL cJ5_ensureCapacityInternal_d00df am_c336 = true := by decide +kernel
set_option maxRecDepth 100000 in
theorem am_Q337 : am_kL cJ0_getBytes_840e7 am_c337 = true := by decide +kernel
set_option maxRecDepth 100000 in
theorem am_Q338 : am_kL cJ5_inflateIfNeededFor_a7421 am_c338 = true := by decide +kernel
set_option maxRecDepth 100000 in
theorem am_Q339 : am_kL cJ5_putStringAt_47b60 am_c339 = true := by decide +kernel
set_option maxRecDepth 100000 in
theorem am_Q340 : am_kL cJ5_append_cf1ce am_c340 = true := by decide +kernel
set_option maxRecDepth 100000 in
theorem am_Q341 : am_kL cJ5_append_3fe6f am_c341 = true := by decide +kernel
set_option maxRecDepth 100000 in
theorem am_Q342 : am_kL cJ5_append_c97b9 am_c342 = true := by decide +kernel
set_option maxRecDepth 100000 in
theorem am_Q343 : am_kL cJ4_append_15ec4 am_c343 = true := by decide +kernel
set_option maxRecDepth 100000 in
theorem am_Q344 : am_kL cJ4_append_cf468 am_c344 = true := by decide +kernel
set_option maxRecDepth 100000 in
theorem am_Q345 : am_kL cJ4_append_bf812 am_c345 = true := by decide +kernel
set_option maxRecDepth 100000 in
theorem am_Q346 : am_kL cJ4_append_cf1ce am_c346 = true := by decide +kernel
set_option maxRecDepth 100000 in
theorem am_Q347 : am_kL cJ4_length_8abf5 am_c347 = true := by decide +kernel
set_option maxRecDepth 100000 in
theorem am_Q348 : am_kL cJ5_init_a7421 am_c348 = true := by decide +kernel
set_option maxRecDepth 100000 in
theorem am_Q349 : am_kL cJ4_init_a7421 am_c349 = true := by decide +kernel
set_option maxRecDepth 100000 in
theorem am_Q350_0 : am_kL cJ0_init_db425 am_c350_0 = true := by decide +kernel
set_option maxRecDepth 100000 in
theorem am_Q350_1 : am_kL cJ0_init_db425 am_c350_1 = true := by decide +kernel
theorem am_Q350 : am_kL cJ0_init_db425 am_c350 = true := (am_kL2 am_Q350_0 am_Q350_1)
set_option maxRecDepth 100000 in
theorem am_Q351 : am_kL cJ0_init_81219 am_c351 = true := by decide +kernel
set_option maxRecDepth 100000 in
theorem am_Q352 : am_kL cJ4_toString_0e30d am_c352 = true := by decide +kernel
set_option maxRecDepth 100000 in
theorem am_Q357 : am_kL cL_cell am_c357 = true := by decide +kernel
set_option maxRecDepth 100000 in
theorem am_Q358 : am_kL cL_draw am_c358 = true := by decide +kernel
set_option maxRecDepth 100000 in
theorem am_Q359_0 : am_kL cL_fed am_c359_0 = true := by decide +kernel
set_option maxRecDepth 100000 in
theorem am_Q359_1 : am_kL cL_fed am_c359_1 = true := by decide +kernel
theorem am_Q359 : am_kL cL_fed am_c359 = true := (am_kL2 am_Q359_0 am_Q359_1)
set_option maxRecDepth 100000 in
theorem am_Q360 : am_kL cL_parsed am_c360 = true := by decide +kernel
set_option maxRecDepth 100000 in
theorem am_Q361_0 : am_kL cL_setup am_c361_0 = true := by decide +kernel
set_option maxRecDepth 100000 in
theorem am_Q361_1 : am_kL cL_setup am_c361_1 = true := by decide +kernel
set_option maxRecDepth 100000 in
theorem am_Q361_2 : am_kL cL_setup am_c361_2 = true := by decide +kernel
set_option maxRecDepth 100000 in
theorem am_Q361_3 : am_kL cL_setup am_c361_3 = true := by decide +kernel
set_option maxRecDepth 100000 in
theorem am_Q361_4 : am_kL cL_setup am_c361_4 = true := by decide +kernel
theorem am_Q361 : am_kL cL_setup am_c361 = true := (am_kL2 am_Q361_0 (am_kL2 am_Q361_1 (am_kL2 am_Q361_2 (am_kL2 am_Q361_3 am_Q361_4))))
set_option maxRecDepth 100000 in
theorem am_Q362_0 : am_kL cL_isSound am_c362_0 = true := by decide +kernel
set_option maxRecDepth 100000 in
theorem am_Q362_1 : am_kL cL_isSound am_c362_1 = true := by decide +kernel
set_option maxRecDepth 100000 in
theorem am_Q362_2 : am_kL cL_isSound am_c362_2 = true := by decide +kernel
set_option maxRecDepth 100000 in
theorem am_Q362_3 : am_kL cL_isSound am_c362_3 = true := by decide +kernel
set_option maxRecDepth 100000 in
theorem am_Q362_4 : am_kL cL_isSound am_c362_4 = true := by decide +kernel
set_option maxRecDepth 100000 in
theorem am_Q362_5 : am_kL cL_isSound am_c362_5 = true := by decide +kernel
set_option maxRecDepth 100000 in
theorem am_Q362_6 : am_kL cL_isSound am_c362_6 = true := by decide +kernel
set_option maxRecDepth 100000 in
theorem am_Q362_7 : am_kL cL_isSound am_c362_7 = true := by decide +kernel
set_option maxRecDepth 100000 in
theorem am_Q362_8 : am_kL cL_isSound am_c362_8 = true := by decide +kernel
theorem am_Q362 : am_kL cL_isSound am_c362 = true := (am_kL2 am_Q362_0 (am_kL2 am_Q362_1 (am_kL2 am_Q362_2 (am_kL2 am_Q362_3 (am_kL2 am_Q362_4 (am_kL2 am_Q362_5 (am_kL2 am_Q362_6 (am_kL2 am_Q362_7 am_Q362_8))))))))
