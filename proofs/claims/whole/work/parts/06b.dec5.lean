/-! the code of each method is that of the printed bytes, 5 -/
set_option maxRecDepth 100000 in
theorem am_Q330 : am_kL cL_crossing am_c330 = true := by decide +kernel
set_option maxRecDepth 100000 in
theorem am_Q331 : am_kL cL_rubs am_c331 = true := by decide +kernel
set_option maxRecDepth 100000 in
theorem am_Q332 : am_kL cL_wearNow am_c332 = true := by decide +kernel
set_option maxRecDepth 100000 in
theorem am_Q333 : am_kL cL_event am_c333 = true := by decide +kernel
set_option maxRecDepth 100000 in
theorem am_Q334 : am_kL cL_picker am_c334 = true := by decide +kernel
set_option maxRecDepth 100000 in
theorem am_Q335 : am_kL cL_gap am_c335 = true := by decide +kernel
set_option maxRecDepth 100000 in
theorem am_Q336 : am_kL cL_nearest am_c336 = true := by decide +kernel
set_option maxRecDepth 100000 in
theorem am_Q337 : am_kL cL_upwind am_c337 = true := by decide +kernel
set_option maxRecDepth 100000 in
theorem am_Q338 : am_kL cL_threat am_c338 = true := by decide +kernel
set_option maxRecDepth 100000 in
theorem am_Q339 : am_kL cL_sum am_c339 = true := by decide +kernel
set_option maxRecDepth 100000 in
theorem am_Q340 : am_kL cL_rank am_c340 = true := by decide +kernel
set_option maxRecDepth 100000 in
theorem am_Q341 : am_kL cL_inBox am_c341 = true := by decide +kernel
set_option maxRecDepth 100000 in
theorem am_Q342 : am_kL cL_left am_c342 = true := by decide +kernel
set_option maxRecDepth 100000 in
theorem am_Q343 : am_kL cL_kiteIn am_c343 = true := by decide +kernel
set_option maxRecDepth 100000 in
theorem am_Q344 : am_kL cL_cutIn am_c344 = true := by decide +kernel
set_option maxRecDepth 100000 in
theorem am_Q345 : am_kL cL_crossIn am_c345 = true := by decide +kernel
set_option maxRecDepth 100000 in
theorem am_Q346 : am_kL cL_cutsIn am_c346 = true := by decide +kernel
set_option maxRecDepth 100000 in
theorem am_Q347 : am_kL cL_landsIn am_c347 = true := by decide +kernel
set_option maxRecDepth 100000 in
theorem am_Q348 : am_kL cL_duel am_c348 = true := by decide +kernel
set_option maxRecDepth 100000 in
theorem am_Q349 : am_kL cL_safeReel am_c349 = true := by decide +kernel
set_option maxRecDepth 100000 in
theorem am_Q350 : am_kL cL_bestReel am_c350 = true := by decide +kernel
set_option maxRecDepth 100000 in
theorem am_Q351 : am_kL cL_boldReel am_c351 = true := by decide +kernel
set_option maxRecDepth 100000 in
theorem am_Q352 : am_kL cL_run am_c352 = true := by decide +kernel
set_option maxRecDepth 100000 in
theorem am_Q353 : am_kL cL_launch am_c353 = true := by decide +kernel
set_option maxRecDepth 100000 in
theorem am_Q354 : am_kL cL_reel am_c354 = true := by decide +kernel
set_option maxRecDepth 100000 in
theorem am_Q355 : am_kL cL_letGo am_c355 = true := by decide +kernel
set_option maxRecDepth 100000 in
theorem am_Q356 : am_kL cL_pull am_c356 = true := by decide +kernel
set_option maxRecDepth 100000 in
theorem am_Q357 : am_kL cL_walk am_c357 = true := by decide +kernel
set_option maxRecDepth 100000 in
theorem am_Q358 : am_kL cL_restring am_c358 = true := by decide +kernel
set_option maxRecDepth 100000 in
theorem am_Q359 : am_kL cL_setWind am_c359 = true := by decide +kernel
set_option maxRecDepth 100000 in
theorem am_Q360 : am_kL cL_set am_c360 = true := by decide +kernel
set_option maxRecDepth 100000 in
theorem am_Q361 : am_kL cL_undo am_c361 = true := by decide +kernel
set_option maxRecDepth 100000 in
theorem am_Q362 : am_kL cL_printKite am_c362 = true := by decide +kernel
set_option maxRecDepth 100000 in
theorem am_Q363 : am_kL cL_restoreState am_c363 = true := by decide +kernel
