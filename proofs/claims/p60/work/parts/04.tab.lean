/-! the tables of the small machine, laid by wip/p60/lay04.py -/
abbrev am_Mr : Type := MethodName × ByteArray × Nat × Option FieldType × Nat × List (Nat × Nat × Nat × Nat) × Nat × Nat × Nat × Nat × Nat
/-- name, code, locals, answer, class code, handlers, parameters, frames, place of the code word, class index, words -/
def am_ms : List am_Mr := [
  (yX0_init, cX0_init, 1, none, 0, [], 0, 1, 118, 0, 60),
  (yX0_isBetween, cX0_isBetween, 12, (some .boolean), 0, [], 2, 3, 490, 0, 109),
  (yX0_heightOfLine, cX0_heightOfLine, 2, (some .int), 0, [], 2, 2, 504, 0, 81),
  (yX0_heightsApart, cX0_heightsApart, 1, (some .int), 0, [], 0, 2, 509, 0, 80),
  (yX1_init, cX1_init, 1, none, 1, [], 0, 1, 247, 1, 60),
  (yX1_copyFrom, cX1_copyFrom, 2, none, 1, [], 1, 1, 638, 1, 60),
  (yX0_init, cX0_init, 1, none, 0, [], 0, 1, 118, 0, 60),
  (yX2_init, cX2_init, 2, none, 2, [], 0, 3, 106, 2, 103),
  (yX2_clear, cX2_clear, 2, none, 2, [], 0, 1, 277, 2, 60),
  (yX2_addDefaultWind, cX2_addDefaultWind, 1, none, 2, [], 0, 2, 283, 2, 83),
  (yX2_copyFrom, cX2_copyFrom, 3, none, 2, [], 1, 3, 625, 2, 104),
  (yX2_kitesInState, cX2_kitesInState, 4, (some .int), 2, [], 1, 1, 468, 2, 60),
  (yX2_windNumberAt, cX2_windNumberAt, 4, (some .int), 2, [], 1, 1, 654, 2, 60),
  (yX2_linesCross, cX2_linesCross, 5, (some .boolean), 2, [], 2, 4, 480, 2, 140),
  (yX2_linesRub, cX2_linesRub, 3, (some .boolean), 2, [], 2, 5, 476, 2, 164),
  (yX2_pairs, cX2_pairs, 5, (some .int), 2, [], 1, 6, 472, 2, 186),
  (yX2_pickerAt, cX2_pickerAt, 11, (some .int), 2, [], 3, 2, 716, 2, 80),
  (yX2_eventAt, cX2_eventAt, 2, (some (.object "KiteQuarrel$Event")), 2, [], 1, 1, 688, 2, 60),
  (yX2_tellOfKite, cX2_tellOfKite, 4, none, 2, [], 3, 3, 680, 2, 107),
  (yX2_tell, cX2_tell, 7, none, 2, [], 5, 2, 684, 2, 81),
  (yX2_passTicks, cX2_passTicks, 3, none, 2, [], 1, 6, 642, 2, 185),
  (yX2_tick, cX2_tick, 3, none, 2, [], 0, 5, 646, 2, 163),
  (yX2_fly, cX2_fly, 5, none, 2, [], 1, 4, 650, 2, 130),
  (yX2_rubAllLines, cX2_rubAllLines, 4, none, 2, [], 0, 4, 692, 2, 140),
  (yX2_wearLine, cX2_wearLine, 5, none, 2, [], 2, 3, 696, 2, 100),
  (yX2_cutWornLines, cX2_cutWornLines, 4, none, 2, [], 0, 4, 704, 2, 140),
  (yX2_drift, cX2_drift, 3, none, 2, [], 1, 4, 708, 2, 130),
  (yX2_pickUpFallenKites, cX2_pickUpFallenKites, 4, none, 2, [], 0, 4, 712, 2, 130),
  (yX3_init, cX3_init, 2, none, 3, [], 0, 4, 411, 3, 124),
  (yX3_clear, cX3_clear, 1, none, 3, [], 0, 1, 791, 3, 60),
  (yX3_remember, cX3_remember, 2, none, 3, [], 1, 4, 761, 3, 126),
  (yX3_takeBack, cX3_takeBack, 2, none, 3, [], 1, 4, 779, 3, 126),
  (yX4_init, cX4_init, 1, none, 4, [], 0, 1, 70, 4, 60),
  (yX4_addFour, cX4_addFour, 3, none, 4, [], 1, 1, 861, 4, 60),
  (yX5_init, cX5_init, 1, none, 5, [], 0, 1, 143, 5, 60),
  (yX5_copyFrom, cX5_copyFrom, 2, none, 5, [], 1, 1, 629, 5, 60),
  (yX5_startAt, cX5_startAt, 3, none, 5, [], 2, 2, 959, 5, 80),
  (yX0_init, cX0_init, 1, none, 0, [], 0, 1, 118, 0, 60),
  (yX5_goDownAtFlyer, cX5_goDownAtFlyer, 1, none, 5, [], 0, 1, 963, 5, 60),
  (yX5_number, cX5_number, 2, (some .int), 5, [], 1, 1, 613, 5, 60),
  (yX0_init, cX0_init, 1, none, 0, [], 0, 1, 118, 0, 60),
  (yX5_distanceTo, cX5_distanceTo, 10, (some .int), 5, [], 3, 1, 501, 5, 60),
  (yX5_spanNow, cX5_spanNow, 1, (some .int), 5, [], 0, 2, 1280, 5, 89),
  (yX5_slackNow, cX5_slackNow, 1, (some .int), 5, [], 0, 2, 497, 5, 89),
  (yX5_wearBrought, cX5_wearBrought, 1, (some .int), 5, [], 0, 2, 700, 5, 80),
  (yX5_blow, cX5_blow, 2, none, 5, [], 1, 3, 663, 5, 103),
  (yX5_pullIn, cX5_pullIn, 4, none, 5, [], 0, 2, 675, 5, 80),
  (yX6_init, cX6_init, 1, none, 6, [], 0, 1, 340, 6, 60),
  (yX6_clear, cX6_clear, 1, none, 6, [], 0, 1, 878, 6, 60),
  (yX6_copyFrom, cX6_copyFrom, 4, none, 6, [], 1, 1, 993, 6, 60),
  (yX6_addWord, cX6_addWord, 5, none, 6, [], 3, 1, 942, 6, 60),
  (yX6_numberOf, cX6_numberOf, 5, (some .int), 6, [], 3, 2, 934, 6, 84),
  (yX6_isSame, cX6_isSame, 5, (some .boolean), 6, [], 3, 1, 938, 6, 60),
  (yX7_init, cX7_init, 1, none, 7, [], 0, 1, 88, 7, 60),
  (yX0_init, cX0_init, 1, none, 0, [], 0, 1, 118, 0, 60),
  (yX0_init, cX0_init, 1, none, 0, [], 0, 1, 118, 0, 60),
  (yX0_init, cX0_init, 1, none, 0, [], 0, 1, 118, 0, 60),
  (yX0_init, cX0_init, 1, none, 0, [], 0, 1, 118, 0, 60),
  (yX0_init, cX0_init, 1, none, 0, [], 0, 1, 118, 0, 60),
  (yX0_init, cX0_init, 1, none, 0, [], 0, 1, 118, 0, 60),
  (yX8_init, cX8_init, 2, none, 8, [], 1, 4, 100, 8, 124),
  (yX8_readText, cX8_readText, 3, (some .boolean), 8, [], 0, 10, 873, 8, 251),
  (yX8_readStatement, cX8_readStatement, 2, (some .boolean), 8, [], 1, 9, 917, 8, 230),
  (yX8_readKite, cX8_readKite, 3, (some .boolean), 8, [], 0, 8, 921, 8, 208),
  (yX8_readName, cX8_readName, 1, (some .boolean), 8, [], 0, 7, 930, 8, 188),
  (yX8_readOption, cX8_readOption, 5, (some .boolean), 8, [], 4, 6, 967, 8, 167),
  (yX8_readWind, cX8_readWind, 5, (some .boolean), 8, [], 0, 5, 971, 8, 144),
  (yX8_readSpeed, cX8_readSpeed, 2, (some .boolean), 8, [], 0, 4, 975, 8, 123),
  (yX8_readSetting, cX8_readSetting, 2, (some .boolean), 8, [], 1, 4, 980, 8, 123),
  (yX8_readNumber, cX8_readNumber, 3, (some .boolean), 8, [], 2, 3, 946, 8, 101),
  (yX8_readSemicolon, cX8_readSemicolon, 1, (some .boolean), 8, [], 0, 3, 988, 8, 101),
  (yX8_fail, cX8_fail, 2, (some .boolean), 8, [], 1, 1, 925, 8, 60),
  (yX8_quotedWord, cX8_quotedWord, 2, (some .int), 8, [], 0, 6, 893, 8, 167),
  (yX8_quoted, cX8_quoted, 1, (some (.object "java/lang/String")), 8, [], 1, 1, 896, 8, 60),
  (yX9_init, cX9_init, 2, none, 9, [], 1, 1, 358, 9, 60),
  (yX9_readFirst, cX9_readFirst, 1, none, 9, [], 0, 3, 882, 9, 101),
  (yX9_readNext, cX9_readNext, 2, none, 9, [], 0, 2, 886, 9, 80),
  (yX9_kindOf, cX9_kindOf, 1, (some .int), 9, [], 1, 1, 889, 9, 60),
  (yX9_isNumber, cX9_isNumber, 1, (some .boolean), 9, [], 0, 1, 950, 9, 60),
  (yX9_value, cX9_value, 3, (some .int), 9, [], 0, 1, 954, 9, 60),
  (yX9_isWord, cX9_isWord, 3, (some .boolean), 9, [], 1, 5, 911, 9, 145),
  (yX10_init, cX10_init, 1, none, 10, [], 0, 1, 226, 10, 60),
  (yX10_copyFrom, cX10_copyFrom, 2, none, 10, [], 1, 2, 633, 10, 83),
  (yX10_become, cX10_become, 4, none, 10, [], 3, 1, 287, 10, 60),
  (yX10_force, cX10_force, 1, (some .int), 10, [], 0, 2, 669, 10, 81),
  (yX0_init, cX0_init, 1, none, 0, [], 0, 1, 118, 0, 60),
  (yX11_init, cX11_init, 1, none, 11, [], 0, 5, 62, 11, 145),
  (yX11_feed, cX11_feed, 6, (some .int), 11, [], 5, 2, 857, 11, 82),
  (yX11_truncate, cX11_truncate, 2, (some .boolean), 11, [], 1, 1, 865, 11, 60),
  (yX11_parse, cX11_parse, 2, (some .int), 11, [], 0, 11, 869, 11, 273),
  (yX0_init, cX0_init, 1, none, 0, [], 0, 1, 118, 0, 60),
  (yX0_init, cX0_init, 1, none, 0, [], 0, 1, 118, 0, 60),
  (yX11_count, cX11_count, 2, (some .int), 11, [], 1, 7, 464, 11, 210),
  (yX11_setting, cX11_setting, 2, (some .int), 11, [], 1, 2, 1263, 11, 82),
  (yX0_init, cX0_init, 1, none, 0, [], 0, 1, 118, 0, 60),
  (yX11_kite, cX11_kite, 3, (some .int), 11, [], 2, 9, 516, 11, 322),
  (yX0_init, cX0_init, 1, none, 0, [], 0, 1, 118, 0, 60),
  (yX0_init, cX0_init, 1, none, 0, [], 0, 1, 118, 0, 60),
  (yX11_span, cX11_span, 3, (some .int), 11, [], 1, 9, 1276, 11, 321),
  (yX11_slack, cX11_slack, 3, (some .int), 11, [], 1, 9, 1288, 11, 321),
  (yX11_crosses, cX11_crosses, 3, (some .boolean), 11, [], 2, 9, 1243, 11, 321),
  (yX11_crossing, cX11_crossing, 5, (some .int), 11, [], 3, 9, 1253, 11, 322),
  (yX11_rubs, cX11_rubs, 4, (some .int), 11, [], 1, 9, 1248, 11, 321),
  (yX11_wearNow, cX11_wearNow, 4, (some .int), 11, [], 1, 9, 1267, 11, 321),
  (yX0_init, cX0_init, 1, none, 0, [], 0, 1, 118, 0, 60),
  (yX11_highest, cX11_highest, 4, (some .int), 11, [], 0, 1, 1293, 11, 60),
  (yX0_init, cX0_init, 1, none, 0, [], 0, 1, 118, 0, 60),
  (yX0_init, cX0_init, 1, none, 0, [], 0, 1, 118, 0, 60),
  (yX0_init, cX0_init, 1, none, 0, [], 0, 1, 118, 0, 60),
  (yX11_gap, cX11_gap, 4, (some .int), 11, [], 2, 9, 1258, 11, 321),
  (yX0_init, cX0_init, 1, none, 0, [], 0, 1, 118, 0, 60),
  (yX0_init, cX0_init, 1, none, 0, [], 0, 1, 118, 0, 60),
  (yX11_threat, cX11_threat, 6, (some .int), 11, [], 1, 9, 1272, 11, 321),
  (yX11_sum, cX11_sum, 4, (some .int), 11, [], 1, 9, 617, 11, 322),
  (yX0_init, cX0_init, 1, none, 0, [], 0, 1, 118, 0, 60),
  (yX11_inBox, cX11_inBox, 7, (some .int), 11, [], 4, 9, 1284, 11, 322),
  (yX0_init, cX0_init, 1, none, 0, [], 0, 1, 118, 0, 60),
  (yX0_init, cX0_init, 1, none, 0, [], 0, 1, 118, 0, 60),
  (yX0_init, cX0_init, 1, none, 0, [], 0, 1, 118, 0, 60),
  (yX11_kiteIn, cX11_kiteIn, 4, (some .int), 11, [], 3, 9, 621, 11, 322),
  (yX0_init, cX0_init, 1, none, 0, [], 0, 1, 118, 0, 60),
  (yX0_init, cX0_init, 1, none, 0, [], 0, 1, 118, 0, 60),
  (yX11_cutsIn, cX11_cutsIn, 2, (some .int), 11, [], 1, 9, 721, 11, 322),
  (yX11_landsIn, cX11_landsIn, 5, (some .int), 11, [], 2, 9, 725, 11, 322),
  (yX0_init, cX0_init, 1, none, 0, [], 0, 1, 118, 0, 60),
  (yX0_init, cX0_init, 1, none, 0, [], 0, 1, 118, 0, 60),
  (yX11_bestReel, cX11_bestReel, 3, (some .int), 11, [], 2, 9, 729, 11, 322),
  (yX0_init, cX0_init, 1, none, 0, [], 0, 1, 118, 0, 60),
  (yX11_run, cX11_run, 3, (some .int), 11, [], 1, 9, 738, 11, 322),
  (yX11_launch, cX11_launch, 3, (some .int), 11, [], 1, 9, 766, 11, 321),
  (yX11_reel, cX11_reel, 4, (some .int), 11, [], 2, 9, 771, 11, 322),
  (yX11_letGo, cX11_letGo, 3, (some .int), 11, [], 1, 9, 1319, 11, 321),
  (yX11_pull, cX11_pull, 5, (some .int), 11, [], 2, 9, 1305, 11, 322),
  (yX11_walk, cX11_walk, 6, (some .int), 11, [], 3, 9, 1300, 11, 322),
  (yX0_init, cX0_init, 1, none, 0, [], 0, 1, 118, 0, 60),
  (yX11_setWind, cX11_setWind, 5, (some .int), 11, [], 3, 9, 1309, 11, 322),
  (yX0_init, cX0_init, 1, none, 0, [], 0, 1, 118, 0, 60),
  (yX11_undo, cX11_undo, 1, (some .int), 11, [], 0, 9, 775, 11, 320),
  (yX0_init, cX0_init, 1, none, 0, [], 0, 1, 118, 0, 60),
  (yX0_init, cX0_init, 1, none, 0, [], 0, 1, 118, 0, 60),
  (yX0_init, cX0_init, 1, none, 0, [], 0, 1, 118, 0, 60),
  (yX0_init, cX0_init, 1, none, 0, [], 0, 1, 118, 0, 60),
  (yX11_saveState, cX11_saveState, 1, (some .int), 11, [], 0, 4, 783, 11, 126),
  (yX11_restoreState, cX11_restoreState, 1, (some .int), 11, [], 0, 9, 787, 11, 320),
  (yX11_checkKite, cX11_checkKite, 2, none, 11, [], 1, 8, 520, 11, 300),
  (yX11_checkWind, cX11_checkWind, 2, none, 11, [], 1, 8, 1313, 11, 300),
  (yX11_checkRange, cX11_checkRange, 3, none, 11, [], 3, 8, 593, 11, 300),
  (yX11_checkState, cX11_checkState, 1, none, 11, [], 1, 8, 741, 11, 300),
  (yX11_reelFor, cX11_reelFor, 9, (some .int), 11, [], 4, 6, 733, 11, 185),
  (yX0_init, cX0_init, 1, none, 0, [], 0, 1, 118, 0, 60),
  (yX0_init, cX0_init, 1, none, 0, [], 0, 1, 118, 0, 60),
  (yX11_isIn, cX11_isIn, 3, (some .boolean), 11, [], 3, 1, 523, 11, 60),
  (yX11_bounded, cX11_bounded, 3, (some .int), 11, [], 3, 2, 657, 11, 81),
  (yX0_init, cX0_init, 1, none, 0, [], 0, 1, 118, 0, 60),
  (yX0_init, cX0_init, 1, none, 0, [], 0, 1, 118, 0, 60),
  (yX0_init, cX0_init, 1, none, 0, [], 0, 1, 118, 0, 60),
  (yX0_init, cX0_init, 1, none, 0, [], 0, 1, 118, 0, 60),
  (yX0_init, cX0_init, 1, none, 0, [], 0, 1, 118, 0, 60),
  (yX0_init, cX0_init, 1, none, 0, [], 0, 1, 118, 0, 60),
  (yX0_init, cX0_init, 1, none, 0, [], 0, 1, 118, 0, 60),
  (yX0_init, cX0_init, 1, none, 0, [], 0, 1, 118, 0, 60),
  (yX0_init, cX0_init, 1, none, 0, [], 0, 1, 118, 0, 60),
  (yX0_init, cX0_init, 1, none, 0, [], 0, 1, 118, 0, 60),
  (yX0_init, cX0_init, 1, none, 0, [], 0, 1, 118, 0, 60),
  (yX0_init, cX0_init, 1, none, 0, [], 0, 1, 118, 0, 60),
  (yX0_init, cX0_init, 1, none, 0, [], 0, 1, 118, 0, 60),
  (yX0_init, cX0_init, 1, none, 0, [], 0, 1, 118, 0, 60),
  (yX0_init, cX0_init, 1, none, 0, [], 0, 1, 118, 0, 60),
  (yX0_init, cX0_init, 1, none, 0, [], 0, 1, 118, 0, 60),
  (yX0_init, cX0_init, 1, none, 0, [], 0, 1, 118, 0, 60),
  (yX0_init, cX0_init, 1, none, 0, [], 0, 1, 118, 0, 60),
  (yX0_init, cX0_init, 1, none, 0, [], 0, 1, 118, 0, 60),
  (yX0_init, cX0_init, 1, none, 0, [], 0, 1, 118, 0, 60),
  (yX0_init, cX0_init, 1, none, 0, [], 0, 1, 118, 0, 60),
  (yX0_init, cX0_init, 1, none, 0, [], 0, 1, 118, 0, 60),
  (yX0_init, cX0_init, 1, none, 0, [], 0, 1, 118, 0, 60),
  (yX0_init, cX0_init, 1, none, 0, [], 0, 1, 118, 0, 60),
  (yX0_init, cX0_init, 1, none, 0, [], 0, 1, 118, 0, 60),
  (yX0_init, cX0_init, 1, none, 0, [], 0, 1, 118, 0, 60),
  (yX0_init, cX0_init, 1, none, 0, [], 0, 1, 118, 0, 60),
  (yX0_init, cX0_init, 1, none, 0, [], 0, 1, 118, 0, 60),
  (yX0_init, cX0_init, 1, none, 0, [], 0, 1, 118, 0, 60),
  (yX0_init, cX0_init, 1, none, 0, [], 0, 1, 118, 0, 60),
  (yX0_init, cX0_init, 1, none, 0, [], 0, 1, 118, 0, 60),
  (yX0_init, cX0_init, 1, none, 0, [], 0, 1, 118, 0, 60),
  (yX0_init, cX0_init, 1, none, 0, [], 0, 1, 118, 0, 60),
  (yX0_init, cX0_init, 1, none, 0, [], 0, 1, 118, 0, 60),
  (yX0_init, cX0_init, 1, none, 0, [], 0, 1, 118, 0, 60),
  (yX0_init, cX0_init, 1, none, 0, [], 0, 1, 118, 0, 60),
  (yX0_init, cX0_init, 1, none, 0, [], 0, 1, 118, 0, 60),
  (yX0_init, cX0_init, 1, none, 0, [], 0, 1, 118, 0, 60),
  (yX0_init, cX0_init, 1, none, 0, [], 0, 1, 118, 0, 60),
  (yX0_init, cX0_init, 1, none, 0, [], 0, 1, 118, 0, 60),
  (yX0_init, cX0_init, 1, none, 0, [], 0, 1, 118, 0, 60),
  (yX0_init, cX0_init, 1, none, 0, [], 0, 1, 118, 0, 60),
  (yX0_init, cX0_init, 1, none, 0, [], 0, 1, 118, 0, 60),
  (yX0_init, cX0_init, 1, none, 0, [], 0, 1, 118, 0, 60),
  (yX0_init, cX0_init, 1, none, 0, [], 0, 1, 118, 0, 60),
  (yX0_init, cX0_init, 1, none, 0, [], 0, 1, 118, 0, 60),
  (yX0_init, cX0_init, 1, none, 0, [], 0, 1, 118, 0, 60),
  (yX0_init, cX0_init, 1, none, 0, [], 0, 1, 118, 0, 60),
  (yX0_init, cX0_init, 1, none, 0, [], 0, 1, 118, 0, 60),
  (yX0_init, cX0_init, 1, none, 0, [], 0, 1, 118, 0, 60),
  (yX0_init, cX0_init, 1, none, 0, [], 0, 1, 118, 0, 60),
  (yX0_init, cX0_init, 1, none, 0, [], 0, 1, 118, 0, 60),
  (yX0_init, cX0_init, 1, none, 0, [], 0, 1, 118, 0, 60),
  (yX0_init, cX0_init, 1, none, 0, [], 0, 1, 118, 0, 60),
  (yX0_init, cX0_init, 1, none, 0, [], 0, 1, 118, 0, 60),
  (yX0_init, cX0_init, 1, none, 0, [], 0, 1, 118, 0, 60),
  (yX0_init, cX0_init, 1, none, 0, [], 0, 1, 118, 0, 60),
  (yX0_init, cX0_init, 1, none, 0, [], 0, 1, 118, 0, 60),
  (yX0_init, cX0_init, 1, none, 0, [], 0, 1, 118, 0, 60),
  (yX0_init, cX0_init, 1, none, 0, [], 0, 1, 118, 0, 60),
  (yX0_init, cX0_init, 1, none, 0, [], 0, 1, 118, 0, 60),
  (yX0_init, cX0_init, 1, none, 0, [], 0, 1, 118, 0, 60),
  (yX0_init, cX0_init, 1, none, 0, [], 0, 1, 118, 0, 60),
  (yX0_init, cX0_init, 1, none, 0, [], 0, 1, 118, 0, 60),
  (yX0_init, cX0_init, 1, none, 0, [], 0, 1, 118, 0, 60),
  (yX0_init, cX0_init, 1, none, 0, [], 0, 1, 118, 0, 60),
  (yX0_init, cX0_init, 1, none, 0, [], 0, 1, 118, 0, 60),
  (yX0_init, cX0_init, 1, none, 0, [], 0, 1, 118, 0, 60),
  (yX0_init, cX0_init, 1, none, 0, [], 0, 1, 118, 0, 60),
  (yX0_init, cX0_init, 1, none, 0, [], 0, 1, 118, 0, 60),
  (yX0_init, cX0_init, 1, none, 0, [], 0, 1, 118, 0, 60),
  (yX0_init, cX0_init, 1, none, 0, [], 0, 1, 118, 0, 60),
  (yX0_init, cX0_init, 1, none, 0, [], 0, 1, 118, 0, 60),
  (yX0_init, cX0_init, 1, none, 0, [], 0, 1, 118, 0, 60),
  (yX0_init, cX0_init, 1, none, 0, [], 0, 1, 118, 0, 60),
  (yX0_init, cX0_init, 1, none, 0, [], 0, 1, 118, 0, 60),
  (yX0_init, cX0_init, 1, none, 0, [], 0, 1, 118, 0, 60),
  (yX0_init, cX0_init, 1, none, 0, [], 0, 1, 118, 0, 60),
  (yX0_init, cX0_init, 1, none, 0, [], 0, 1, 118, 0, 60),
  (yX0_init, cX0_init, 1, none, 0, [], 0, 1, 118, 0, 60),
  (yX0_init, cX0_init, 1, none, 0, [], 0, 1, 118, 0, 60),
  (yX0_init, cX0_init, 1, none, 0, [], 0, 1, 118, 0, 60),
  (yX0_init, cX0_init, 1, none, 0, [], 0, 1, 118, 0, 60),
  (yX0_init, cX0_init, 1, none, 0, [], 0, 1, 118, 0, 60),
  (yX0_init, cX0_init, 1, none, 0, [], 0, 1, 118, 0, 60),
  (yX0_init, cX0_init, 1, none, 0, [], 0, 1, 118, 0, 60),
  (yX0_init, cX0_init, 1, none, 0, [], 0, 1, 118, 0, 60),
  (yX0_init, cX0_init, 1, none, 0, [], 0, 1, 118, 0, 60),
  (yX0_init, cX0_init, 1, none, 0, [], 0, 1, 118, 0, 60),
  (yX0_init, cX0_init, 1, none, 0, [], 0, 1, 118, 0, 60),
  (yX0_init, cX0_init, 1, none, 0, [], 0, 1, 118, 0, 60),
  (yX0_init, cX0_init, 1, none, 0, [], 0, 1, 118, 0, 60),
  (yX0_init, cX0_init, 1, none, 0, [], 0, 1, 118, 0, 60),
  (yX0_init, cX0_init, 1, none, 0, [], 0, 1, 118, 0, 60),
  (yX0_init, cX0_init, 1, none, 0, [], 0, 1, 118, 0, 60),
  (yX0_init, cX0_init, 1, none, 0, [], 0, 1, 118, 0, 60),
  (yX0_init, cX0_init, 1, none, 0, [], 0, 1, 118, 0, 60),
  (yX0_init, cX0_init, 1, none, 0, [], 0, 1, 118, 0, 60),
  (yX0_init, cX0_init, 1, none, 0, [], 0, 1, 118, 0, 60),
  (yX0_init, cX0_init, 1, none, 0, [], 0, 1, 118, 0, 60),
  (yX0_init, cX0_init, 1, none, 0, [], 0, 1, 118, 0, 60),
  (yX0_init, cX0_init, 1, none, 0, [], 0, 1, 118, 0, 60),
  (yX0_init, cX0_init, 1, none, 0, [], 0, 1, 118, 0, 60),
  (yX0_init, cX0_init, 1, none, 0, [], 0, 1, 118, 0, 60),
  (yX0_init, cX0_init, 1, none, 0, [], 0, 1, 118, 0, 60),
  (yX0_init, cX0_init, 1, none, 0, [], 0, 1, 118, 0, 60),
  (yX0_init, cX0_init, 1, none, 0, [], 0, 1, 118, 0, 60),
  (yX0_init, cX0_init, 1, none, 0, [], 0, 1, 118, 0, 60),
  (yX0_init, cX0_init, 1, none, 0, [], 0, 1, 118, 0, 60),
  (yX0_init, cX0_init, 1, none, 0, [], 0, 1, 118, 0, 60),
  (yX0_init, cX0_init, 1, none, 0, [], 0, 1, 118, 0, 60),
  (yX0_init, cX0_init, 1, none, 0, [], 0, 1, 118, 0, 60),
  (yX0_init, cX0_init, 1, none, 0, [], 0, 1, 118, 0, 60),
  (yX0_init, cX0_init, 1, none, 0, [], 0, 1, 118, 0, 60),
  (yX0_init, cX0_init, 1, none, 0, [], 0, 1, 118, 0, 60),
  (yX0_init, cX0_init, 1, none, 0, [], 0, 1, 118, 0, 60),
  (yX0_init, cX0_init, 1, none, 0, [], 0, 1, 118, 0, 60),
  (yX0_init, cX0_init, 1, none, 0, [], 0, 1, 118, 0, 60),
  (yX0_init, cX0_init, 1, none, 0, [], 0, 1, 118, 0, 60),
  (yX0_init, cX0_init, 1, none, 0, [], 0, 1, 118, 0, 60),
  (yX0_init, cX0_init, 1, none, 0, [], 0, 1, 118, 0, 60),
  (yX0_init, cX0_init, 1, none, 0, [], 0, 1, 118, 0, 60),
  (yX0_init, cX0_init, 1, none, 0, [], 0, 1, 118, 0, 60),
  (yX0_init, cX0_init, 1, none, 0, [], 0, 1, 118, 0, 60),
  (yX0_init, cX0_init, 1, none, 0, [], 0, 1, 118, 0, 60),
  (yX0_init, cX0_init, 1, none, 0, [], 0, 1, 118, 0, 60),
  (yX0_init, cX0_init, 1, none, 0, [], 0, 1, 118, 0, 60),
  (yX0_init, cX0_init, 1, none, 0, [], 0, 1, 118, 0, 60),
  (yX0_init, cX0_init, 1, none, 0, [], 0, 1, 118, 0, 60),
  (yX0_init, cX0_init, 1, none, 0, [], 0, 1, 118, 0, 60),
  (yX0_init, cX0_init, 1, none, 0, [], 0, 1, 118, 0, 60),
  (yX0_init, cX0_init, 1, none, 0, [], 0, 1, 118, 0, 60),
  (yX0_init, cX0_init, 1, none, 0, [], 0, 1, 118, 0, 60),
  (yX0_init, cX0_init, 1, none, 0, [], 0, 1, 118, 0, 60),
  (yX0_init, cX0_init, 1, none, 0, [], 0, 1, 118, 0, 60),
  (yX0_init, cX0_init, 1, none, 0, [], 0, 1, 118, 0, 60),
  (yX0_init, cX0_init, 1, none, 0, [], 0, 1, 118, 0, 60),
  (yX0_init, cX0_init, 1, none, 0, [], 0, 1, 118, 0, 60),
  (yX0_init, cX0_init, 1, none, 0, [], 0, 1, 118, 0, 60),
  (yX0_init, cX0_init, 1, none, 0, [], 0, 1, 118, 0, 60),
  (yX0_init, cX0_init, 1, none, 0, [], 0, 1, 118, 0, 60),
  (yX0_init, cX0_init, 1, none, 0, [], 0, 1, 118, 0, 60),
  (yX0_init, cX0_init, 1, none, 0, [], 0, 1, 118, 0, 60),
  (yX0_init, cX0_init, 1, none, 0, [], 0, 1, 118, 0, 60),
  (yX0_init, cX0_init, 1, none, 0, [], 0, 1, 118, 0, 60),
  (yX0_init, cX0_init, 1, none, 0, [], 0, 1, 118, 0, 60),
  (yX0_init, cX0_init, 1, none, 0, [], 0, 1, 118, 0, 60),
  (yX0_init, cX0_init, 1, none, 0, [], 0, 1, 118, 0, 60),
  (yX0_init, cX0_init, 1, none, 0, [], 0, 1, 118, 0, 60),
  (yX0_init, cX0_init, 1, none, 0, [], 0, 1, 118, 0, 60),
  (yX0_init, cX0_init, 1, none, 0, [], 0, 1, 118, 0, 60),
  (yX0_init, cX0_init, 1, none, 0, [], 0, 1, 118, 0, 60),
  (yX0_init, cX0_init, 1, none, 0, [], 0, 1, 118, 0, 60),
  (yX0_init, cX0_init, 1, none, 0, [], 0, 1, 118, 0, 60),
  (yX0_init, cX0_init, 1, none, 0, [], 0, 1, 118, 0, 60),
  (yX0_init, cX0_init, 1, none, 0, [], 0, 1, 118, 0, 60),
  (yX0_init, cX0_init, 1, none, 0, [], 0, 1, 118, 0, 60),
  (yX0_init, cX0_init, 1, none, 0, [], 0, 1, 118, 0, 60),
  (yX0_init, cX0_init, 1, none, 0, [], 0, 1, 118, 0, 60),
  (yX0_init, cX0_init, 1, none, 0, [], 0, 1, 118, 0, 60),
  (yJ9_floorDiv_7cf53, cJ9_floorDiv_7cf53, 3, (some .int), 53, [], 2, 1, 493, 60, 60),
  (yJ9_abs_0f7a4, cJ9_abs_0f7a4, 1, (some .int), 53, [], 1, 1, 512, 60, 60),
  (yJ9_max_7cf53, cJ9_max_7cf53, 2, (some .int), 53, [], 2, 1, 486, 60, 60),
  (yJ9_min_7cf53, cJ9_min_7cf53, 2, (some .int), 53, [], 2, 1, 483, 60, 60),
  (yJ0_length_8abf5, cJ0_length_8abf5, 1, (some .int), 50, [], 0, 2, 809, 13, 80),
  (yJ0_charAt_5068e, cJ0_charAt_5068e, 2, (some .char), 50, [], 1, 4, 819, 13, 124),
  (yJ0_coder_7d493, cJ0_coder_7d493, 1, (some .byte), 50, [], 0, 1, 813, 13, 60),
  (yJ0_isLatin1_aae02, cJ0_isLatin1_aae02, 1, (some .boolean), 50, [], 0, 1, 823, 13, 60),
  (yJ0_checkIndex_df160, cJ0_checkIndex_df160, 2, none, 50, [], 2, 2, 829, 13, 82),
  (yJ1_charAt_3b067, cJ1_charAt_3b067, 2, (some .char), 51, [], 2, 3, 826, 60, 103),
  (yJ3_checkIndex_8e157, cJ3_checkIndex_8e157, 3, (some .int), 52, [], 3, 1, 834, 60, 60),
  (yJ1_canEncode_fc78d, cJ1_canEncode_fc78d, 1, (some .boolean), 51, [], 1, 1, 1168, 60, 60),
  (yJ8_newLength_cabcc, cJ8_newLength_cabcc, 4, (some .int), 59, [], 3, 2, 1045, 60, 81),
  (yJ7_copyOf_9075b, cJ7_copyOf_9075b, 3, (some (.array .byte)), 58, [], 2, 2, 1053, 60, 81),
  (yJ7_checkLength_df160, cJ7_checkLength_df160, 2, none, 58, [], 2, 1, 1215, 60, 60),
  (yJ7_copyOfRangeByte_39247, cJ7_copyOfRangeByte_39247, 5, (some (.array .byte)), 58, [], 3, 2, 1212, 60, 81),
  (yJ7_copyOfRange_39247, cJ7_copyOfRange_39247, 3, (some (.array .byte)), 58, [], 3, 3, 1209, 60, 105),
  (yJ6_stringSize_0f7a4, cJ6_stringSize_0f7a4, 4, (some .int), 57, [], 1, 1, 1140, 60, 60),
  (yJ6_getChars_ba4f3, cJ6_getChars_ba4f3, 7, (some .int), 57, [], 3, 1, 1143, 60, 60),
  (yJ5_isLatin1_aae02, cJ5_isLatin1_aae02, 1, (some .boolean), 56, [], 0, 1, 1069, 60, 60),
  (yJ5_getValue_6d5f1, cJ5_getValue_6d5f1, 1, (some (.array .byte)), 56, [], 0, 1, 1197, 60, 60),
  (yJ5_length_8abf5, cJ5_length_8abf5, 1, (some .int), 56, [], 0, 1, 1205, 60, 60),
  (yJ5_newCapacity_0f7a4, cJ5_newCapacity_0f7a4, 6, (some .int), 56, [], 1, 3, 1042, 60, 104),
  (yJ5_ensureCapacityInternal_d00df, cJ5_ensureCapacityInternal_d00df, 3, none, 56, [], 1, 4, 1038, 60, 129),
  (yJ0_getBytes_840e7, cJ0_getBytes_840e7, 4, none, 50, [], 3, 2, 1116, 13, 80),
  (yJ5_inflateIfNeededFor_a7421, cJ5_inflateIfNeededFor_a7421, 2, none, 56, [], 1, 2, 1093, 60, 80),
  (yJ5_putStringAt_47b60, cJ5_putStringAt_47b60, 3, none, 56, [], 2, 3, 1089, 60, 103),
  (yJ5_append_cf1ce, cJ5_append_cf1ce, 3, (some (.object "java/lang/AbstractStringBuilder")), 56, [], 1, 5, 1030, 60, 151),
  (yJ5_append_3fe6f, cJ5_append_3fe6f, 2, (some (.object "java/lang/AbstractStringBuilder")), 56, [], 1, 5, 1165, 60, 151),
  (yJ5_append_c97b9, cJ5_append_c97b9, 4, (some (.object "java/lang/AbstractStringBuilder")), 56, [], 1, 5, 1137, 60, 151),
  (yJ4_append_15ec4, cJ4_append_15ec4, 2, (some (.object "java/lang/StringBuilder")), 55, [], 1, 6, 1027, 12, 173),
  (yJ4_append_cf468, cJ4_append_cf468, 2, (some (.object "java/lang/StringBuilder")), 55, [], 1, 6, 1162, 12, 172),
  (yJ4_append_bf812, cJ4_append_bf812, 2, (some (.object "java/lang/StringBuilder")), 55, [], 1, 6, 1134, 12, 174),
  (yJ4_append_cf1ce, cJ4_append_cf1ce, 2, (some (.object "java/lang/AbstractStringBuilder")), 55, [], 1, 7, 1023, 12, 194),
  (yJ4_length_8abf5, cJ4_length_8abf5, 1, (some .int), 55, [], 0, 2, 1203, 12, 80),
  (yJ5_init_a7421, cJ5_init_a7421, 5, none, 56, [], 1, 8, 1005, 60, 215),
  (yJ4_init_a7421, cJ4_init_a7421, 2, none, 55, [], 1, 9, 1002, 12, 239),
  (yJ0_init_db425, cJ0_init_db425, 5, none, 50, [], 2, 4, 1191, 13, 127),
  (yJ0_init_81219, cJ0_init_81219, 2, none, 50, [], 1, 5, 1188, 13, 151),
  (yJ4_toString_0e30d, cJ4_toString_0e30d, 1, (some (.object "java/lang/String")), 55, [], 0, 6, 1183, 12, 172),
  (yX0_init, cX0_init, 1, none, 0, [], 0, 1, 118, 0, 60),
  (yX0_init, cX0_init, 1, none, 0, [], 0, 1, 118, 0, 60),
  (yX0_init, cX0_init, 1, none, 0, [], 0, 1, 118, 0, 60),
  (yX0_init, cX0_init, 1, none, 0, [], 0, 1, 118, 0, 60),
  (yL_cell, cL_cell, 2, (some .int), 54, [], 2, 1, 797, 60, 60),
  (yL_draw, cL_draw, 4, (some .int), 54, [], 4, 2, 794, 60, 81),
  (yL_fed, cL_fed, 5, none, 54, [], 2, 5, 805, 60, 145),
  (yL_parsed, cL_parsed, 2, (some .int), 54, [], 2, 12, 802, 60, 294),
  (yL_setup, cL_setup, 7, (some (.object "java/lang/String")), 54, [], 2, 10, 996, 60, 260),
  (yL_isSound, cL_isSound, 11, (some .boolean), 54, [], 2, 10, 1239, 60, 348),
  (yL_acts, cL_acts, 5, none, 54, [], 4, 10, 1296, 60, 347),
  (yL_law, cL_law, 12, (some .boolean), 54, [], 1, 13, 0, 60, 378)]
def am_cn (k : Nat) : String := match k with
  | 0 => RX0
  | 1 => RX1
  | 2 => RX2
  | 3 => RX3
  | 4 => RX4
  | 5 => RX5
  | 6 => RX6
  | 7 => RX7
  | 8 => RX8
  | 9 => RX9
  | 10 => RX10
  | 11 => RX11
  | 50 => RJ0
  | 51 => RJ1
  | 52 => RJ3
  | 53 => RJ9
  | 55 => RJ4
  | 56 => RJ5
  | 57 => RJ6
  | 58 => RJ7
  | 59 => RJ8
  | _ => RL
def am_d : am_Mr := (yL_law, cL_law, 0, none, 54, [], 0, 0, 0, 0, 0)
def am_M (k : Nat) : am_Mr := am_ms.getD k am_d
def am_Y (k : Nat) : MethodName := (am_M k).1
def am_X (k : Nat) : Nat := (am_M k).2.2.1
def am_R (k : Nat) : Option FieldType := (am_M k).2.2.2.1
def am_O (k : Nat) : Nat := (am_M k).2.2.2.2.1
def am_H (k : Nat) : List (Nat × Nat × Nat × Nat) := (am_M k).2.2.2.2.2.1
def am_N (k : Nat) : Nat := (am_M k).2.2.2.2.2.2.1
def am_K (k : Nat) : Nat := (am_M k).2.2.2.2.2.2.2.1
def am_I (k : Nat) : Nat := (am_M k).2.2.2.2.2.2.2.2.1
def am_C (k : Nat) : Nat := (am_M k).2.2.2.2.2.2.2.2.2.1
def am_Q (k : Nat) : Nat := (am_M k).2.2.2.2.2.2.2.2.2.2
def am_c0 : List (Nat × Instr) := [(0, .aload_n 0), (1, .invokespecial 1), (4, .return_)]
def am_c1_0 : List (Nat × Instr) := [(0, .aload_n 1), (1, .getfield 7), (4, .aload_n 1), (5, .getfield 13), (8, .isub), (9, .istore_n 3), (10, .aload_n 1), (11, .getfield 16), (14, .aload_n 1), (15, .getfield 19), (18, .isub), (19, .istore 4), (21, .aload_n 2), (22, .getfield 7), (25, .aload_n 2), (26, .getfield 13), (29, .isub), (30, .istore 5), (32, .aload_n 2), (33, .getfield 16), (36, .aload_n 2), (37, .getfield 19), (40, .isub), (41, .istore 6), (43, .aload_n 2), (44, .getfield 13), (47, .aload_n 1), (48, .getfield 13), (51, .isub), (52, .istore 7), (54, .aload_n 2), (55, .getfield 19), (58, .aload_n 1), (59, .getfield 19), (62, .isub), (63, .istore 8), (65, .iload_n 3), (66, .iload 6), (68, .imul), (69, .iload 4)]
def am_c1_1 : List (Nat × Instr) := [(71, .iload 5), (73, .imul), (74, .isub), (75, .istore 9), (77, .iload 7), (79, .iload 6), (81, .imul), (82, .iload 8), (84, .iload 5), (86, .imul), (87, .isub), (88, .istore 10), (90, .iload 7), (92, .iload 4), (94, .imul), (95, .iload 8), (97, .iload_n 3), (98, .imul), (99, .isub), (100, .istore 11), (102, .iload 9), (104, .ifCond .ge 18), (107, .iload 9), (109, .ineg), (110, .istore 9), (112, .iload 10), (114, .ineg), (115, .istore 10), (117, .iload 11), (119, .ineg), (120, .istore 11), (122, .iload 9), (124, .ifCond .eq 27), (127, .iload 10), (129, .ifCond .le 22), (132, .iload 10), (134, .iload 9), (136, .if_icmp .ge 15), (139, .iload 11), (141, .ifCond .le 10)]
def am_c1_2 : List (Nat × Instr) := [(144, .iload 11), (146, .iload 9), (148, .if_icmp .lt 5), (151, .iconst 0), (152, .ireturn), (153, .aload_n 0), (154, .aload_n 1), (155, .getfield 13), (158, .iload_n 3), (159, .iload 10), (161, .imul), (162, .iload 9), (164, .invokestatic 22), (167, .iadd), (168, .putfield 28), (171, .aload_n 0), (172, .aload_n 1), (173, .getfield 19), (176, .iload 4), (178, .iload 10), (180, .imul), (181, .iload 9), (183, .invokestatic 22), (186, .iadd), (187, .putfield 31), (190, .aload_n 0), (191, .aload_n 1), (192, .getfield 32), (195, .iload 10), (197, .imul), (198, .iload 9), (200, .idiv), (201, .aload_n 1), (202, .invokevirtual 35), (205, .invokestatic 39), (208, .putfield 42), (211, .aload_n 0), (212, .aload_n 2), (213, .getfield 32), (216, .iload 11)]
def am_c1_3 : List (Nat × Instr) := [(218, .imul), (219, .iload 9), (221, .idiv), (222, .aload_n 2), (223, .invokevirtual 35), (226, .invokestatic 39), (229, .putfield 45), (232, .iconst 1), (233, .ireturn)]
def am_c1 : List (Nat × Instr) := (am_c1_0 ++ (am_c1_1 ++ (am_c1_2 ++ am_c1_3)))
def am_c2 : List (Nat × Instr) := [(0, .iload_n 1), (1, .ifCond .le 15), (4, .iconst 0), (5, .iload_n 0), (6, .iload_n 1), (7, .iconst 2), (8, .idiv), (9, .isub), (10, .invokestatic 48), (13, .goto 4), (16, .iload_n 0), (17, .ireturn)]
def am_c3 : List (Nat × Instr) := [(0, .aload_n 0), (1, .getfield 42), (4, .aload_n 0), (5, .getfield 45), (8, .isub), (9, .invokestatic 51), (12, .ireturn)]
def am_c4 : List (Nat × Instr) := [(0, .aload_n 0), (1, .invokespecial 1), (4, .return_)]
def am_c5 : List (Nat × Instr) := [(0, .aload_n 0), (1, .aload_n 1), (2, .getfield 7), (5, .putfield 7), (8, .aload_n 0), (9, .aload_n 1), (10, .getfield 13), (13, .putfield 13), (16, .aload_n 0), (17, .aload_n 1), (18, .getfield 16), (21, .putfield 16), (24, .aload_n 0), (25, .aload_n 1), (26, .getfield 19), (29, .putfield 19), (32, .aload_n 0), (33, .aload_n 1), (34, .getfield 22), (37, .putfield 22), (40, .aload_n 0), (41, .aload_n 1), (42, .getfield 25), (45, .putfield 25), (48, .return_)]
def am_c7_0 : List (Nat × Instr) := [(0, .aload_n 0), (1, .invokespecial 3), (4, .aload_n 0), (5, .bipush 10), (7, .anewarray 9), (10, .putfield 11), (13, .aload_n 0), (14, .iconst 4), (15, .anewarray 17), (18, .putfield 19), (21, .aload_n 0), (22, .bipush 12), (24, .anewarray 23), (27, .putfield 25), (30, .aload_n 0), (31, .bipush 6), (33, .newarray .int), (35, .putfield 29), (38, .aload_n 0), (39, .new 33), (42, .dup), (43, .invokespecial 35), (46, .putfield 36), (49, .iconst 0), (50, .istore_n 1), (51, .iload_n 1), (52, .bipush 10), (54, .if_icmp .ge 22), (57, .aload_n 0), (58, .getfield 11), (61, .iload_n 1), (62, .new 9), (65, .dup), (66, .invokespecial 40), (69, .aastore), (70, .iinc 1 1), (73, .goto (-22)), (76, .iconst 0), (77, .istore_n 1), (78, .iload_n 1)]
def am_c7_1 : List (Nat × Instr) := [(79, .iconst 4), (80, .if_icmp .ge 22), (83, .aload_n 0), (84, .getfield 19), (87, .iload_n 1), (88, .new 17), (91, .dup), (92, .invokespecial 41), (95, .aastore), (96, .iinc 1 1), (99, .goto (-21)), (102, .iconst 0), (103, .istore_n 1), (104, .iload_n 1), (105, .bipush 12), (107, .if_icmp .ge 22), (110, .aload_n 0), (111, .getfield 25), (114, .iload_n 1), (115, .new 23), (118, .dup), (119, .invokespecial 42), (122, .aastore), (123, .iinc 1 1), (126, .goto (-22)), (129, .aload_n 0), (130, .invokevirtual 43), (133, .aload_n 0), (134, .invokevirtual 46), (137, .return_)]
def am_c7 : List (Nat × Instr) := (am_c7_0 ++ am_c7_1)
def am_c8 : List (Nat × Instr) := [(0, .aload_n 0), (1, .iconst 0), (2, .putfield 49), (5, .aload_n 0), (6, .iconst 0), (7, .putfield 53), (10, .aload_n 0), (11, .iconst 0), (12, .putfield 56), (15, .aload_n 0), (16, .iconst 0), (17, .putfield 59), (20, .aload_n 0), (21, .iconst 0), (22, .putfield 62), (25, .aload_n 0), (26, .iconst 0), (27, .putfield 65), (30, .iconst 0), (31, .istore_n 1), (32, .iload_n 1), (33, .bipush 6), (35, .if_icmp .ge 20), (38, .aload_n 0), (39, .getfield 29), (42, .iload_n 1), (43, .getstatic 68), (46, .iload_n 1), (47, .iaload), (48, .iastore), (49, .iinc 1 1), (52, .goto (-20)), (55, .return_)]
def am_c9 : List (Nat × Instr) := [(0, .aload_n 0), (1, .getfield 19), (4, .iconst 0), (5, .aaload), (6, .iconst 0), (7, .iconst 3), (8, .iconst 0), (9, .invokevirtual 71), (12, .aload_n 0), (13, .iconst 1), (14, .putfield 53), (17, .return_)]
def am_c10_0 : List (Nat × Instr) := [(0, .aload_n 0), (1, .aload_n 1), (2, .getfield 49), (5, .putfield 49), (8, .aload_n 0), (9, .aload_n 1), (10, .getfield 53), (13, .putfield 53), (16, .aload_n 0), (17, .aload_n 1), (18, .getfield 56), (21, .putfield 56), (24, .aload_n 0), (25, .aload_n 1), (26, .getfield 59), (29, .putfield 59), (32, .aload_n 0), (33, .aload_n 1), (34, .getfield 62), (37, .putfield 62), (40, .aload_n 0), (41, .aload_n 1), (42, .getfield 65), (45, .putfield 65), (48, .iconst 0), (49, .istore_n 2), (50, .iload_n 2), (51, .aload_n 0), (52, .getfield 49), (55, .if_icmp .ge 24), (58, .aload_n 0), (59, .getfield 11), (62, .iload_n 2), (63, .aaload), (64, .aload_n 1), (65, .getfield 11), (68, .iload_n 2), (69, .aaload), (70, .invokevirtual 75), (73, .iinc 2 1)]
def am_c10_1 : List (Nat × Instr) := [(76, .goto (-26)), (79, .iconst 0), (80, .istore_n 2), (81, .iload_n 2), (82, .aload_n 0), (83, .getfield 53), (86, .if_icmp .ge 24), (89, .aload_n 0), (90, .getfield 19), (93, .iload_n 2), (94, .aaload), (95, .aload_n 1), (96, .getfield 19), (99, .iload_n 2), (100, .aaload), (101, .invokevirtual 79), (104, .iinc 2 1), (107, .goto (-26)), (110, .iconst 0), (111, .istore_n 2), (112, .iload_n 2), (113, .bipush 12), (115, .if_icmp .ge 24), (118, .aload_n 0), (119, .getfield 25), (122, .iload_n 2), (123, .aaload), (124, .aload_n 1), (125, .getfield 25), (128, .iload_n 2), (129, .aaload), (130, .invokevirtual 82), (133, .iinc 2 1), (136, .goto (-24)), (139, .iconst 0), (140, .istore_n 2), (141, .iload_n 2), (142, .bipush 6), (144, .if_icmp .ge 21), (147, .aload_n 0)]
def am_c10_2 : List (Nat × Instr) := [(148, .getfield 29), (151, .iload_n 2), (152, .aload_n 1), (153, .getfield 29), (156, .iload_n 2), (157, .iaload), (158, .iastore), (159, .iinc 2 1), (162, .goto (-21)), (165, .return_)]
def am_c10 : List (Nat × Instr) := (am_c10_0 ++ (am_c10_1 ++ am_c10_2))
def am_c11 : List (Nat × Instr) := [(0, .iconst 0), (1, .istore_n 2), (2, .iconst 0), (3, .istore_n 3), (4, .iload_n 3), (5, .aload_n 0), (6, .getfield 49), (9, .if_icmp .ge 25), (12, .aload_n 0), (13, .getfield 11), (16, .iload_n 3), (17, .aaload), (18, .getfield 85), (21, .iload_n 1), (22, .if_icmp .ne 6), (25, .iinc 2 1), (28, .iinc 3 1), (31, .goto (-27)), (34, .iload_n 2), (35, .ireturn)]
def am_c12 : List (Nat × Instr) := [(0, .iconst 0), (1, .istore_n 2), (2, .iconst 1), (3, .istore_n 3), (4, .iload_n 3), (5, .aload_n 0), (6, .getfield 53), (9, .if_icmp .ge 24), (12, .aload_n 0), (13, .getfield 19), (16, .iload_n 3), (17, .aaload), (18, .getfield 88), (21, .iload_n 1), (22, .if_icmp .gt 5), (25, .iload_n 3), (26, .istore_n 2), (27, .iinc 3 1), (30, .goto (-26)), (33, .iload_n 2), (34, .ireturn)]
def am_c13 : List (Nat × Instr) := [(0, .aload_n 0), (1, .getfield 11), (4, .iload_n 1), (5, .iload_n 2), (6, .invokestatic 91), (9, .aaload), (10, .astore_n 3), (11, .aload_n 0), (12, .getfield 11), (15, .iload_n 1), (16, .iload_n 2), (17, .invokestatic 97), (20, .aaload), (21, .astore 4), (23, .aload_n 3), (24, .getfield 85), (27, .ifCond .ne 28), (30, .aload 4), (32, .getfield 85), (35, .ifCond .ne 20), (38, .aload_n 0), (39, .getfield 36), (42, .aload_n 3), (43, .aload 4), (45, .invokevirtual 100), (48, .ifCond .eq 7), (51, .iconst 1), (52, .goto 4), (55, .iconst 0), (56, .ireturn)]
def am_c14 : List (Nat × Instr) := [(0, .aload_n 0), (1, .iload_n 1), (2, .iload_n 2), (3, .invokevirtual 104), (6, .ifCond .eq 23), (9, .aload_n 0), (10, .getfield 36), (13, .invokevirtual 108), (16, .aload_n 0), (17, .getfield 29), (20, .iconst 4), (21, .iaload), (22, .if_icmp .gt 7), (25, .iconst 1), (26, .goto 4), (29, .iconst 0), (30, .ireturn)]
def am_c15 : List (Nat × Instr) := [(0, .iconst 0), (1, .istore_n 2), (2, .iconst 0), (3, .istore_n 3), (4, .iload_n 3), (5, .aload_n 0), (6, .getfield 49), (9, .if_icmp .ge 59), (12, .iload_n 3), (13, .iconst 1), (14, .iadd), (15, .istore 4), (17, .iload 4), (19, .aload_n 0), (20, .getfield 49), (23, .if_icmp .ge 39), (26, .iload_n 1), (27, .ifCond .eq 16), (30, .aload_n 0), (31, .iload_n 3), (32, .iload 4), (34, .invokevirtual 112), (37, .ifCond .eq 19), (40, .goto 13), (43, .aload_n 0), (44, .iload_n 3), (45, .iload 4), (47, .invokevirtual 104), (50, .ifCond .eq 6), (53, .iinc 2 1), (56, .iinc 4 1), (59, .goto (-42)), (62, .iinc 3 1), (65, .goto (-61)), (68, .iload_n 2), (69, .ireturn)]
def am_c16_0 : List (Nat × Instr) := [(0, .iconst (-1)), (1, .istore 4), (3, .iconst 0), (4, .istore 5), (6, .iconst 0), (7, .istore 6), (9, .iload 6), (11, .aload_n 0), (12, .getfield 49), (15, .if_icmp .ge 126), (18, .aload_n 0), (19, .getfield 11), (22, .iload 6), (24, .aaload), (25, .astore 7), (27, .iload_n 1), (28, .aload 7), (30, .getfield 115), (33, .isub), (34, .invokestatic 118), (37, .istore 8), (39, .iload_n 2), (40, .aload 7), (42, .getfield 122), (45, .isub), (46, .invokestatic 118), (49, .istore 9), (51, .iload 6), (53, .iload_n 3), (54, .if_icmp .eq 24), (57, .aload 7), (59, .getfield 85), (62, .ifCond .eq 12), (65, .aload 7), (67, .getfield 85), (70, .iconst 1), (71, .if_icmp .ne 7), (74, .iconst 1), (75, .goto 4), (78, .iconst 0)]
def am_c16_1 : List (Nat × Instr) := [(79, .istore 10), (81, .iload 10), (83, .ifCond .eq 52), (86, .iload 8), (88, .aload_n 0), (89, .getfield 29), (92, .iconst 5), (93, .iaload), (94, .if_icmp .gt 41), (97, .iload 9), (99, .aload_n 0), (100, .getfield 29), (103, .iconst 5), (104, .iaload), (105, .if_icmp .gt 30), (108, .iload 4), (110, .iconst (-1)), (111, .if_icmp .eq 13), (114, .iload 8), (116, .iload 9), (118, .iadd), (119, .iload 5), (121, .if_icmp .ge 14), (124, .iload 6), (126, .istore 4), (128, .iload 8), (130, .iload 9), (132, .iadd), (133, .istore 5), (135, .iinc 6 1), (138, .goto (-129)), (141, .iload 4), (143, .ireturn)]
def am_c16 : List (Nat × Instr) := (am_c16_0 ++ am_c16_1)
def am_c17 : List (Nat × Instr) := [(0, .aload_n 0), (1, .getfield 25), (4, .aload_n 0), (5, .getfield 59), (8, .iload_n 1), (9, .iadd), (10, .bipush 12), (12, .irem), (13, .aaload), (14, .areturn)]
def am_c18 : List (Nat × Instr) := [(0, .aload_n 0), (1, .iload_n 1), (2, .iload_n 2), (3, .iload_n 3), (4, .aload_n 0), (5, .getfield 11), (8, .iload_n 2), (9, .aaload), (10, .getfield 125), (13, .aload_n 0), (14, .getfield 11), (17, .iload_n 2), (18, .aaload), (19, .getfield 128), (22, .invokevirtual 131), (25, .return_)]
def am_c19 : List (Nat × Instr) := [(0, .aload_n 0), (1, .getfield 56), (4, .bipush 12), (6, .if_icmp .ne 19), (9, .aload_n 0), (10, .aload_n 0), (11, .getfield 59), (14, .iconst 1), (15, .iadd), (16, .bipush 12), (18, .irem), (19, .putfield 59), (22, .goto 13), (25, .aload_n 0), (26, .dup), (27, .getfield 56), (30, .iconst 1), (31, .iadd), (32, .putfield 56), (35, .aload_n 0), (36, .aload_n 0), (37, .getfield 56), (40, .iconst 1), (41, .isub), (42, .invokevirtual 135), (45, .astore 6), (47, .aload 6), (49, .aload_n 0), (50, .getfield 62), (53, .putfield 139), (56, .aload 6), (58, .iload_n 1), (59, .putfield 140), (62, .aload 6), (64, .iload_n 2), (65, .putfield 143), (68, .aload 6), (70, .iload_n 3), (71, .putfield 146), (74, .aload 6), (76, .iload 4), (78, .putfield 149), (81, .aload 6), (83, .iload 5), (85, .putfield 150), (88, .return_)]
def am_c20 : List (Nat × Instr) := [(0, .iconst 0), (1, .istore_n 2), (2, .iload_n 2), (3, .iload_n 1), (4, .if_icmp .ge 23), (7, .aload_n 0), (8, .getfield 62), (11, .sipush 5000), (14, .if_icmp .ge 13), (17, .aload_n 0), (18, .invokevirtual 151), (21, .iinc 2 1), (24, .goto (-22)), (27, .return_)]
def am_c21_0 : List (Nat × Instr) := [(0, .iconst 0), (1, .istore_n 1), (2, .iconst 0), (3, .istore_n 2), (4, .iload_n 2), (5, .aload_n 0), (6, .getfield 49), (9, .if_icmp .ge 28), (12, .aload_n 0), (13, .getfield 11), (16, .iload_n 2), (17, .aaload), (18, .getfield 85), (21, .iconst 2), (22, .if_icmp .ne 9), (25, .iload_n 1), (26, .iconst 1), (27, .iload_n 2), (28, .ishl), (29, .ior), (30, .istore_n 1), (31, .iinc 2 1), (34, .goto (-30)), (37, .iconst 0), (38, .istore_n 2), (39, .iload_n 2), (40, .aload_n 0), (41, .getfield 49), (44, .if_icmp .ge 26), (47, .aload_n 0), (48, .getfield 11), (51, .iload_n 2), (52, .aaload), (53, .getfield 85), (56, .ifCond .ne 8), (59, .aload_n 0), (60, .iload_n 2), (61, .invokevirtual 154), (64, .iinc 2 1), (67, .goto (-28))]
def am_c21_1 : List (Nat × Instr) := [(70, .aload_n 0), (71, .invokevirtual 158), (74, .aload_n 0), (75, .invokevirtual 161), (78, .iconst 0), (79, .istore_n 2), (80, .iload_n 2), (81, .aload_n 0), (82, .getfield 49), (85, .if_icmp .ge 22), (88, .iload_n 1), (89, .iconst 1), (90, .iload_n 2), (91, .ishl), (92, .iand), (93, .ifCond .eq 8), (96, .aload_n 0), (97, .iload_n 2), (98, .invokevirtual 164), (101, .iinc 2 1), (104, .goto (-24)), (107, .aload_n 0), (108, .invokevirtual 167), (111, .aload_n 0), (112, .dup), (113, .getfield 62), (116, .iconst 1), (117, .iadd), (118, .putfield 62), (121, .return_)]
def am_c21 : List (Nat × Instr) := (am_c21_0 ++ am_c21_1)
def am_c22_0 : List (Nat × Instr) := [(0, .aload_n 0), (1, .getfield 11), (4, .iload_n 1), (5, .aaload), (6, .astore_n 2), (7, .aload_n 0), (8, .getfield 19), (11, .aload_n 0), (12, .aload_n 2), (13, .getfield 170), (16, .invokevirtual 173), (19, .aaload), (20, .astore_n 3), (21, .aload_n 2), (22, .aload_n 2), (23, .getfield 176), (26, .aload_n 2), (27, .getfield 179), (30, .iadd), (31, .iconst 1), (32, .sipush 400), (35, .invokestatic 182), (38, .putfield 176), (41, .aload_n 2), (42, .aload_n 3), (43, .invokevirtual 186), (46, .aload_n 2), (47, .invokevirtual 189), (50, .aload_n 0), (51, .getfield 29), (54, .iconst 0), (55, .iaload), (56, .if_icmp .gt 54), (59, .aload_n 2), (60, .getfield 179), (63, .ifCond .ge 12), (66, .aload_n 0), (67, .getfield 29), (70, .iconst 2), (71, .iaload)]
def am_c22_1 : List (Nat × Instr) := [(72, .goto 4), (75, .iconst 0), (76, .istore 4), (78, .aload_n 2), (79, .sipush 300), (82, .aload_n 2), (83, .getfield 170), (86, .aload_n 0), (87, .getfield 29), (90, .iconst 1), (91, .iaload), (92, .aload_n 3), (93, .invokevirtual 192), (96, .imul), (97, .iadd), (98, .iload 4), (100, .iadd), (101, .invokestatic 91), (104, .putfield 170), (107, .goto 22), (110, .aload_n 2), (111, .iconst 0), (112, .aload_n 2), (113, .getfield 170), (116, .aload_n 0), (117, .getfield 29), (120, .iconst 3), (121, .iaload), (122, .isub), (123, .invokestatic 97), (126, .putfield 170), (129, .aload_n 2), (130, .invokevirtual 195), (133, .aload_n 2), (134, .getfield 170), (137, .ifCond .ne 15), (140, .aload_n 2), (141, .iconst 1), (142, .putfield 85), (145, .aload_n 0)]
def am_c22_2 : List (Nat × Instr) := [(146, .iconst 0), (147, .iload_n 1), (148, .iconst (-1)), (149, .invokevirtual 198), (152, .return_)]
def am_c22 : List (Nat × Instr) := (am_c22_0 ++ (am_c22_1 ++ am_c22_2))
def am_c23_0 : List (Nat × Instr) := [(0, .iconst 0), (1, .istore_n 1), (2, .iload_n 1), (3, .aload_n 0), (4, .getfield 49), (7, .if_icmp .ge 29), (10, .aload_n 0), (11, .getfield 11), (14, .iload_n 1), (15, .aaload), (16, .iconst 0), (17, .putfield 201), (20, .aload_n 0), (21, .getfield 11), (24, .iload_n 1), (25, .aaload), (26, .iconst (-1)), (27, .putfield 204), (30, .iinc 1 1), (33, .goto (-31)), (36, .iconst 0), (37, .istore_n 1), (38, .iload_n 1), (39, .aload_n 0), (40, .getfield 49), (43, .if_icmp .ge 111), (46, .iload_n 1), (47, .iconst 1), (48, .iadd), (49, .istore_n 2), (50, .iload_n 2), (51, .aload_n 0), (52, .getfield 49), (55, .if_icmp .ge 93), (58, .aload_n 0), (59, .getfield 11), (62, .iload_n 1), (63, .aaload), (64, .getfield 85), (67, .ifCond .ne 19)]
def am_c23_1 : List (Nat × Instr) := [(70, .aload_n 0), (71, .getfield 11), (74, .iload_n 2), (75, .aaload), (76, .getfield 85), (79, .ifCond .ne 7), (82, .iconst 1), (83, .goto 4), (86, .iconst 0), (87, .istore_n 3), (88, .iload_n 3), (89, .ifCond .eq 53), (92, .aload_n 0), (93, .getfield 36), (96, .aload_n 0), (97, .getfield 11), (100, .iload_n 1), (101, .aaload), (102, .aload_n 0), (103, .getfield 11), (106, .iload_n 2), (107, .aaload), (108, .invokevirtual 100), (111, .ifCond .eq 31), (114, .aload_n 0), (115, .getfield 36), (118, .invokevirtual 108), (121, .aload_n 0), (122, .getfield 29), (125, .iconst 4), (126, .iaload), (127, .if_icmp .gt 15), (130, .aload_n 0), (131, .iload_n 1), (132, .iload_n 2), (133, .invokevirtual 207), (136, .aload_n 0), (137, .iload_n 2), (138, .iload_n 1), (139, .invokevirtual 207)]
def am_c23_2 : List (Nat × Instr) := [(142, .iinc 2 1), (145, .goto (-95)), (148, .iinc 1 1), (151, .goto (-113)), (154, .return_)]
def am_c23 : List (Nat × Instr) := (am_c23_0 ++ (am_c23_1 ++ am_c23_2))
def am_c24 : List (Nat × Instr) := [(0, .aload_n 0), (1, .getfield 11), (4, .iload_n 1), (5, .aaload), (6, .astore_n 3), (7, .aload_n 0), (8, .getfield 11), (11, .iload_n 2), (12, .aaload), (13, .invokevirtual 211), (16, .istore 4), (18, .aload_n 3), (19, .dup), (20, .getfield 214), (23, .iload 4), (25, .iadd), (26, .putfield 214), (29, .aload_n 3), (30, .getfield 204), (33, .iconst (-1)), (34, .if_icmp .eq 12), (37, .iload 4), (39, .aload_n 3), (40, .getfield 201), (43, .if_icmp .le 14), (46, .aload_n 3), (47, .iload 4), (49, .putfield 201), (52, .aload_n 3), (53, .iload_n 2), (54, .putfield 204), (57, .return_)]
def am_c25_0 : List (Nat × Instr) := [(0, .iconst 0), (1, .istore_n 1), (2, .iload_n 1), (3, .aload_n 0), (4, .getfield 49), (7, .if_icmp .ge 131), (10, .aload_n 0), (11, .getfield 11), (14, .iload_n 1), (15, .aaload), (16, .astore_n 2), (17, .aload_n 2), (18, .getfield 85), (21, .ifCond .ne 111), (24, .aload_n 2), (25, .getfield 214), (28, .aload_n 2), (29, .getfield 217), (32, .if_icmp .lt 100), (35, .aload_n 2), (36, .getfield 204), (39, .iconst (-1)), (40, .if_icmp .eq 92), (43, .aload_n 2), (44, .getfield 204), (47, .istore_n 3), (48, .aload_n 2), (49, .iconst 2), (50, .putfield 85), (53, .aload_n 2), (54, .iload_n 3), (55, .putfield 220), (58, .aload_n 0), (59, .getfield 11), (62, .iload_n 3), (63, .aaload), (64, .dup), (65, .getfield 223), (68, .iconst 1), (69, .iadd)]
def am_c25_1 : List (Nat × Instr) := [(70, .putfield 223), (73, .aload_n 0), (74, .dup), (75, .getfield 65), (78, .iconst 1), (79, .iadd), (80, .putfield 65), (83, .aload_n 0), (84, .getfield 36), (87, .aload_n 0), (88, .getfield 11), (91, .iload_n 1), (92, .iload_n 3), (93, .invokestatic 91), (96, .aaload), (97, .aload_n 0), (98, .getfield 11), (101, .iload_n 1), (102, .iload_n 3), (103, .invokestatic 97), (106, .aaload), (107, .invokevirtual 100), (110, .pop), (111, .aload_n 0), (112, .iconst 1), (113, .iload_n 1), (114, .iload_n 3), (115, .aload_n 0), (116, .getfield 36), (119, .getfield 226), (122, .aload_n 0), (123, .getfield 36), (126, .getfield 227), (129, .invokevirtual 131), (132, .iinc 1 1), (135, .goto (-133)), (138, .return_)]
def am_c25 : List (Nat × Instr) := (am_c25_0 ++ am_c25_1)
def am_c26 : List (Nat × Instr) := [(0, .aload_n 0), (1, .getfield 11), (4, .iload_n 1), (5, .aaload), (6, .astore_n 2), (7, .aload_n 2), (8, .aload_n 0), (9, .getfield 19), (12, .aload_n 0), (13, .aload_n 2), (14, .getfield 170), (17, .invokevirtual 173), (20, .aaload), (21, .invokevirtual 186), (24, .aload_n 2), (25, .iconst 0), (26, .aload_n 2), (27, .getfield 170), (30, .aload_n 0), (31, .getfield 29), (34, .iconst 3), (35, .iaload), (36, .isub), (37, .invokestatic 97), (40, .putfield 170), (43, .aload_n 2), (44, .getfield 170), (47, .ifCond .ne 15), (50, .aload_n 2), (51, .iconst 3), (52, .putfield 85), (55, .aload_n 0), (56, .iconst 2), (57, .iload_n 1), (58, .iconst (-1)), (59, .invokevirtual 198), (62, .return_)]
def am_c27_0 : List (Nat × Instr) := [(0, .iconst 0), (1, .istore_n 1), (2, .iload_n 1), (3, .aload_n 0), (4, .getfield 49), (7, .if_icmp .ge 79), (10, .aload_n 0), (11, .getfield 11), (14, .iload_n 1), (15, .aaload), (16, .astore_n 2), (17, .aload_n 2), (18, .getfield 85), (21, .iconst 3), (22, .if_icmp .ne 19), (25, .aload_n 0), (26, .aload_n 2), (27, .getfield 125), (30, .aload_n 2), (31, .getfield 128), (34, .iload_n 1), (35, .invokevirtual 228), (38, .goto 4), (41, .iconst (-1)), (42, .istore_n 3), (43, .iload_n 3), (44, .iconst (-1)), (45, .if_icmp .eq 35), (48, .aload_n 2), (49, .iconst 4), (50, .putfield 85), (53, .aload_n 2), (54, .iload_n 3), (55, .putfield 231), (58, .aload_n 0), (59, .getfield 11), (62, .iload_n 3), (63, .aaload), (64, .dup), (65, .getfield 223)]
def am_c27_1 : List (Nat × Instr) := [(68, .iconst 2), (69, .iadd), (70, .putfield 223), (73, .aload_n 0), (74, .iconst 3), (75, .iload_n 1), (76, .iload_n 3), (77, .invokevirtual 198), (80, .iinc 1 1), (83, .goto (-81)), (86, .return_)]
def am_c27 : List (Nat × Instr) := (am_c27_0 ++ am_c27_1)
def am_c28 : List (Nat × Instr) := [(0, .aload_n 0), (1, .invokespecial 3), (4, .aload_n 0), (5, .bipush 10), (7, .anewarray 9), (10, .putfield 11), (13, .iconst 0), (14, .istore_n 1), (15, .iload_n 1), (16, .bipush 10), (18, .if_icmp .ge 22), (21, .aload_n 0), (22, .getfield 11), (25, .iload_n 1), (26, .new 9), (29, .dup), (30, .invokespecial 17), (33, .aastore), (34, .iinc 1 1), (37, .goto (-22)), (40, .return_)]
def am_c29 : List (Nat × Instr) := [(0, .aload_n 0), (1, .iconst 0), (2, .putfield 18), (5, .return_)]
def am_c30 : List (Nat × Instr) := [(0, .aload_n 0), (1, .getfield 18), (4, .bipush 10), (6, .if_icmp .ne 19), (9, .aload_n 0), (10, .aload_n 0), (11, .getfield 22), (14, .iconst 1), (15, .iadd), (16, .bipush 10), (18, .irem), (19, .putfield 22), (22, .goto 13), (25, .aload_n 0), (26, .dup), (27, .getfield 18), (30, .iconst 1), (31, .iadd), (32, .putfield 18), (35, .aload_n 0), (36, .getfield 11), (39, .aload_n 0), (40, .getfield 22), (43, .aload_n 0), (44, .getfield 18), (47, .iadd), (48, .iconst 1), (49, .isub), (50, .bipush 10), (52, .irem), (53, .aaload), (54, .aload_n 1), (55, .invokevirtual 25), (58, .return_)]
def am_c31 : List (Nat × Instr) := [(0, .aload_n 0), (1, .getfield 18), (4, .ifCond .le 34), (7, .aload_n 0), (8, .dup), (9, .getfield 18), (12, .iconst 1), (13, .isub), (14, .putfield 18), (17, .aload_n 1), (18, .aload_n 0), (19, .getfield 11), (22, .aload_n 0), (23, .getfield 22), (26, .aload_n 0), (27, .getfield 18), (30, .iadd), (31, .bipush 10), (33, .irem), (34, .aaload), (35, .invokevirtual 25), (38, .return_)]
def am_c32 : List (Nat × Instr) := [(0, .aload_n 0), (1, .invokespecial 3), (4, .aload_n 0), (5, .sipush 700), (8, .newarray .byte), (10, .putfield 9), (13, .return_)]
def am_c33 : List (Nat × Instr) := [(0, .bipush 24), (2, .istore_n 2), (3, .iload_n 2), (4, .ifCond .lt 42), (7, .aload_n 0), (8, .getfield 15), (11, .sipush 700), (14, .if_icmp .ge 26), (17, .aload_n 0), (18, .getfield 9), (21, .aload_n 0), (22, .getfield 15), (25, .iload_n 1), (26, .iload_n 2), (27, .ishr), (28, .i2b), (29, .bastore), (30, .aload_n 0), (31, .dup), (32, .getfield 15), (35, .iconst 1), (36, .iadd), (37, .putfield 15), (40, .iinc 2 (-8)), (43, .goto (-40)), (46, .return_)]
def am_c34 : List (Nat × Instr) := [(0, .aload_n 0), (1, .invokespecial 3), (4, .return_)]
def am_c35_0 : List (Nat × Instr) := [(0, .aload_n 0), (1, .aload_n 1), (2, .getfield 9), (5, .putfield 9), (8, .aload_n 0), (9, .aload_n 1), (10, .getfield 15), (13, .putfield 15), (16, .aload_n 0), (17, .aload_n 1), (18, .getfield 18), (21, .putfield 18), (24, .aload_n 0), (25, .aload_n 1), (26, .getfield 21), (29, .putfield 21), (32, .aload_n 0), (33, .aload_n 1), (34, .getfield 24), (37, .putfield 24), (40, .aload_n 0), (41, .aload_n 1), (42, .getfield 27), (45, .putfield 27), (48, .aload_n 0), (49, .aload_n 1), (50, .getfield 30), (53, .putfield 30), (56, .aload_n 0), (57, .aload_n 1), (58, .getfield 33), (61, .putfield 33), (64, .aload_n 0), (65, .aload_n 1), (66, .getfield 36), (69, .putfield 36), (72, .aload_n 0), (73, .aload_n 1), (74, .getfield 39), (77, .putfield 39)]
def am_c35_1 : List (Nat × Instr) := [(80, .aload_n 0), (81, .aload_n 1), (82, .getfield 42), (85, .putfield 42), (88, .aload_n 0), (89, .aload_n 1), (90, .getfield 45), (93, .putfield 45), (96, .aload_n 0), (97, .aload_n 1), (98, .getfield 48), (101, .putfield 48), (104, .aload_n 0), (105, .aload_n 1), (106, .getfield 51), (109, .putfield 51), (112, .return_)]
def am_c35 : List (Nat × Instr) := (am_c35_0 ++ am_c35_1)
def am_c36 : List (Nat × Instr) := [(0, .aload_n 0), (1, .iload_n 1), (2, .putfield 24), (5, .aload_n 0), (6, .iload_n 2), (7, .putfield 27), (10, .aload_n 0), (11, .invokevirtual 54), (14, .aload_n 0), (15, .iconst 0), (16, .putfield 33), (19, .aload_n 0), (20, .iconst 1), (21, .putfield 36), (24, .aload_n 0), (25, .bipush 20), (27, .putfield 39), (30, .aload_n 0), (31, .bipush 10), (33, .putfield 30), (36, .aload_n 0), (37, .iconst 0), (38, .putfield 42), (41, .aload_n 0), (42, .iconst 0), (43, .putfield 45), (46, .aload_n 0), (47, .iconst (-1)), (48, .putfield 48), (51, .aload_n 0), (52, .iconst (-1)), (53, .putfield 51), (56, .return_)]
def am_c38 : List (Nat × Instr) := [(0, .aload_n 0), (1, .iconst 1), (2, .putfield 9), (5, .aload_n 0), (6, .aload_n 0), (7, .getfield 24), (10, .putfield 15), (13, .aload_n 0), (14, .aload_n 0), (15, .getfield 27), (18, .putfield 18), (21, .aload_n 0), (22, .iconst 0), (23, .putfield 21), (26, .return_)]
def am_c39 : List (Nat × Instr) := [(0, .iload_n 1), (1, .tableswitch 132 0 12 #[67, 72, 77, 82, 87, 92, 97, 102, 107, 112, 117, 122, 127]), (68, .aload_n 0), (69, .getfield 9), (72, .ireturn), (73, .aload_n 0), (74, .getfield 15), (77, .ireturn), (78, .aload_n 0), (79, .getfield 18), (82, .ireturn), (83, .aload_n 0), (84, .getfield 21), (87, .ireturn), (88, .aload_n 0), (89, .getfield 24), (92, .ireturn), (93, .aload_n 0), (94, .getfield 27), (97, .ireturn), (98, .aload_n 0), (99, .getfield 30), (102, .ireturn), (103, .aload_n 0), (104, .getfield 33), (107, .ireturn), (108, .aload_n 0), (109, .getfield 36), (112, .ireturn), (113, .aload_n 0), (114, .getfield 39), (117, .ireturn), (118, .aload_n 0), (119, .getfield 42), (122, .ireturn), (123, .aload_n 0), (124, .getfield 45), (127, .ireturn), (128, .aload_n 0), (129, .getfield 48), (132, .ireturn), (133, .aload_n 0), (134, .getfield 51), (137, .ireturn)]
def am_c41_0 : List (Nat × Instr) := [(0, .iload_n 1), (1, .aload_n 0), (2, .getfield 15), (5, .isub), (6, .istore 4), (8, .iload_n 2), (9, .aload_n 0), (10, .getfield 18), (13, .isub), (14, .istore 5), (16, .iload_n 3), (17, .aload_n 0), (18, .getfield 21), (21, .isub), (22, .istore 6), (24, .iload 4), (26, .iload 4), (28, .imul), (29, .iload 5), (31, .iload 5), (33, .imul), (34, .iadd), (35, .iload 6), (37, .iload 6), (39, .imul), (40, .iadd), (41, .istore 7), (43, .iconst 0), (44, .istore 8), (46, .sipush 256), (49, .istore 9), (51, .iload 9), (53, .ifCond .le 35), (56, .iload 8), (58, .iload 9), (60, .iadd), (61, .iload 8), (63, .iload 9), (65, .iadd), (66, .imul)]
def am_c41_1 : List (Nat × Instr) := [(67, .iload 7), (69, .if_icmp .gt 10), (72, .iload 8), (74, .iload 9), (76, .iadd), (77, .istore 8), (79, .iload 9), (81, .iconst 1), (82, .ishr), (83, .istore 9), (85, .goto (-34)), (88, .iload 8), (90, .ireturn)]
def am_c41 : List (Nat × Instr) := (am_c41_0 ++ am_c41_1)
def am_c42 : List (Nat × Instr) := [(0, .aload_n 0), (1, .aload_n 0), (2, .getfield 24), (5, .aload_n 0), (6, .getfield 27), (9, .iconst 0), (10, .invokevirtual 57), (13, .ireturn)]
def am_c43 : List (Nat × Instr) := [(0, .aload_n 0), (1, .getfield 30), (4, .aload_n 0), (5, .aload_n 0), (6, .getfield 24), (9, .aload_n 0), (10, .getfield 27), (13, .iconst 0), (14, .invokevirtual 57), (17, .isub), (18, .ireturn)]
def am_c44 : List (Nat × Instr) := [(0, .aload_n 0), (1, .getfield 36), (4, .iconst 1), (5, .aload_n 0), (6, .getfield 33), (9, .invokestatic 61), (12, .iadd), (13, .imul), (14, .ireturn)]
def am_c45 : List (Nat × Instr) := [(0, .aload_n 0), (1, .aload_n 0), (2, .getfield 15), (5, .aload_n 1), (6, .getfield 67), (9, .iadd), (10, .iconst 0), (11, .sipush 199), (14, .invokestatic 70), (17, .putfield 15), (20, .aload_n 0), (21, .aload_n 0), (22, .getfield 18), (25, .aload_n 1), (26, .getfield 73), (29, .iadd), (30, .iconst 0), (31, .sipush 199), (34, .invokestatic 70), (37, .putfield 18), (40, .return_)]
def am_c46_0 : List (Nat × Instr) := [(0, .iconst 0), (1, .istore_n 1), (2, .iload_n 1), (3, .sipush 1000), (6, .if_icmp .ge 156), (9, .aload_n 0), (10, .getfield 15), (13, .aload_n 0), (14, .getfield 24), (17, .isub), (18, .invokestatic 61), (21, .istore_n 2), (22, .aload_n 0), (23, .getfield 18), (26, .aload_n 0), (27, .getfield 27), (30, .isub), (31, .invokestatic 61), (34, .istore_n 3), (35, .iload_n 2), (36, .iload_n 2), (37, .imul), (38, .iload_n 3), (39, .iload_n 3), (40, .imul), (41, .iadd), (42, .aload_n 0), (43, .getfield 21), (46, .aload_n 0), (47, .getfield 21), (50, .imul), (51, .iadd), (52, .aload_n 0), (53, .getfield 30), (56, .iconst 1), (57, .iadd), (58, .aload_n 0), (59, .getfield 30), (62, .iconst 1), (63, .iadd)]
def am_c46_1 : List (Nat × Instr) := [(64, .imul), (65, .if_icmp .ge 4), (68, .return_), (69, .aload_n 0), (70, .getfield 21), (73, .iload_n 2), (74, .if_icmp .lt 24), (77, .aload_n 0), (78, .getfield 21), (81, .iload_n 3), (82, .if_icmp .lt 16), (85, .aload_n 0), (86, .dup), (87, .getfield 21), (90, .iconst 1), (91, .isub), (92, .putfield 21), (95, .goto 61), (98, .iload_n 2), (99, .iload_n 3), (100, .if_icmp .lt 31), (103, .aload_n 0), (104, .dup), (105, .getfield 15), (108, .aload_n 0), (109, .getfield 15), (112, .aload_n 0), (113, .getfield 24), (116, .if_icmp .le 7), (119, .iconst (-1)), (120, .goto 4), (123, .iconst 1), (124, .iadd), (125, .putfield 15), (128, .goto 28), (131, .aload_n 0), (132, .dup), (133, .getfield 18), (136, .aload_n 0), (137, .getfield 18)]
def am_c46_2 : List (Nat × Instr) := [(140, .aload_n 0), (141, .getfield 27), (144, .if_icmp .le 7), (147, .iconst (-1)), (148, .goto 4), (151, .iconst 1), (152, .iadd), (153, .putfield 18), (156, .iinc 1 1), (159, .goto (-157)), (162, .return_)]
def am_c46 : List (Nat × Instr) := (am_c46_0 ++ (am_c46_1 ++ am_c46_2))
def am_c47 : List (Nat × Instr) := [(0, .aload_n 0), (1, .invokespecial 3), (4, .aload_n 0), (5, .bipush 10), (7, .bipush 6), (9, .multianewarray 9 2), (13, .putfield 11), (16, .aload_n 0), (17, .bipush 10), (19, .newarray .int), (21, .putfield 16), (24, .return_)]
def am_c48 : List (Nat × Instr) := [(0, .aload_n 0), (1, .iconst 0), (2, .putfield 20), (5, .return_)]
def am_c49 : List (Nat × Instr) := [(0, .aload_n 0), (1, .aload_n 1), (2, .getfield 20), (5, .putfield 20), (8, .iconst 0), (9, .istore_n 2), (10, .iload_n 2), (11, .aload_n 0), (12, .getfield 20), (15, .if_icmp .ge 55), (18, .aload_n 0), (19, .getfield 16), (22, .iload_n 2), (23, .aload_n 1), (24, .getfield 16), (27, .iload_n 2), (28, .iaload), (29, .iastore), (30, .iconst 0), (31, .istore_n 3), (32, .iload_n 3), (33, .aload_n 0), (34, .getfield 16), (37, .iload_n 2), (38, .iaload), (39, .if_icmp .ge 25), (42, .aload_n 0), (43, .getfield 11), (46, .iload_n 2), (47, .aaload), (48, .iload_n 3), (49, .aload_n 1), (50, .getfield 11), (53, .iload_n 2), (54, .aaload), (55, .iload_n 3), (56, .baload), (57, .bastore), (58, .iinc 3 1), (61, .goto (-29)), (64, .iinc 2 1), (67, .goto (-57)), (70, .return_)]
def am_c50 : List (Nat × Instr) := [(0, .aload_n 0), (1, .getfield 20), (4, .bipush 10), (6, .if_icmp .ge 70), (9, .iload_n 3), (10, .bipush 6), (12, .if_icmp .gt 64), (15, .iload_n 2), (16, .iload_n 3), (17, .iadd), (18, .aload_n 1), (19, .arraylength), (20, .if_icmp .gt 56), (23, .iconst 0), (24, .istore 4), (26, .iload 4), (28, .iload_n 3), (29, .if_icmp .ge 27), (32, .aload_n 0), (33, .getfield 11), (36, .aload_n 0), (37, .getfield 20), (40, .aaload), (41, .iload 4), (43, .aload_n 1), (44, .iload_n 2), (45, .iload 4), (47, .iadd), (48, .baload), (49, .bastore), (50, .iinc 4 1), (53, .goto (-27)), (56, .aload_n 0), (57, .getfield 16), (60, .aload_n 0), (61, .getfield 20), (64, .iload_n 3), (65, .iastore), (66, .aload_n 0), (67, .dup), (68, .getfield 20), (71, .iconst 1), (72, .iadd), (73, .putfield 20), (76, .return_)]
def am_c51 : List (Nat × Instr) := [(0, .iconst 0), (1, .istore 4), (3, .iload 4), (5, .aload_n 0), (6, .getfield 20), (9, .if_icmp .ge 34), (12, .aload_n 0), (13, .getfield 16), (16, .iload 4), (18, .iaload), (19, .iload_n 3), (20, .if_icmp .ne 17), (23, .aload_n 0), (24, .iload 4), (26, .aload_n 1), (27, .iload_n 2), (28, .invokevirtual 24), (31, .ifCond .eq 6), (34, .iload 4), (36, .ireturn), (37, .iinc 4 1), (40, .goto (-37)), (43, .iconst (-1)), (44, .ireturn)]
def am_c52 : List (Nat × Instr) := [(0, .iconst 0), (1, .istore 4), (3, .iload 4), (5, .aload_n 0), (6, .getfield 16), (9, .iload_n 1), (10, .iaload), (11, .if_icmp .ge 38), (14, .iload_n 3), (15, .iload 4), (17, .iadd), (18, .aload_n 2), (19, .arraylength), (20, .if_icmp .ge 21), (23, .aload_n 2), (24, .iload_n 3), (25, .iload 4), (27, .iadd), (28, .baload), (29, .aload_n 0), (30, .getfield 11), (33, .iload_n 1), (34, .aaload), (35, .iload 4), (37, .baload), (38, .if_icmp .eq 5), (41, .iconst 0), (42, .ireturn), (43, .iinc 4 1), (46, .goto (-43)), (49, .iconst 1), (50, .ireturn)]
def am_c53 : List (Nat × Instr) := [(0, .aload_n 0), (1, .invokespecial 1), (4, .aload_n 0), (5, .sipush 640), (8, .newarray .byte), (10, .putfield 9), (13, .return_)]
def am_c60 : List (Nat × Instr) := [(0, .aload_n 0), (1, .invokespecial 3), (4, .aload_n 0), (5, .new 9), (8, .dup), (9, .invokespecial 11), (12, .putfield 12), (15, .aload_n 0), (16, .new 18), (19, .dup), (20, .invokespecial 20), (23, .putfield 21), (26, .aload_n 0), (27, .iconst (-1)), (28, .putfield 25), (31, .aload_n 0), (32, .new 29), (35, .dup), (36, .aload_n 1), (37, .invokespecial 31), (40, .putfield 34), (43, .return_)]
def am_c61 : List (Nat × Instr) := [(0, .aload_n 0), (1, .iconst 0), (2, .putfield 38), (5, .aload_n 0), (6, .iconst (-1)), (7, .putfield 25), (10, .aload_n 0), (11, .getfield 12), (14, .invokevirtual 41), (17, .aload_n 0), (18, .getfield 21), (21, .invokevirtual 44), (24, .aload_n 0), (25, .iconst 0), (26, .putfield 45), (29, .aload_n 0), (30, .getfield 34), (33, .invokevirtual 48), (36, .iconst 0), (37, .istore_n 1), (38, .iload_n 1), (39, .sipush 700), (42, .if_icmp .gt 41), (45, .aload_n 0), (46, .getfield 34), (49, .getfield 51), (52, .ifCond .eq 31), (55, .aload_n 0), (56, .invokevirtual 54), (59, .istore_n 2), (60, .aload_n 0), (61, .iload_n 2), (62, .invokevirtual 58), (65, .ifCond .eq 10), (68, .aload_n 0), (69, .invokevirtual 62), (72, .ifCond .ne 5), (75, .iconst 0), (76, .ireturn), (77, .iinc 1 1), (80, .goto (-42)), (83, .aload_n 0), (84, .getfield 12), (87, .getfield 66), (90, .ifCond .ne 10), (93, .aload_n 0), (94, .getfield 12), (97, .invokevirtual 69), (100, .iconst 1), (101, .ireturn)]
def am_c62 : List (Nat × Instr) := [(0, .iload_n 1), (1, .lookupswitch 37 #[(0, 27), (1, 32)]), (28, .aload_n 0), (29, .invokevirtual 72), (32, .ireturn), (33, .aload_n 0), (34, .invokevirtual 75), (37, .ireturn), (38, .iload_n 1), (39, .iconst 2), (40, .bipush 7), (42, .invokestatic 78), (45, .ifCond .eq 13), (48, .aload_n 0), (49, .iload_n 1), (50, .iconst 2), (51, .isub), (52, .invokevirtual 82), (55, .goto 8), (58, .aload_n 0), (59, .iconst 1), (60, .invokevirtual 85), (63, .ireturn)]
def am_c63_0 : List (Nat × Instr) := [(0, .aload_n 0), (1, .getfield 12), (4, .getfield 88), (7, .bipush 10), (9, .if_icmp .ne 9), (12, .aload_n 0), (13, .iconst 4), (14, .invokevirtual 85), (17, .ireturn), (18, .aload_n 0), (19, .getfield 34), (22, .invokevirtual 91), (25, .aload_n 0), (26, .invokevirtual 94), (29, .ifCond .eq 14), (32, .aload_n 0), (33, .iconst 0), (34, .sipush 199), (37, .invokevirtual 97), (40, .ifCond .ne 5), (43, .iconst 0), (44, .ireturn), (45, .aload_n 0), (46, .getfield 101), (49, .istore_n 1), (50, .aload_n 0), (51, .iconst 0), (52, .sipush 199), (55, .invokevirtual 97), (58, .ifCond .ne 5), (61, .iconst 0), (62, .ireturn), (63, .aload_n 0), (64, .getfield 12), (67, .getfield 104), (70, .aload_n 0), (71, .getfield 12), (74, .getfield 88), (77, .aaload), (78, .astore_n 2)]
def am_c63_1 : List (Nat × Instr) := [(79, .aload_n 2), (80, .iload_n 1), (81, .aload_n 0), (82, .getfield 101), (85, .invokevirtual 108), (88, .aload_n 0), (89, .getfield 12), (92, .dup), (93, .getfield 88), (96, .iconst 1), (97, .iadd), (98, .putfield 88), (101, .aload_n 0), (102, .bipush 8), (104, .iconst 0), (105, .bipush 9), (107, .aload_n 2), (108, .getfield 114), (111, .invokevirtual 117), (114, .ifCond .ne 5), (117, .iconst 0), (118, .ireturn), (119, .aload_n 2), (120, .aload_n 0), (121, .getfield 101), (124, .putfield 114), (127, .aload_n 0), (128, .bipush 9), (130, .iconst 1), (131, .bipush 99), (133, .aload_n 2), (134, .getfield 121), (137, .invokevirtual 117), (140, .ifCond .ne 5), (143, .iconst 0), (144, .ireturn), (145, .aload_n 2), (146, .aload_n 0), (147, .getfield 101), (150, .putfield 121)]
def am_c63_2 : List (Nat × Instr) := [(153, .aload_n 0), (154, .bipush 10), (156, .iconst 1), (157, .sipush 400), (160, .aload_n 2), (161, .getfield 124), (164, .invokevirtual 117), (167, .ifCond .ne 5), (170, .iconst 0), (171, .ireturn), (172, .aload_n 2), (173, .aload_n 0), (174, .getfield 101), (177, .putfield 124), (180, .iconst 1), (181, .ireturn)]
def am_c63 : List (Nat × Instr) := (am_c63_0 ++ (am_c63_1 ++ am_c63_2))
def am_c64_0 : List (Nat × Instr) := [(0, .aload_n 0), (1, .getfield 34), (4, .getfield 51), (7, .iconst 1), (8, .if_icmp .ne 23), (11, .aload_n 0), (12, .getfield 34), (15, .getfield 127), (18, .bipush 6), (20, .if_icmp .gt 11), (23, .aload_n 0), (24, .invokevirtual 54), (27, .iconst (-1)), (28, .if_icmp .eq 9), (31, .aload_n 0), (32, .iconst 1), (33, .invokevirtual 85), (36, .ireturn), (37, .aload_n 0), (38, .getfield 21), (41, .aload_n 0), (42, .getfield 34), (45, .getfield 130), (48, .getfield 134), (51, .aload_n 0), (52, .getfield 34), (55, .getfield 140), (58, .aload_n 0), (59, .getfield 34), (62, .getfield 127), (65, .invokevirtual 143), (68, .iconst (-1)), (69, .if_icmp .eq 9), (72, .aload_n 0), (73, .iconst 3), (74, .invokevirtual 85), (77, .ireturn), (78, .aload_n 0), (79, .getfield 21), (82, .aload_n 0)]
def am_c64_1 : List (Nat × Instr) := [(83, .getfield 34), (86, .getfield 130), (89, .getfield 134), (92, .aload_n 0), (93, .getfield 34), (96, .getfield 140), (99, .aload_n 0), (100, .getfield 34), (103, .getfield 127), (106, .invokevirtual 147), (109, .aload_n 0), (110, .getfield 34), (113, .invokevirtual 91), (116, .iconst 1), (117, .ireturn)]
def am_c64 : List (Nat × Instr) := (am_c64_0 ++ am_c64_1)
def am_c65 : List (Nat × Instr) := [(0, .aload_n 0), (1, .getfield 34), (4, .iload_n 1), (5, .invokestatic 151), (8, .invokevirtual 155), (11, .ifCond .ne 11), (14, .aload_n 0), (15, .iload 4), (17, .putfield 101), (20, .iconst 1), (21, .ireturn), (22, .aload_n 0), (23, .getfield 34), (26, .invokevirtual 91), (29, .aload_n 0), (30, .iload_n 2), (31, .iload_n 3), (32, .invokevirtual 97), (35, .ireturn)]
def am_c66_0 : List (Nat × Instr) := [(0, .aload_n 0), (1, .getfield 12), (4, .getfield 66), (7, .istore_n 1), (8, .iload_n 1), (9, .iconst 4), (10, .if_icmp .ne 9), (13, .aload_n 0), (14, .iconst 4), (15, .invokevirtual 85), (18, .ireturn), (19, .aload_n 0), (20, .getfield 34), (23, .invokevirtual 91), (26, .iload_n 1), (27, .ifCond .ne 7), (30, .iconst 0), (31, .goto 19), (34, .aload_n 0), (35, .getfield 12), (38, .getfield 159), (41, .iload_n 1), (42, .iconst 1), (43, .isub), (44, .aaload), (45, .getfield 163), (48, .iconst 1), (49, .iadd), (50, .istore_n 2), (51, .aload_n 0), (52, .iload_n 2), (53, .iload_n 1), (54, .ifCond .ne 7), (57, .iconst 0), (58, .goto 6), (61, .sipush 300), (64, .invokevirtual 97), (67, .ifCond .ne 5), (70, .iconst 0), (71, .ireturn)]
def am_c66_1 : List (Nat × Instr) := [(72, .aload_n 0), (73, .getfield 101), (76, .istore_n 3), (77, .aload_n 0), (78, .invokevirtual 168), (81, .ifCond .ne 5), (84, .iconst 0), (85, .ireturn), (86, .aload_n 0), (87, .getfield 101), (90, .istore 4), (92, .aload_n 0), (93, .invokevirtual 168), (96, .ifCond .ne 5), (99, .iconst 0), (100, .ireturn), (101, .aload_n 0), (102, .getfield 12), (105, .getfield 159), (108, .iload_n 1), (109, .aaload), (110, .iload_n 3), (111, .iload 4), (113, .aload_n 0), (114, .getfield 101), (117, .invokevirtual 171), (120, .aload_n 0), (121, .getfield 12), (124, .dup), (125, .getfield 66), (128, .iconst 1), (129, .iadd), (130, .putfield 66), (133, .iconst 1), (134, .ireturn)]
def am_c66 : List (Nat × Instr) := (am_c66_0 ++ am_c66_1)
def am_c67 : List (Nat × Instr) := [(0, .aload_n 0), (1, .getfield 34), (4, .getfield 51), (7, .iconst 3), (8, .if_icmp .ne 7), (11, .iconst 1), (12, .goto 4), (15, .iconst 0), (16, .istore_n 1), (17, .iload_n 1), (18, .ifCond .eq 10), (21, .aload_n 0), (22, .getfield 34), (25, .invokevirtual 91), (28, .aload_n 0), (29, .iconst 0), (30, .bipush 9), (32, .invokevirtual 97), (35, .ifCond .ne 5), (38, .iconst 0), (39, .ireturn), (40, .aload_n 0), (41, .iload_n 1), (42, .ifCond .eq 11), (45, .aload_n 0), (46, .getfield 101), (49, .ineg), (50, .goto 7), (53, .aload_n 0), (54, .getfield 101), (57, .putfield 101), (60, .iconst 1), (61, .ireturn)]
def am_c68 : List (Nat × Instr) := [(0, .aload_n 0), (1, .getfield 45), (4, .iconst 1), (5, .iload_n 1), (6, .ishl), (7, .iand), (8, .ifCond .eq 9), (11, .aload_n 0), (12, .iconst 3), (13, .invokevirtual 85), (16, .ireturn), (17, .aload_n 0), (18, .dup), (19, .getfield 45), (22, .iconst 1), (23, .iload_n 1), (24, .ishl), (25, .ior), (26, .putfield 45), (29, .aload_n 0), (30, .getfield 34), (33, .invokevirtual 91), (36, .aload_n 0), (37, .getstatic 175), (40, .iload_n 1), (41, .iaload), (42, .getstatic 179), (45, .iload_n 1), (46, .iaload), (47, .invokevirtual 97), (50, .ifCond .ne 5), (53, .iconst 0), (54, .ireturn), (55, .aload_n 0), (56, .getfield 12), (59, .getfield 182), (62, .iload_n 1), (63, .aload_n 0), (64, .getfield 101), (67, .iastore), (68, .iconst 1), (69, .ireturn)]
def am_c69 : List (Nat × Instr) := [(0, .aload_n 0), (1, .getfield 34), (4, .invokevirtual 185), (7, .ifCond .ne 9), (10, .aload_n 0), (11, .iconst 1), (12, .invokevirtual 85), (15, .ireturn), (16, .aload_n 0), (17, .aload_n 0), (18, .getfield 34), (21, .invokevirtual 188), (24, .putfield 101), (27, .aload_n 0), (28, .getfield 101), (31, .iload_n 1), (32, .iload_n 2), (33, .invokestatic 78), (36, .ifCond .ne 9), (39, .aload_n 0), (40, .iconst 2), (41, .invokevirtual 85), (44, .ireturn), (45, .aload_n 0), (46, .getfield 34), (49, .invokevirtual 91), (52, .iconst 1), (53, .ireturn)]
def am_c70 : List (Nat × Instr) := [(0, .aload_n 0), (1, .getfield 34), (4, .getfield 51), (7, .iconst 4), (8, .if_icmp .eq 9), (11, .aload_n 0), (12, .iconst 1), (13, .invokevirtual 85), (16, .ireturn), (17, .aload_n 0), (18, .getfield 34), (21, .invokevirtual 91), (24, .iconst 1), (25, .ireturn)]
def am_c71 : List (Nat × Instr) := [(0, .aload_n 0), (1, .iload_n 1), (2, .putfield 38), (5, .aload_n 0), (6, .aload_n 0), (7, .getfield 34), (10, .getfield 140), (13, .putfield 25), (16, .iconst 0), (17, .ireturn)]
def am_c72 : List (Nat × Instr) := [(0, .iconst 0), (1, .istore_n 1), (2, .iload_n 1), (3, .bipush 11), (5, .if_icmp .ge 25), (8, .aload_n 0), (9, .getfield 34), (12, .iload_n 1), (13, .invokestatic 151), (16, .invokevirtual 155), (19, .ifCond .eq 5), (22, .iload_n 1), (23, .ireturn), (24, .iinc 1 1), (27, .goto (-25)), (30, .iconst (-1)), (31, .ireturn)]
def am_c73 : List (Nat × Instr) := [(0, .iload_n 0), (1, .tableswitch 85 0 9 #[55, 58, 61, 64, 67, 70, 73, 76, 79, 82]), (56, .ldc 191), (58, .areturn), (59, .ldc 193), (61, .areturn), (62, .ldc 195), (64, .areturn), (65, .ldc 197), (67, .areturn), (68, .ldc 199), (70, .areturn), (71, .ldc 201), (73, .areturn), (74, .ldc 203), (76, .areturn), (77, .ldc 205), (79, .areturn), (80, .ldc 207), (82, .areturn), (83, .ldc 208), (85, .areturn), (86, .ldc 209), (88, .areturn)]
def am_c74 : List (Nat × Instr) := [(0, .aload_n 0), (1, .invokespecial 1), (4, .aload_n 0), (5, .aload_n 1), (6, .putfield 7), (9, .return_)]
def am_c75 : List (Nat × Instr) := [(0, .aload_n 0), (1, .iconst 0), (2, .putfield 13), (5, .aload_n 0), (6, .iconst 0), (7, .putfield 17), (10, .aload_n 0), (11, .invokevirtual 20), (14, .return_)]
def am_c76_0 : List (Nat × Instr) := [(0, .aload_n 0), (1, .dup), (2, .getfield 13), (5, .aload_n 0), (6, .getfield 17), (9, .iadd), (10, .putfield 13), (13, .aload_n 0), (14, .getfield 13), (17, .aload_n 0), (18, .getfield 7), (21, .getfield 23), (24, .if_icmp .ge 35), (27, .aload_n 0), (28, .getfield 7), (31, .getfield 26), (34, .aload_n 0), (35, .getfield 13), (38, .baload), (39, .invokestatic 30), (42, .iconst 5), (43, .if_icmp .ne 16), (46, .aload_n 0), (47, .dup), (48, .getfield 13), (51, .iconst 1), (52, .iadd), (53, .putfield 13), (56, .goto (-43)), (59, .aload_n 0), (60, .getfield 13), (63, .aload_n 0), (64, .getfield 7), (67, .getfield 23), (70, .if_icmp .lt 14), (73, .aload_n 0), (74, .iconst 0), (75, .putfield 34), (78, .aload_n 0), (79, .iconst 0)]
def am_c76_1 : List (Nat × Instr) := [(80, .putfield 17), (83, .return_), (84, .aload_n 0), (85, .aload_n 0), (86, .getfield 7), (89, .getfield 26), (92, .aload_n 0), (93, .getfield 13), (96, .baload), (97, .invokestatic 30), (100, .putfield 34), (103, .aload_n 0), (104, .iconst 1), (105, .putfield 17), (108, .aload_n 0), (109, .getfield 34), (112, .iconst 1), (113, .if_icmp .eq 11), (116, .aload_n 0), (117, .getfield 34), (120, .iconst 2), (121, .if_icmp .ne 7), (124, .iconst 1), (125, .goto 4), (128, .iconst 0), (129, .istore_n 1), (130, .iload_n 1), (131, .ifCond .eq 62), (134, .aload_n 0), (135, .getfield 13), (138, .aload_n 0), (139, .getfield 17), (142, .iadd), (143, .aload_n 0), (144, .getfield 7), (147, .getfield 23), (150, .if_icmp .ge 43), (153, .aload_n 0), (154, .getfield 7), (157, .getfield 26)]
def am_c76_2 : List (Nat × Instr) := [(160, .aload_n 0), (161, .getfield 13), (164, .aload_n 0), (165, .getfield 17), (168, .iadd), (169, .baload), (170, .invokestatic 30), (173, .aload_n 0), (174, .getfield 34), (177, .if_icmp .ne 16), (180, .aload_n 0), (181, .dup), (182, .getfield 17), (185, .iconst 1), (186, .iadd), (187, .putfield 17), (190, .goto (-60)), (193, .return_)]
def am_c76 : List (Nat × Instr) := (am_c76_0 ++ (am_c76_1 ++ am_c76_2))
def am_c77 : List (Nat × Instr) := [(0, .iload_n 0), (1, .bipush 97), (3, .if_icmp .lt 11), (6, .iload_n 0), (7, .bipush 122), (9, .if_icmp .gt 5), (12, .iconst 1), (13, .ireturn), (14, .iload_n 0), (15, .bipush 48), (17, .if_icmp .lt 11), (20, .iload_n 0), (21, .bipush 57), (23, .if_icmp .gt 5), (26, .iconst 2), (27, .ireturn), (28, .iload_n 0), (29, .lookupswitch 51 #[(10, 49), (32, 47), (45, 43), (59, 45)]), (72, .iconst 3), (73, .ireturn), (74, .iconst 4), (75, .ireturn), (76, .iconst 5), (77, .ireturn), (78, .iconst 5), (79, .ireturn), (80, .bipush 6), (82, .ireturn)]
def am_c78 : List (Nat × Instr) := [(0, .aload_n 0), (1, .getfield 34), (4, .iconst 2), (5, .if_icmp .ne 15), (8, .aload_n 0), (9, .getfield 17), (12, .iconst 4), (13, .if_icmp .gt 7), (16, .iconst 1), (17, .goto 4), (20, .iconst 0), (21, .ireturn)]
def am_c79 : List (Nat × Instr) := [(0, .iconst 0), (1, .istore_n 1), (2, .aload_n 0), (3, .getfield 13), (6, .istore_n 2), (7, .iload_n 2), (8, .aload_n 0), (9, .getfield 13), (12, .aload_n 0), (13, .getfield 17), (16, .iadd), (17, .if_icmp .ge 27), (20, .iload_n 1), (21, .bipush 10), (23, .imul), (24, .aload_n 0), (25, .getfield 7), (28, .getfield 26), (31, .iload_n 2), (32, .baload), (33, .bipush 48), (35, .isub), (36, .iadd), (37, .istore_n 1), (38, .iinc 2 1), (41, .goto (-34)), (44, .iload_n 1), (45, .ireturn)]
def am_c80 : List (Nat × Instr) := [(0, .aload_n 0), (1, .getfield 34), (4, .iconst 1), (5, .if_icmp .ne 14), (8, .aload_n 0), (9, .getfield 17), (12, .aload_n 1), (13, .invokevirtual 37), (16, .if_icmp .eq 5), (19, .iconst 0), (20, .ireturn), (21, .iconst 0), (22, .istore_n 2), (23, .iload_n 2), (24, .aload_n 0), (25, .getfield 17), (28, .if_icmp .ge 33), (31, .aload_n 0), (32, .getfield 7), (35, .getfield 26), (38, .aload_n 0), (39, .getfield 13), (42, .iload_n 2), (43, .iadd), (44, .baload), (45, .aload_n 1), (46, .iload_n 2), (47, .invokevirtual 42), (50, .if_icmp .eq 5), (53, .iconst 0), (54, .ireturn), (55, .iinc 2 1), (58, .goto (-35)), (61, .iconst 1), (62, .ireturn)]
def am_c81 : List (Nat × Instr) := [(0, .aload_n 0), (1, .invokespecial 1), (4, .return_)]
def am_c82 : List (Nat × Instr) := [(0, .aload_n 0), (1, .aload_n 1), (2, .getfield 7), (5, .aload_n 1), (6, .getfield 13), (9, .aload_n 1), (10, .getfield 16), (13, .invokevirtual 19), (16, .return_)]
def am_c83 : List (Nat × Instr) := [(0, .aload_n 0), (1, .iload_n 1), (2, .putfield 7), (5, .aload_n 0), (6, .iload_n 2), (7, .putfield 13), (10, .aload_n 0), (11, .iload_n 3), (12, .putfield 16), (15, .return_)]
def am_c84 : List (Nat × Instr) := [(0, .aload_n 0), (1, .getfield 13), (4, .invokestatic 23), (7, .aload_n 0), (8, .getfield 16), (11, .invokestatic 23), (14, .invokestatic 29), (17, .ireturn)]
def am_c86 : List (Nat × Instr) := [(0, .aload_n 0), (1, .invokespecial 1), (4, .aload_n 0), (5, .new 7), (8, .dup), (9, .invokespecial 9), (12, .putfield 10), (15, .aload_n 0), (16, .new 16), (19, .dup), (20, .invokespecial 18), (23, .putfield 19), (26, .aload_n 0), (27, .new 23), (30, .dup), (31, .aload_n 0), (32, .getfield 10), (35, .invokespecial 25), (38, .putfield 28), (41, .aload_n 0), (42, .new 32), (45, .dup), (46, .invokespecial 34), (49, .putfield 35), (52, .aload_n 0), (53, .new 39), (56, .dup), (57, .invokespecial 41), (60, .putfield 42), (63, .aload_n 0), (64, .new 39), (67, .dup), (68, .invokespecial 41), (71, .putfield 46), (74, .aload_n 0), (75, .new 39), (78, .dup), (79, .invokespecial 41), (82, .putfield 49), (85, .aload_n 0), (86, .new 52), (89, .dup), (90, .invokespecial 54), (93, .putfield 55), (96, .aload_n 0), (97, .iconst (-1)), (98, .putfield 59), (101, .return_)]
def am_c87 : List (Nat × Instr) := [(0, .aload_n 0), (1, .getfield 10), (4, .getfield 63), (7, .bipush 20), (9, .iadd), (10, .sipush 700), (13, .if_icmp .le 5), (16, .iconst (-1)), (17, .ireturn), (18, .aload_n 0), (19, .getfield 10), (22, .iload_n 1), (23, .invokevirtual 66), (26, .aload_n 0), (27, .getfield 10), (30, .iload_n 2), (31, .invokevirtual 66), (34, .aload_n 0), (35, .getfield 10), (38, .iload_n 3), (39, .invokevirtual 66), (42, .aload_n 0), (43, .getfield 10), (46, .iload 4), (48, .invokevirtual 66), (51, .aload_n 0), (52, .getfield 10), (55, .iload 5), (57, .invokevirtual 66), (60, .aload_n 0), (61, .getfield 10), (64, .getfield 63), (67, .ireturn)]
def am_c88 : List (Nat × Instr) := [(0, .iload_n 1), (1, .ifCond .lt 14), (4, .iload_n 1), (5, .aload_n 0), (6, .getfield 10), (9, .getfield 63), (12, .if_icmp .le 5), (15, .iconst 0), (16, .ireturn), (17, .aload_n 0), (18, .getfield 10), (21, .iload_n 1), (22, .putfield 63), (25, .iconst 1), (26, .ireturn)]
def am_c89 : List (Nat × Instr) := [(0, .aload_n 0), (1, .getfield 28), (4, .invokevirtual 70), (7, .istore_n 1), (8, .aload_n 0), (9, .getfield 10), (12, .iconst 0), (13, .putfield 63), (16, .aload_n 0), (17, .aload_n 0), (18, .getfield 28), (21, .getfield 74), (24, .putfield 77), (27, .aload_n 0), (28, .aload_n 0), (29, .getfield 28), (32, .getfield 80), (35, .putfield 59), (38, .iload_n 1), (39, .ifCond .ne 5), (42, .iconst (-1)), (43, .ireturn), (44, .aload_n 0), (45, .getfield 42), (48, .aload_n 0), (49, .getfield 28), (52, .getfield 83), (55, .invokevirtual 84), (58, .aload_n 0), (59, .getfield 35), (62, .aload_n 0), (63, .getfield 28), (66, .getfield 88), (69, .invokevirtual 89), (72, .aload_n 0), (73, .getfield 55), (76, .invokevirtual 92), (79, .aload_n 0), (80, .iconst 0), (81, .putfield 95), (84, .aload_n 0), (85, .getfield 42), (88, .getfield 99), (91, .ireturn)]
def am_c92_0 : List (Nat × Instr) := [(0, .iload_n 1), (1, .iconst 3), (2, .if_icmp .lt 20), (5, .iload_n 1), (6, .bipush 7), (8, .if_icmp .gt 14), (11, .aload_n 0), (12, .getfield 42), (15, .iload_n 1), (16, .iconst 3), (17, .isub), (18, .invokevirtual 102), (21, .ireturn), (22, .iload_n 1), (23, .tableswitch 131 0 12 #[65, 73, 81, 131, 131, 131, 131, 131, 89, 97, 105, 114, 123]), (88, .aload_n 0), (89, .getfield 42), (92, .getfield 99), (95, .ireturn), (96, .aload_n 0), (97, .getfield 42), (100, .getfield 106), (103, .ireturn), (104, .aload_n 0), (105, .getfield 42), (108, .getfield 109), (111, .ireturn), (112, .aload_n 0), (113, .getfield 42), (116, .getfield 112), (119, .ireturn), (120, .aload_n 0), (121, .getfield 42), (124, .getfield 115), (127, .ireturn), (128, .aload_n 0), (129, .getfield 42), (132, .iconst 0), (133, .invokevirtual 118), (136, .ireturn)]
def am_c92_1 : List (Nat × Instr) := [(137, .aload_n 0), (138, .getfield 42), (141, .iconst 1), (142, .invokevirtual 118), (145, .ireturn), (146, .aload_n 0), (147, .getfield 55), (150, .getfield 122), (153, .ireturn), (154, .iconst (-1)), (155, .ireturn)]
def am_c92 : List (Nat × Instr) := (am_c92_0 ++ am_c92_1)
def am_c93 : List (Nat × Instr) := [(0, .iload_n 1), (1, .iconst 0), (2, .iconst 5), (3, .invokestatic 125), (6, .ifCond .eq 15), (9, .aload_n 0), (10, .getfield 42), (13, .getfield 129), (16, .iload_n 1), (17, .iaload), (18, .goto 4), (21, .iconst (-1)), (22, .ireturn)]
def am_c95 : List (Nat × Instr) := [(0, .aload_n 0), (1, .iload_n 1), (2, .invokevirtual 141), (5, .iload_n 2), (6, .iconst 0), (7, .bipush 13), (9, .invokestatic 144), (12, .aload_n 0), (13, .getfield 42), (16, .getfield 148), (19, .iload_n 1), (20, .aaload), (21, .iload_n 2), (22, .invokevirtual 152), (25, .ireturn)]
def am_c98 : List (Nat × Instr) := [(0, .aload_n 0), (1, .iload_n 1), (2, .invokevirtual 141), (5, .aload_n 0), (6, .getfield 42), (9, .getfield 148), (12, .iload_n 1), (13, .aaload), (14, .astore_n 2), (15, .aload_n 2), (16, .getfield 170), (19, .ifCond .ne 10), (22, .aload_n 2), (23, .invokevirtual 173), (26, .goto 4), (29, .iconst (-1)), (30, .ireturn)]
def am_c99 : List (Nat × Instr) := [(0, .aload_n 0), (1, .iload_n 1), (2, .invokevirtual 141), (5, .aload_n 0), (6, .getfield 42), (9, .getfield 148), (12, .iload_n 1), (13, .aaload), (14, .astore_n 2), (15, .aload_n 2), (16, .getfield 170), (19, .ifCond .ne 7), (22, .iconst 1), (23, .goto 4), (26, .iconst 0), (27, .invokestatic 177), (30, .aload_n 2), (31, .invokevirtual 181), (34, .ireturn)]
def am_c100 : List (Nat × Instr) := [(0, .aload_n 0), (1, .iload_n 1), (2, .invokevirtual 141), (5, .aload_n 0), (6, .iload_n 2), (7, .invokevirtual 141), (10, .aload_n 0), (11, .getfield 42), (14, .iload_n 1), (15, .iload_n 2), (16, .invokevirtual 184), (19, .ireturn)]
def am_c101_0 : List (Nat × Instr) := [(0, .aload_n 0), (1, .iload_n 1), (2, .invokevirtual 141), (5, .aload_n 0), (6, .iload_n 2), (7, .invokevirtual 141), (10, .iload_n 3), (11, .iconst 0), (12, .iconst 4), (13, .invokestatic 144), (16, .aload_n 0), (17, .getfield 42), (20, .iload_n 1), (21, .iload_n 2), (22, .invokevirtual 184), (25, .ifCond .ne 5), (28, .iconst (-1)), (29, .ireturn), (30, .aload_n 0), (31, .getfield 42), (34, .getfield 188), (37, .astore 4), (39, .iload_n 3), (40, .tableswitch 82 0 3 #[32, 38, 44, 63]), (72, .aload 4), (74, .getfield 192), (77, .ireturn), (78, .aload 4), (80, .getfield 197), (83, .ireturn), (84, .iload_n 1), (85, .iload_n 2), (86, .if_icmp .ge 11), (89, .aload 4), (91, .getfield 200), (94, .goto 8), (97, .aload 4), (99, .getfield 203), (102, .ireturn), (103, .iload_n 1)]
def am_c101_1 : List (Nat × Instr) := [(104, .iload_n 2), (105, .if_icmp .ge 11), (108, .aload 4), (110, .getfield 203), (113, .goto 8), (116, .aload 4), (118, .getfield 200), (121, .ireturn), (122, .aload 4), (124, .invokevirtual 206), (127, .ireturn)]
def am_c101 : List (Nat × Instr) := (am_c101_0 ++ am_c101_1)
def am_c102 : List (Nat × Instr) := [(0, .aload_n 0), (1, .iload_n 1), (2, .invokevirtual 141), (5, .iconst 0), (6, .istore_n 2), (7, .iconst 0), (8, .istore_n 3), (9, .iload_n 3), (10, .aload_n 0), (11, .getfield 42), (14, .getfield 99), (17, .if_icmp .ge 27), (20, .aload_n 0), (21, .getfield 42), (24, .iload_n 1), (25, .iload_n 3), (26, .invokevirtual 209), (29, .ifCond .eq 9), (32, .iload_n 2), (33, .iconst 1), (34, .iload_n 3), (35, .ishl), (36, .ior), (37, .istore_n 2), (38, .iinc 3 1), (41, .goto (-32)), (44, .iload_n 2), (45, .ireturn)]
def am_c103 : List (Nat × Instr) := [(0, .aload_n 0), (1, .iload_n 1), (2, .invokevirtual 141), (5, .iconst 0), (6, .istore_n 2), (7, .iconst 0), (8, .istore_n 3), (9, .iload_n 3), (10, .aload_n 0), (11, .getfield 42), (14, .getfield 99), (17, .if_icmp .ge 36), (20, .aload_n 0), (21, .getfield 42), (24, .iload_n 1), (25, .iload_n 3), (26, .invokevirtual 209), (29, .ifCond .eq 18), (32, .iload_n 2), (33, .aload_n 0), (34, .getfield 42), (37, .getfield 148), (40, .iload_n 3), (41, .aaload), (42, .invokevirtual 212), (45, .iadd), (46, .istore_n 2), (47, .iinc 3 1), (50, .goto (-41)), (53, .iload_n 2), (54, .ireturn)]
def am_c105 : List (Nat × Instr) := [(0, .iconst (-1)), (1, .istore_n 1), (2, .iconst 0), (3, .istore_n 2), (4, .iload_n 2), (5, .aload_n 0), (6, .getfield 42), (9, .getfield 99), (12, .if_icmp .ge 52), (15, .aload_n 0), (16, .getfield 42), (19, .getfield 148), (22, .iload_n 2), (23, .aaload), (24, .astore_n 3), (25, .aload_n 3), (26, .getfield 170), (29, .ifCond .ne 29), (32, .iload_n 1), (33, .iconst (-1)), (34, .if_icmp .eq 22), (37, .aload_n 3), (38, .getfield 229), (41, .aload_n 0), (42, .getfield 42), (45, .getfield 148), (48, .iload_n 1), (49, .aaload), (50, .getfield 229), (53, .if_icmp .le 5), (56, .iload_n 2), (57, .istore_n 1), (58, .iinc 2 1), (61, .goto (-57)), (64, .iload_n 1), (65, .ireturn)]
def am_c109 : List (Nat × Instr) := [(0, .aload_n 0), (1, .iload_n 1), (2, .invokevirtual 141), (5, .aload_n 0), (6, .iload_n 2), (7, .invokevirtual 141), (10, .aload_n 0), (11, .getfield 42), (14, .getfield 148), (17, .iload_n 2), (18, .aaload), (19, .astore_n 3), (20, .sipush 400), (23, .aload_n 0), (24, .getfield 42), (27, .getfield 148), (30, .iload_n 1), (31, .aaload), (32, .aload_n 3), (33, .getfield 239), (36, .aload_n 3), (37, .getfield 240), (40, .aload_n 3), (41, .getfield 229), (44, .invokevirtual 241), (47, .invokestatic 244), (50, .ireturn)]
def am_c112 : List (Nat × Instr) := [(0, .aload_n 0), (1, .iload_n 1), (2, .invokevirtual 141), (5, .iconst (-1)), (6, .istore_n 2), (7, .iconst 0), (8, .istore_n 3), (9, .iconst 0), (10, .istore 4), (12, .iload 4), (14, .aload_n 0), (15, .getfield 42), (18, .getfield 99), (21, .if_icmp .ge 54), (24, .aload_n 0), (25, .getfield 42), (28, .iload_n 1), (29, .iload 4), (31, .invokevirtual 209), (34, .ifCond .eq 35), (37, .aload_n 0), (38, .getfield 42), (41, .getfield 148), (44, .iload 4), (46, .aaload), (47, .invokevirtual 212), (50, .istore 5), (52, .iload_n 2), (53, .iconst (-1)), (54, .if_icmp .eq 9), (57, .iload 5), (59, .iload_n 3), (60, .if_icmp .le 9), (63, .iload 4), (65, .istore_n 2), (66, .iload 5), (68, .istore_n 3), (69, .iinc 4 1), (72, .goto (-60)), (75, .iload_n 2), (76, .ireturn)]
def am_c113 : List (Nat × Instr) := [(0, .iload_n 1), (1, .iconst 0), (2, .bipush 13), (4, .invokestatic 144), (7, .iconst 0), (8, .istore_n 2), (9, .iconst 0), (10, .istore_n 3), (11, .iload_n 3), (12, .aload_n 0), (13, .getfield 42), (16, .getfield 99), (19, .if_icmp .ge 25), (22, .iload_n 2), (23, .aload_n 0), (24, .getfield 42), (27, .getfield 148), (30, .iload_n 3), (31, .aaload), (32, .iload_n 1), (33, .invokevirtual 152), (36, .iadd), (37, .istore_n 2), (38, .iinc 3 1), (41, .goto (-30)), (44, .iload_n 2), (45, .ireturn)]
def am_c115_0 : List (Nat × Instr) := [(0, .iload_n 1), (1, .iconst 0), (2, .sipush 199), (5, .invokestatic 144), (8, .iload_n 2), (9, .iconst 0), (10, .sipush 199), (13, .invokestatic 144), (16, .iload_n 3), (17, .iload_n 1), (18, .sipush 199), (21, .invokestatic 144), (24, .iload 4), (26, .iload_n 2), (27, .sipush 199), (30, .invokestatic 144), (33, .iconst 0), (34, .istore 5), (36, .iconst 0), (37, .istore 6), (39, .iload 6), (41, .aload_n 0), (42, .getfield 42), (45, .getfield 99), (48, .if_icmp .ge 61), (51, .aload_n 0), (52, .getfield 42), (55, .getfield 148), (58, .iload 6), (60, .aaload), (61, .getfield 239), (64, .iload_n 1), (65, .iload_n 3), (66, .invokestatic 125), (69, .ifCond .eq 34), (72, .aload_n 0), (73, .getfield 42), (76, .getfield 148), (79, .iload 6), (81, .aaload)]
def am_c115_1 : List (Nat × Instr) := [(82, .getfield 240), (85, .iload_n 2), (86, .iload 4), (88, .invokestatic 125), (91, .ifCond .eq 12), (94, .iload 5), (96, .iconst 1), (97, .iload 6), (99, .ishl), (100, .ior), (101, .istore 5), (103, .iinc 6 1), (106, .goto (-67)), (109, .iload 5), (111, .ireturn)]
def am_c115 : List (Nat × Instr) := (am_c115_0 ++ am_c115_1)
def am_c119 : List (Nat × Instr) := [(0, .aload_n 0), (1, .iload_n 1), (2, .invokevirtual 141), (5, .iload_n 2), (6, .iconst 0), (7, .bipush 13), (9, .invokestatic 144), (12, .iload_n 3), (13, .iconst 1), (14, .bipush 100), (16, .invokestatic 144), (19, .aload_n 0), (20, .getfield 46), (23, .aload_n 0), (24, .getfield 42), (27, .invokevirtual 84), (30, .aload_n 0), (31, .getfield 46), (34, .iload_n 3), (35, .invokevirtual 267), (38, .aload_n 0), (39, .getfield 46), (42, .getfield 148), (45, .iload_n 1), (46, .aaload), (47, .iload_n 2), (48, .invokevirtual 152), (51, .ireturn)]
def am_c122 : List (Nat × Instr) := [(0, .iload_n 1), (1, .iconst 1), (2, .bipush 100), (4, .invokestatic 144), (7, .aload_n 0), (8, .getfield 46), (11, .aload_n 0), (12, .getfield 42), (15, .invokevirtual 84), (18, .aload_n 0), (19, .getfield 46), (22, .iload_n 1), (23, .invokevirtual 267), (26, .aload_n 0), (27, .getfield 46), (30, .getfield 115), (33, .aload_n 0), (34, .getfield 42), (37, .getfield 115), (40, .isub), (41, .ireturn)]
def am_c123 : List (Nat × Instr) := [(0, .aload_n 0), (1, .iload_n 1), (2, .invokevirtual 141), (5, .iload_n 2), (6, .iconst 1), (7, .bipush 100), (9, .invokestatic 144), (12, .aload_n 0), (13, .getfield 46), (16, .aload_n 0), (17, .getfield 42), (20, .invokevirtual 84), (23, .iconst 0), (24, .istore_n 3), (25, .iload_n 3), (26, .iload_n 2), (27, .if_icmp .gt 44), (30, .aload_n 0), (31, .getfield 46), (34, .getfield 148), (37, .iload_n 1), (38, .aaload), (39, .getfield 170), (42, .istore 4), (44, .iload 4), (46, .ifCond .eq 11), (49, .iload 4), (51, .iconst 2), (52, .if_icmp .eq 5), (55, .iload_n 3), (56, .ireturn), (57, .aload_n 0), (58, .getfield 46), (61, .iconst 1), (62, .invokevirtual 267), (65, .iinc 3 1), (68, .goto (-43)), (71, .iconst (-1)), (72, .ireturn)]
def am_c126 : List (Nat × Instr) := [(0, .aload_n 0), (1, .iload_n 1), (2, .invokevirtual 141), (5, .iload_n 2), (6, .iconst 1), (7, .bipush 50), (9, .invokestatic 144), (12, .aload_n 0), (13, .iload_n 1), (14, .iload_n 2), (15, .iconst 3), (16, .iconst 1), (17, .invokevirtual 276), (20, .ireturn)]
def am_c128 : List (Nat × Instr) := [(0, .iload_n 1), (1, .iconst 1), (2, .sipush 200), (5, .invokestatic 144), (8, .aload_n 0), (9, .getfield 42), (12, .getfield 109), (15, .iload_n 1), (16, .iadd), (17, .sipush 5000), (20, .if_icmp .gt 7), (23, .iconst 1), (24, .goto 4), (27, .iconst 0), (28, .invokestatic 177), (31, .aload_n 0), (32, .getfield 55), (35, .aload_n 0), (36, .getfield 42), (39, .invokevirtual 280), (42, .aload_n 0), (43, .getfield 42), (46, .getfield 115), (49, .istore_n 2), (50, .aload_n 0), (51, .getfield 42), (54, .iload_n 1), (55, .invokevirtual 267), (58, .aload_n 0), (59, .getfield 42), (62, .getfield 115), (65, .iload_n 2), (66, .isub), (67, .ireturn)]
def am_c129 : List (Nat × Instr) := [(0, .aload_n 0), (1, .iload_n 1), (2, .invokevirtual 141), (5, .aload_n 0), (6, .getfield 42), (9, .getfield 148), (12, .iload_n 1), (13, .aaload), (14, .astore_n 2), (15, .aload_n 2), (16, .getfield 170), (19, .iconst 1), (20, .if_icmp .ne 7), (23, .iconst 1), (24, .goto 4), (27, .iconst 0), (28, .invokestatic 177), (31, .aload_n 0), (32, .getfield 55), (35, .aload_n 0), (36, .getfield 42), (39, .invokevirtual 280), (42, .aload_n 2), (43, .iconst 0), (44, .putfield 170), (47, .aload_n 2), (48, .aload_n 2), (49, .getfield 250), (52, .putfield 239), (55, .aload_n 2), (56, .aload_n 2), (57, .getfield 254), (60, .putfield 240), (63, .aload_n 2), (64, .bipush 20), (66, .aload_n 2), (67, .getfield 283), (70, .invokestatic 244), (73, .putfield 229), (76, .aload_n 0), (77, .getfield 42), (80, .iconst 4), (81, .iload_n 1), (82, .iconst (-1)), (83, .invokevirtual 286), (86, .aload_n 2), (87, .getfield 229), (90, .ireturn)]
def am_c130 : List (Nat × Instr) := [(0, .aload_n 0), (1, .iload_n 1), (2, .invokevirtual 141), (5, .iload_n 2), (6, .bipush (-9)), (8, .bipush 9), (10, .invokestatic 144), (13, .aload_n 0), (14, .getfield 55), (17, .aload_n 0), (18, .getfield 42), (21, .invokevirtual 280), (24, .aload_n 0), (25, .getfield 42), (28, .getfield 148), (31, .iload_n 1), (32, .aaload), (33, .getfield 289), (36, .istore_n 3), (37, .aload_n 0), (38, .getfield 42), (41, .getfield 148), (44, .iload_n 1), (45, .aaload), (46, .iload_n 2), (47, .putfield 289), (50, .iload_n 3), (51, .ireturn)]
def am_c131 : List (Nat × Instr) := [(0, .aload_n 0), (1, .iload_n 1), (2, .invokevirtual 141), (5, .aload_n 0), (6, .getfield 42), (9, .getfield 148), (12, .iload_n 1), (13, .aaload), (14, .astore_n 2), (15, .aload_n 2), (16, .getfield 170), (19, .ifCond .ne 7), (22, .iconst 1), (23, .goto 4), (26, .iconst 0), (27, .invokestatic 177), (30, .aload_n 0), (31, .getfield 55), (34, .aload_n 0), (35, .getfield 42), (38, .invokevirtual 280), (41, .aload_n 2), (42, .iconst 2), (43, .putfield 170), (46, .aload_n 2), (47, .getfield 229), (50, .ireturn)]
def am_c132 : List (Nat × Instr) := [(0, .aload_n 0), (1, .iload_n 1), (2, .invokevirtual 141), (5, .iload_n 2), (6, .iconst 1), (7, .sipush 400), (10, .invokestatic 144), (13, .aload_n 0), (14, .getfield 42), (17, .getfield 148), (20, .iload_n 1), (21, .aaload), (22, .astore_n 3), (23, .aload_n 3), (24, .getfield 170), (27, .ifCond .eq 11), (30, .aload_n 3), (31, .getfield 170), (34, .iconst 1), (35, .if_icmp .ne 7), (38, .iconst 1), (39, .goto 4), (42, .iconst 0), (43, .invokestatic 177), (46, .aload_n 0), (47, .getfield 55), (50, .aload_n 0), (51, .getfield 42), (54, .invokevirtual 280), (57, .aload_n 3), (58, .getfield 283), (61, .istore 4), (63, .aload_n 3), (64, .iload_n 2), (65, .putfield 283), (68, .iload 4), (70, .ireturn)]
def am_c133_0 : List (Nat × Instr) := [(0, .aload_n 0), (1, .iload_n 1), (2, .invokevirtual 141), (5, .iload_n 2), (6, .iconst 0), (7, .sipush 199), (10, .invokestatic 144), (13, .iload_n 3), (14, .iconst 0), (15, .sipush 199), (18, .invokestatic 144), (21, .aload_n 0), (22, .getfield 55), (25, .aload_n 0), (26, .getfield 42), (29, .invokevirtual 280), (32, .aload_n 0), (33, .getfield 42), (36, .getfield 148), (39, .iload_n 1), (40, .aaload), (41, .astore 4), (43, .iload_n 2), (44, .aload 4), (46, .getfield 250), (49, .isub), (50, .invokestatic 292), (53, .iload_n 3), (54, .aload 4), (56, .getfield 254), (59, .isub), (60, .invokestatic 292), (63, .iadd), (64, .istore 5), (66, .aload 4), (68, .iload_n 2), (69, .putfield 250), (72, .aload 4), (74, .iload_n 3), (75, .putfield 254)]
def am_c133_1 : List (Nat × Instr) := [(78, .aload 4), (80, .getfield 170), (83, .iconst 1), (84, .if_icmp .ne 15), (87, .aload 4), (89, .iload_n 2), (90, .putfield 239), (93, .aload 4), (95, .iload_n 3), (96, .putfield 240), (99, .iload 5), (101, .ireturn)]
def am_c133 : List (Nat × Instr) := (am_c133_0 ++ am_c133_1)
def am_c135 : List (Nat × Instr) := [(0, .aload_n 0), (1, .iload_n 1), (2, .invokevirtual 157), (5, .iload_n 2), (6, .bipush (-9)), (8, .bipush 9), (10, .invokestatic 144), (13, .iload_n 3), (14, .bipush (-9)), (16, .bipush 9), (18, .invokestatic 144), (21, .aload_n 0), (22, .getfield 55), (25, .aload_n 0), (26, .getfield 42), (29, .invokevirtual 280), (32, .aload_n 0), (33, .getfield 42), (36, .getfield 160), (39, .iload_n 1), (40, .aaload), (41, .invokevirtual 299), (44, .istore 4), (46, .aload_n 0), (47, .getfield 42), (50, .getfield 160), (53, .iload_n 1), (54, .aaload), (55, .iload_n 2), (56, .putfield 253), (59, .aload_n 0), (60, .getfield 42), (63, .getfield 160), (66, .iload_n 1), (67, .aaload), (68, .iload_n 3), (69, .putfield 257), (72, .iload 4), (74, .ireturn)]
def am_c137 : List (Nat × Instr) := [(0, .aload_n 0), (1, .getfield 55), (4, .getfield 122), (7, .ifCond .le 7), (10, .iconst 1), (11, .goto 4), (14, .iconst 0), (15, .invokestatic 177), (18, .aload_n 0), (19, .getfield 55), (22, .aload_n 0), (23, .getfield 42), (26, .invokevirtual 308), (29, .aload_n 0), (30, .getfield 55), (33, .getfield 122), (36, .ireturn)]
def am_c142 : List (Nat × Instr) := [(0, .aload_n 0), (1, .getfield 49), (4, .aload_n 0), (5, .getfield 42), (8, .invokevirtual 84), (11, .aload_n 0), (12, .iconst 1), (13, .putfield 95), (16, .aload_n 0), (17, .getfield 42), (20, .getfield 109), (23, .ireturn)]
def am_c143 : List (Nat × Instr) := [(0, .aload_n 0), (1, .getfield 95), (4, .invokestatic 177), (7, .aload_n 0), (8, .getfield 42), (11, .aload_n 0), (12, .getfield 49), (15, .invokevirtual 84), (18, .aload_n 0), (19, .getfield 55), (22, .invokevirtual 92), (25, .aload_n 0), (26, .getfield 42), (29, .getfield 109), (32, .ireturn)]
def am_c144 : List (Nat × Instr) := [(0, .iload_n 1), (1, .iconst 0), (2, .aload_n 0), (3, .getfield 42), (6, .getfield 99), (9, .iconst 1), (10, .isub), (11, .invokestatic 125), (14, .ifCond .ne 14), (17, .new 215), (20, .dup), (21, .ldc_w 350), (24, .invokespecial 219), (27, .athrow), (28, .return_)]
def am_c145 : List (Nat × Instr) := [(0, .iload_n 1), (1, .iconst 0), (2, .aload_n 0), (3, .getfield 42), (6, .getfield 106), (9, .iconst 1), (10, .isub), (11, .invokestatic 125), (14, .ifCond .ne 14), (17, .new 215), (20, .dup), (21, .ldc_w 352), (24, .invokespecial 219), (27, .athrow), (28, .return_)]
def am_c146 : List (Nat × Instr) := [(0, .iload_n 0), (1, .iload_n 1), (2, .iload_n 2), (3, .invokestatic 125), (6, .ifCond .ne 14), (9, .new 354), (12, .dup), (13, .ldc_w 356), (16, .invokespecial 358), (19, .athrow), (20, .return_)]
def am_c147 : List (Nat × Instr) := [(0, .iload_n 0), (1, .ifCond .ne 14), (4, .new 359), (7, .dup), (8, .ldc_w 361), (11, .invokespecial 363), (14, .athrow), (15, .return_)]
def am_c148_0 : List (Nat × Instr) := [(0, .bipush (-9)), (2, .istore 5), (4, .iconst 0), (5, .istore 6), (7, .bipush (-9)), (9, .istore 7), (11, .iload 7), (13, .bipush 9), (15, .if_icmp .gt 109), (18, .aload_n 0), (19, .getfield 46), (22, .aload_n 0), (23, .getfield 42), (26, .invokevirtual 84), (29, .aload_n 0), (30, .getfield 46), (33, .getfield 148), (36, .iload_n 1), (37, .aaload), (38, .iload 7), (40, .putfield 289), (43, .iconst 0), (44, .istore 8), (46, .iload 8), (48, .iload_n 2), (49, .if_icmp .ge 29), (52, .aload_n 0), (53, .getfield 46), (56, .getfield 109), (59, .sipush 5000), (62, .if_icmp .ge 16), (65, .aload_n 0), (66, .getfield 46), (69, .invokevirtual 270), (72, .iinc 8 1), (75, .goto (-29)), (78, .iload 4), (80, .aload_n 0), (81, .getfield 46), (84, .getfield 148)]
def am_c148_1 : List (Nat × Instr) := [(87, .iload_n 1), (88, .aaload), (89, .iload_n 3), (90, .invokevirtual 152), (93, .imul), (94, .istore 8), (96, .iload 7), (98, .bipush (-9)), (100, .if_icmp .eq 10), (103, .iload 8), (105, .iload 6), (107, .if_icmp .le 11), (110, .iload 7), (112, .istore 5), (114, .iload 8), (116, .istore 6), (118, .iinc 7 1), (121, .goto (-110)), (124, .iload 5), (126, .ireturn)]
def am_c148 : List (Nat × Instr) := (am_c148_0 ++ am_c148_1)
def am_c151 : List (Nat × Instr) := [(0, .iload_n 0), (1, .iload_n 1), (2, .if_icmp .lt 12), (5, .iload_n 0), (6, .iload_n 2), (7, .if_icmp .gt 7), (10, .iconst 1), (11, .goto 4), (14, .iconst 0), (15, .ireturn)]
def am_c152 : List (Nat × Instr) := [(0, .iload_n 1), (1, .iload_n 2), (2, .iload_n 0), (3, .invokestatic 244), (6, .invokestatic 258), (9, .ireturn)]
def am_c313 : List (Nat × Instr) := [(0, .iload_n 0), (1, .iload_n 1), (2, .idiv), (3, .istore_n 2), (4, .iload_n 0), (5, .iload_n 1), (6, .ixor), (7, .ifCond .ge 14), (10, .iload_n 2), (11, .iload_n 1), (12, .imul), (13, .iload_n 0), (14, .if_icmp .eq 7), (17, .iload_n 2), (18, .iconst 1), (19, .isub), (20, .ireturn), (21, .iload_n 2), (22, .ireturn)]
def am_c314 : List (Nat × Instr) := [(0, .iload_n 0), (1, .ifCond .ge 8), (4, .iload_n 0), (5, .ineg), (6, .goto 4), (9, .iload_n 0), (10, .ireturn)]
def am_c315 : List (Nat × Instr) := [(0, .iload_n 0), (1, .iload_n 1), (2, .if_icmp .lt 7), (5, .iload_n 0), (6, .goto 4), (9, .iload_n 1), (10, .ireturn)]
def am_c316 : List (Nat × Instr) := [(0, .iload_n 0), (1, .iload_n 1), (2, .if_icmp .gt 7), (5, .iload_n 0), (6, .goto 4), (9, .iload_n 1), (10, .ireturn)]
def am_c317 : List (Nat × Instr) := [(0, .aload_n 0), (1, .getfield 9), (4, .arraylength), (5, .aload_n 0), (6, .invokevirtual 335), (9, .ishr), (10, .ireturn)]
def am_c318 : List (Nat × Instr) := [(0, .aload_n 0), (1, .invokevirtual 492), (4, .ifCond .eq 12), (7, .aload_n 0), (8, .getfield 9), (11, .iload_n 1), (12, .invokestatic 495), (15, .ireturn), (16, .aload_n 0), (17, .getfield 9), (20, .iload_n 1), (21, .invokestatic 498), (24, .ireturn)]
def am_c319 : List (Nat × Instr) := [(0, .getstatic 38), (3, .ifCond .eq 10), (6, .aload_n 0), (7, .getfield 15), (10, .goto 4), (13, .iconst 1), (14, .ireturn)]
def am_c320 : List (Nat × Instr) := [(0, .getstatic 38), (3, .ifCond .eq 14), (6, .aload_n 0), (7, .getfield 15), (10, .ifCond .ne 7), (13, .iconst 1), (14, .goto 4), (17, .iconst 0), (18, .ireturn)]
def am_c321 : List (Nat × Instr) := [(0, .iload_n 0), (1, .iload_n 1), (2, .getstatic 1053), (5, .invokestatic 1059), (8, .pop), (9, .return_)]
def am_c322 : List (Nat × Instr) := [(0, .iload_n 1), (1, .aload_n 0), (2, .arraylength), (3, .invokestatic 9), (6, .aload_n 0), (7, .iload_n 1), (8, .baload), (9, .sipush 255), (12, .iand), (13, .i2c), (14, .ireturn)]
def am_c323 : List (Nat × Instr) := [(0, .iload_n 0), (1, .ifCond .lt 8), (4, .iload_n 0), (5, .iload_n 1), (6, .if_icmp .lt 10), (9, .aload_n 2), (10, .iload_n 0), (11, .iload_n 1), (12, .invokestatic 95), (15, .athrow), (16, .iload_n 0), (17, .ireturn)]
def am_c324 : List (Nat × Instr) := [(0, .iload_n 0), (1, .sipush 255), (4, .if_icmp .gt 7), (7, .iconst 1), (8, .goto 4), (11, .iconst 0), (12, .ireturn)]
def am_c325 : List (Nat × Instr) := [(0, .iload_n 0), (1, .iload_n 1), (2, .iload_n 2), (3, .invokestatic 194), (6, .iadd), (7, .istore_n 3), (8, .iconst 0), (9, .iload_n 3), (10, .if_icmp .ge 11), (13, .iload_n 3), (14, .ldc 200), (16, .if_icmp .gt 5), (19, .iload_n 3), (20, .ireturn), (21, .iload_n 0), (22, .iload_n 1), (23, .invokestatic 201), (26, .ireturn)]
def am_c326 : List (Nat × Instr) := [(0, .iload_n 1), (1, .aload_n 0), (2, .arraylength), (3, .if_icmp .ne 11), (6, .aload_n 0), (7, .invokevirtual 310), (10, .checkcast 311), (13, .areturn), (14, .iload_n 1), (15, .newarray .byte), (17, .astore_n 2), (18, .aload_n 0), (19, .iconst 0), (20, .aload_n 2), (21, .iconst 0), (22, .aload_n 0), (23, .arraylength), (24, .iload_n 1), (25, .invokestatic 304), (28, .invokestatic 150), (31, .aload_n 2), (32, .areturn)]
def am_c327 : List (Nat × Instr) := [(0, .iload_n 1), (1, .iload_n 0), (2, .if_icmp .ge 35), (5, .new 43), (8, .dup), (9, .new 45), (12, .dup), (13, .invokespecial 47), (16, .iload_n 0), (17, .invokevirtual 54), (20, .ldc_w 337), (23, .invokevirtual 50), (26, .iload_n 1), (27, .invokevirtual 54), (30, .invokevirtual 61), (33, .invokespecial 65), (36, .athrow), (37, .return_)]
def am_c328 : List (Nat × Instr) := [(0, .iload_n 1), (1, .iload_n 2), (2, .invokestatic 343), (5, .iload_n 2), (6, .iload_n 1), (7, .isub), (8, .istore_n 3), (9, .iload_n 3), (10, .newarray .byte), (12, .astore 4), (14, .aload_n 0), (15, .iload_n 1), (16, .aload 4), (18, .iconst 0), (19, .aload_n 0), (20, .arraylength), (21, .iload_n 1), (22, .isub), (23, .iload_n 3), (24, .invokestatic 304), (27, .invokestatic 150), (30, .aload 4), (32, .areturn)]
def am_c329 : List (Nat × Instr) := [(0, .iload_n 1), (1, .ifCond .ne 9), (4, .iload_n 2), (5, .aload_n 0), (6, .arraylength), (7, .if_icmp .eq 10), (10, .aload_n 0), (11, .iload_n 1), (12, .iload_n 2), (13, .invokestatic 339), (16, .areturn), (17, .aload_n 0), (18, .invokevirtual 310), (21, .checkcast 311), (24, .areturn)]
def am_c330 : List (Nat × Instr) := [(0, .iconst 1), (1, .istore_n 1), (2, .iload_n 0), (3, .ifCond .lt 8), (6, .iconst 0), (7, .istore_n 1), (8, .iload_n 0), (9, .ineg), (10, .istore_n 0), (11, .bipush (-10)), (13, .istore_n 2), (14, .iconst 1), (15, .istore_n 3), (16, .iload_n 3), (17, .bipush 10), (19, .if_icmp .ge 23), (22, .iload_n 0), (23, .iload_n 2), (24, .if_icmp .le 7), (27, .iload_n 3), (28, .iload_n 1), (29, .iadd), (30, .ireturn), (31, .bipush 10), (33, .iload_n 2), (34, .imul), (35, .istore_n 2), (36, .iinc 3 1), (39, .goto (-23)), (42, .bipush 10), (44, .iload_n 1), (45, .iadd), (46, .ireturn)]
def am_c331_0 : List (Nat × Instr) := [(0, .iload_n 1), (1, .istore 5), (3, .iload_n 0), (4, .ifCond .ge 7), (7, .iconst 1), (8, .goto 4), (11, .iconst 0), (12, .istore 6), (14, .iload 6), (16, .ifCond .ne 6), (19, .iload_n 0), (20, .ineg), (21, .istore_n 0), (22, .iload_n 0), (23, .bipush (-100)), (25, .if_icmp .gt 47), (28, .iload_n 0), (29, .bipush 100), (31, .idiv), (32, .istore_n 3), (33, .iload_n 3), (34, .bipush 100), (36, .imul), (37, .iload_n 0), (38, .isub), (39, .istore 4), (41, .iload_n 3), (42, .istore_n 0), (43, .aload_n 2), (44, .iinc 5 (-1)), (47, .iload 5), (49, .getstatic 83), (52, .iload 4), (54, .baload), (55, .bastore), (56, .aload_n 2), (57, .iinc 5 (-1)), (60, .iload 5), (62, .getstatic 87), (65, .iload 4)]
def am_c331_1 : List (Nat × Instr) := [(67, .baload), (68, .bastore), (69, .goto (-47)), (72, .aload_n 2), (73, .iinc 5 (-1)), (76, .iload 5), (78, .getstatic 83), (81, .iload_n 0), (82, .ineg), (83, .baload), (84, .bastore), (85, .iload_n 0), (86, .bipush (-9)), (88, .if_icmp .ge 16), (91, .aload_n 2), (92, .iinc 5 (-1)), (95, .iload 5), (97, .getstatic 87), (100, .iload_n 0), (101, .ineg), (102, .baload), (103, .bastore), (104, .iload 6), (106, .ifCond .eq 12), (109, .aload_n 2), (110, .iinc 5 (-1)), (113, .iload 5), (115, .bipush 45), (117, .bastore), (118, .iload 5), (120, .ireturn)]
def am_c331 : List (Nat × Instr) := (am_c331_0 ++ am_c331_1)
def am_c332 : List (Nat × Instr) := [(0, .getstatic 18), (3, .ifCond .eq 14), (6, .aload_n 0), (7, .getfield 22), (10, .ifCond .ne 7), (13, .iconst 1), (14, .goto 4), (17, .iconst 0), (18, .ireturn)]
def am_c333 : List (Nat × Instr) := [(0, .aload_n 0), (1, .getfield 15), (4, .areturn)]
def am_c334 : List (Nat × Instr) := [(0, .aload_n 0), (1, .getfield 79), (4, .ireturn)]
def am_c335 : List (Nat × Instr) := [(0, .aload_n 0), (1, .getfield 15), (4, .arraylength), (5, .istore_n 2), (6, .iload_n 1), (7, .aload_n 0), (8, .getfield 22), (11, .ishl), (12, .istore_n 3), (13, .iload_n 3), (14, .iload_n 2), (15, .isub), (16, .istore 4), (18, .iload_n 2), (19, .iload 4), (21, .iload_n 2), (22, .iconst 2), (23, .aload_n 0), (24, .getfield 22), (27, .ishl), (28, .iadd), (29, .invokestatic 114), (32, .istore 5), (34, .iload 5), (36, .ldc 39), (38, .if_icmp .ne 13), (41, .new 120), (44, .dup), (45, .ldc 122), (47, .invokespecial 124), (50, .athrow), (51, .iload 5), (53, .aload_n 0), (54, .getfield 22), (57, .ishr), (58, .ireturn)]
def am_c336 : List (Nat × Instr) := [(0, .aload_n 0), (1, .getfield 15), (4, .arraylength), (5, .aload_n 0), (6, .getfield 22), (9, .ishr), (10, .istore_n 2), (11, .iload_n 1), (12, .iload_n 2), (13, .isub), (14, .ifCond .le 24), (17, .aload_n 0), (18, .aload_n 0), (19, .getfield 15), (22, .aload_n 0), (23, .iload_n 1), (24, .invokevirtual 104), (27, .aload_n 0), (28, .getfield 22), (31, .ishl), (32, .invokestatic 108), (35, .putfield 15), (38, .return_)]
def am_c337 : List (Nat × Instr) := [(0, .aload_n 0), (1, .invokevirtual 335), (4, .iload_n 3), (5, .if_icmp .ne 23), (8, .aload_n 0), (9, .getfield 9), (12, .iconst 0), (13, .aload_n 1), (14, .iload_n 2), (15, .iload_n 3), (16, .ishl), (17, .aload_n 0), (18, .getfield 9), (21, .arraylength), (22, .invokestatic 212), (25, .goto 18), (28, .aload_n 0), (29, .getfield 9), (32, .iconst 0), (33, .aload_n 1), (34, .iload_n 2), (35, .aload_n 0), (36, .getfield 9), (39, .arraylength), (40, .invokestatic 106), (43, .return_)]
def am_c338 : List (Nat × Instr) := [(0, .getstatic 18), (3, .ifCond .eq 18), (6, .aload_n 0), (7, .getfield 22), (10, .aload_n 1), (11, .invokevirtual 40), (14, .if_icmp .eq 7), (17, .aload_n 0), (18, .invokevirtual 195), (21, .return_)]
def am_c339 : List (Nat × Instr) := [(0, .aload_n 0), (1, .aload_n 2), (2, .invokevirtual 397), (5, .aload_n 2), (6, .aload_n 0), (7, .getfield 15), (10, .iload_n 1), (11, .aload_n 0), (12, .getfield 22), (15, .invokevirtual 399), (18, .return_)]
def am_c340 : List (Nat × Instr) := [(0, .aload_n 1), (1, .ifnonnull 8), (4, .aload_n 0), (5, .invokevirtual 204), (8, .areturn), (9, .aload_n 1), (10, .invokevirtual 32), (13, .istore_n 2), (14, .aload_n 0), (15, .aload_n 0), (16, .getfield 79), (19, .iload_n 2), (20, .iadd), (21, .invokevirtual 100), (24, .aload_n 0), (25, .aload_n 0), (26, .getfield 79), (29, .aload_n 1), (30, .invokevirtual 208), (33, .aload_n 0), (34, .dup), (35, .getfield 79), (38, .iload_n 2), (39, .iadd), (40, .putfield 79), (43, .aload_n 0), (44, .areturn)]
def am_c341 : List (Nat × Instr) := [(0, .aload_n 0), (1, .aload_n 0), (2, .getfield 79), (5, .iconst 1), (6, .iadd), (7, .invokevirtual 100), (10, .aload_n 0), (11, .invokevirtual 83), (14, .ifCond .eq 31), (17, .iload_n 1), (18, .invokestatic 191), (21, .ifCond .eq 24), (24, .aload_n 0), (25, .getfield 15), (28, .aload_n 0), (29, .dup), (30, .getfield 79), (33, .dup_x1), (34, .iconst 1), (35, .iadd), (36, .putfield 79), (39, .iload_n 1), (40, .i2b), (41, .bastore), (42, .goto 33), (45, .aload_n 0), (46, .invokevirtual 83), (49, .ifCond .eq 7), (52, .aload_n 0), (53, .invokevirtual 195), (56, .aload_n 0), (57, .getfield 15), (60, .aload_n 0), (61, .dup), (62, .getfield 79), (65, .dup_x1), (66, .iconst 1), (67, .iadd), (68, .putfield 79), (71, .iload_n 1), (72, .invokestatic 197), (75, .aload_n 0), (76, .areturn)]
def am_c342 : List (Nat × Instr) := [(0, .aload_n 0), (1, .getfield 79), (4, .istore_n 2), (5, .iload_n 2), (6, .iload_n 1), (7, .invokestatic 245), (10, .iadd), (11, .istore_n 3), (12, .aload_n 0), (13, .iload_n 3), (14, .invokevirtual 100), (17, .aload_n 0), (18, .invokevirtual 83), (21, .ifCond .eq 16), (24, .iload_n 1), (25, .iload_n 3), (26, .aload_n 0), (27, .getfield 15), (30, .invokestatic 248), (33, .pop), (34, .goto 14), (37, .iload_n 1), (38, .iload_n 2), (39, .iload_n 3), (40, .aload_n 0), (41, .getfield 15), (44, .invokestatic 251), (47, .pop), (48, .aload_n 0), (49, .iload_n 3), (50, .putfield 79), (53, .aload_n 0), (54, .areturn)]
def am_c343 : List (Nat × Instr) := [(0, .aload_n 0), (1, .aload_n 1), (2, .invokespecial 29), (5, .pop), (6, .aload_n 0), (7, .areturn)]
def am_c344 : List (Nat × Instr) := [(0, .aload_n 0), (1, .iload_n 1), (2, .invokespecial 50), (5, .pop), (6, .aload_n 0), (7, .areturn)]
def am_c345 : List (Nat × Instr) := [(0, .aload_n 0), (1, .iload_n 1), (2, .invokespecial 53), (5, .pop), (6, .aload_n 0), (7, .areturn)]
def am_c346 : List (Nat × Instr) := [(0, .aload_n 0), (1, .aload_n 1), (2, .invokevirtual 23), (5, .areturn)]
def am_c347 : List (Nat × Instr) := [(0, .aload_n 0), (1, .invokespecial 343), (4, .ireturn)]
def am_c348 : List (Nat × Instr) := [(0, .aload_n 0), (1, .invokespecial 3), (4, .aload_n 1), (5, .invokevirtual 32), (8, .istore_n 2), (9, .iload_n 2), (10, .ldc 38), (12, .if_icmp .ge 10), (15, .iload_n 2), (16, .bipush 16), (18, .iadd), (19, .goto 5), (22, .ldc 39), (24, .istore_n 3), (25, .aload_n 1), (26, .invokevirtual 40), (29, .istore 4), (31, .aload_n 0), (32, .iload 4), (34, .putfield 22), (37, .aload_n 0), (38, .iload 4), (40, .ifCond .ne 9), (43, .iload_n 3), (44, .newarray .byte), (46, .goto 7), (49, .iload_n 3), (50, .invokestatic 26), (53, .putfield 15), (56, .aload_n 0), (57, .aload_n 1), (58, .invokevirtual 43), (61, .pop), (62, .return_)]
def am_c349 : List (Nat × Instr) := [(0, .aload_n 0), (1, .aload_n 1), (2, .invokespecial 7), (5, .return_)]
def am_c350_0 : List (Nat × Instr) := [(0, .aload_n 0), (1, .invokespecial 1), (4, .aload_n 1), (5, .invokevirtual 552), (8, .astore_n 3), (9, .aload_n 1), (10, .invokevirtual 549), (13, .istore 4), (15, .aload_n 1), (16, .invokevirtual 1047), (19, .ifCond .eq 22), (22, .aload_n 0), (23, .iconst 0), (24, .putfield 15), (27, .aload_n 0), (28, .aload_n 3), (29, .iconst 0), (30, .iload 4), (32, .invokestatic 54), (35, .putfield 9), (38, .goto 59), (41, .getstatic 38), (44, .ifCond .eq 35), (47, .aload_n 1), (48, .getfield 1048), (51, .ifCond .eq 28), (54, .aload_n 0), (55, .aload_n 3), (56, .iconst 0), (57, .iload 4), (59, .invokestatic 1051), (62, .putfield 9), (65, .aload_n 0), (66, .aload_n 0), (67, .getfield 9), (70, .iload 4), (72, .invokestatic 47), (75, .putfield 15), (78, .return_), (79, .aload_n 0)]
def am_c350_1 : List (Nat × Instr) := [(80, .iconst 1), (81, .putfield 15), (84, .aload_n 0), (85, .aload_n 3), (86, .iconst 0), (87, .iload 4), (89, .iconst 1), (90, .ishl), (91, .invokestatic 54), (94, .putfield 9), (97, .return_)]
def am_c350 : List (Nat × Instr) := (am_c350_0 ++ am_c350_1)
def am_c351 : List (Nat × Instr) := [(0, .aload_n 0), (1, .aload_n 1), (2, .aconst_null), (3, .invokespecial 489), (6, .return_)]
def am_c352 : List (Nat × Instr) := [(0, .new 18), (3, .dup), (4, .aload_n 0), (5, .invokespecial 137), (8, .areturn)]
def am_c357 : List (Nat × Instr) := [(0, .iload_n 1), (1, .aload_n 0), (2, .arraylength), (3, .if_icmp .ge 9), (6, .aload_n 0), (7, .iload_n 1), (8, .iaload), (9, .goto 11), (12, .sipush 8191), (15, .iload_n 1), (16, .imul), (17, .ldc 7), (19, .iadd), (20, .ireturn)]
def am_c358 : List (Nat × Instr) := [(0, .iload_n 2), (1, .aload_n 0), (2, .iload_n 1), (3, .invokestatic 8), (6, .ldc 14), (8, .iand), (9, .iload_n 3), (10, .iload_n 2), (11, .isub), (12, .iconst 1), (13, .iadd), (14, .irem), (15, .iadd), (16, .ireturn)]
def am_c359_0 : List (Nat × Instr) := [(0, .iconst 0), (1, .istore_n 2), (2, .iload_n 2), (3, .aload_n 1), (4, .invokevirtual 15), (7, .if_icmp .ge 93), (10, .iconst 5), (11, .newarray .int), (13, .astore_n 3), (14, .iconst 0), (15, .istore 4), (17, .iload 4), (19, .bipush 20), (21, .if_icmp .ge 53), (24, .aload_n 3), (25, .iload 4), (27, .iconst 4), (28, .idiv), (29, .dup2), (30, .iaload), (31, .iload_n 2), (32, .iload 4), (34, .iadd), (35, .aload_n 1), (36, .invokevirtual 15), (39, .if_icmp .ge 14), (42, .aload_n 1), (43, .iload_n 2), (44, .iload 4), (46, .iadd), (47, .invokevirtual 21), (50, .goto 5), (53, .bipush 32), (55, .bipush 24), (57, .bipush 8), (59, .iload 4), (61, .iconst 4), (62, .irem), (63, .imul), (64, .isub)]
def am_c359_1 : List (Nat × Instr) := [(65, .ishl), (66, .ior), (67, .iastore), (68, .iinc 4 1), (71, .goto (-54)), (74, .aload_n 0), (75, .aload_n 3), (76, .iconst 0), (77, .iaload), (78, .aload_n 3), (79, .iconst 1), (80, .iaload), (81, .aload_n 3), (82, .iconst 2), (83, .iaload), (84, .aload_n 3), (85, .iconst 3), (86, .iaload), (87, .aload_n 3), (88, .iconst 4), (89, .iaload), (90, .invokevirtual 25), (93, .pop), (94, .iinc 2 20), (97, .goto (-95)), (100, .aload_n 0), (101, .aload_n 1), (102, .invokevirtual 15), (105, .invokevirtual 31), (108, .pop), (109, .return_)]
def am_c359 : List (Nat × Instr) := (am_c359_0 ++ am_c359_1)
def am_c360 : List (Nat × Instr) := [(0, .aload_n 0), (1, .aload_n 1), (2, .invokestatic 35), (5, .aload_n 0), (6, .invokevirtual 39), (9, .ireturn)]
def am_c361_0 : List (Nat × Instr) := [(0, .new 42), (3, .dup), (4, .ldc 44), (6, .invokespecial 46), (9, .astore_n 2), (10, .aload_n 2), (11, .aload_n 0), (12, .iconst 1), (13, .iconst 0), (14, .bipush 50), (16, .invokestatic 49), (19, .invokevirtual 53), (22, .ldc 57), (24, .invokevirtual 59), (27, .aload_n 0), (28, .iconst 2), (29, .iconst 0), (30, .bipush 50), (32, .invokestatic 49), (35, .invokevirtual 53), (38, .ldc 62), (40, .invokevirtual 59), (43, .aload_n 0), (44, .iconst 3), (45, .iconst 0), (46, .bipush 20), (48, .invokestatic 49), (51, .invokevirtual 53), (54, .bipush 59), (56, .invokevirtual 64), (59, .pop), (60, .iconst 0), (61, .istore_n 3), (62, .iload_n 3), (63, .iload_n 1), (64, .if_icmp .ge 126), (67, .aload_n 2), (68, .ldc 67), (70, .invokevirtual 59), (73, .bipush 97)]
def am_c361_1 : List (Nat × Instr) := [(75, .iload_n 3), (76, .iadd), (77, .i2c), (78, .invokevirtual 64), (81, .bipush 32), (83, .invokevirtual 64), (86, .aload_n 0), (87, .bipush 10), (89, .iload_n 3), (90, .iadd), (91, .bipush 60), (93, .bipush 110), (95, .invokestatic 49), (98, .invokevirtual 53), (101, .bipush 32), (103, .invokevirtual 64), (106, .aload_n 0), (107, .bipush 20), (109, .iload_n 3), (110, .iadd), (111, .bipush 60), (113, .bipush 110), (115, .invokestatic 49), (118, .invokevirtual 53), (121, .ldc 69), (123, .invokevirtual 59), (126, .aload_n 0), (127, .bipush 30), (129, .iload_n 3), (130, .iadd), (131, .iconst 0), (132, .bipush 9), (134, .invokestatic 49), (137, .invokevirtual 53), (140, .ldc 71), (142, .invokevirtual 59), (145, .aload_n 0), (146, .bipush 40), (148, .iload_n 3), (149, .iadd)]
def am_c361_2 : List (Nat × Instr) := [(150, .iconst 1), (151, .bipush 40), (153, .invokestatic 49), (156, .invokevirtual 53), (159, .ldc 73), (161, .invokevirtual 59), (164, .aload_n 0), (165, .bipush 50), (167, .iload_n 3), (168, .iadd), (169, .iconst 1), (170, .bipush 60), (172, .invokestatic 49), (175, .invokevirtual 53), (178, .bipush 59), (180, .invokevirtual 64), (183, .pop), (184, .iinc 3 1), (187, .goto (-125)), (190, .iconst 0), (191, .istore_n 3), (192, .iconst 0), (193, .istore 4), (195, .iload 4), (197, .aload_n 0), (198, .iconst 4), (199, .iconst 1), (200, .iconst 4), (201, .invokestatic 49), (204, .if_icmp .ge 102), (207, .aload_n 2), (208, .ldc 75), (210, .invokevirtual 59), (213, .iload_n 3), (214, .invokevirtual 53), (217, .pop), (218, .iconst 0), (219, .istore 5), (221, .iload 5), (223, .iconst 2)]
def am_c361_3 : List (Nat × Instr) := [(224, .if_icmp .ge 54), (227, .aload_n 0), (228, .bipush 60), (230, .iconst 2), (231, .iload 4), (233, .imul), (234, .iadd), (235, .iload 5), (237, .iadd), (238, .bipush (-9)), (240, .bipush 9), (242, .invokestatic 49), (245, .istore 6), (247, .aload_n 2), (248, .iload 6), (250, .ifCond .ge 8), (253, .ldc 77), (255, .goto 5), (258, .ldc 79), (260, .invokevirtual 59), (263, .iload 6), (265, .invokestatic 81), (268, .invokevirtual 53), (271, .pop), (272, .iinc 5 1), (275, .goto (-54)), (278, .aload_n 2), (279, .bipush 59), (281, .invokevirtual 64), (284, .pop), (285, .iload_n 3), (286, .aload_n 0), (287, .bipush 68), (289, .iload 4), (291, .iadd), (292, .iconst 1), (293, .bipush 30), (295, .invokestatic 49), (298, .iadd), (299, .istore_n 3)]
def am_c361_4 : List (Nat × Instr) := [(300, .iinc 4 1), (303, .goto (-108)), (306, .aload_n 2), (307, .invokevirtual 87), (310, .areturn)]
def am_c361 : List (Nat × Instr) := (am_c361_0 ++ (am_c361_1 ++ (am_c361_2 ++ (am_c361_3 ++ am_c361_4))))
def am_c362_0 : List (Nat × Instr) := [(0, .aload_n 0), (1, .iconst 0), (2, .invokevirtual 91), (5, .istore_n 2), (6, .iconst 0), (7, .istore_n 3), (8, .iconst 0), (9, .istore 4), (11, .iconst 0), (12, .istore 5), (14, .iconst 3), (15, .istore 6), (17, .iload 6), (19, .bipush 8), (21, .if_icmp .ge 20), (24, .iload 5), (26, .aload_n 0), (27, .iload 6), (29, .invokevirtual 91), (32, .iadd), (33, .istore 5), (35, .iinc 6 1), (38, .goto (-21)), (41, .iconst 0), (42, .istore 6), (44, .iload 6), (46, .iload_n 2), (47, .if_icmp .ge 540), (50, .iconst 0), (51, .istore 7), (53, .iconst 0), (54, .istore 8), (56, .iload 8), (58, .iload_n 2), (59, .if_icmp .ge 352), (62, .aload_n 0), (63, .iload 6), (65, .iload 8), (67, .invokevirtual 94), (70, .istore 9)]
def am_c362_1 : List (Nat × Instr) := [(72, .aload_n 0), (73, .iload 6), (75, .invokevirtual 98), (78, .iload 8), (80, .ishr), (81, .iconst 1), (82, .iand), (83, .iconst 1), (84, .if_icmp .ne 7), (87, .iconst 1), (88, .goto 4), (91, .iconst 0), (92, .istore 10), (94, .iload 9), (96, .aload_n 0), (97, .iload 8), (99, .iload 6), (101, .invokevirtual 94), (104, .if_icmp .ne 111), (107, .iload 10), (109, .ifCond .eq 8), (112, .iload 9), (114, .ifCond .eq 101), (117, .iload 10), (119, .aload_n 0), (120, .iload 8), (122, .invokevirtual 98), (125, .iload 6), (127, .ishr), (128, .iconst 1), (129, .iand), (130, .iconst 1), (131, .if_icmp .ne 7), (134, .iconst 1), (135, .goto 4), (138, .iconst 0), (139, .if_icmp .ne 76), (142, .iload 9), (144, .ifCond .eq 30), (147, .iload 6)]
def am_c362_2 : List (Nat × Instr) := [(149, .iload 8), (151, .if_icmp .eq 64), (154, .aload_n 0), (155, .iload 6), (157, .iconst 0), (158, .invokevirtual 101), (161, .ifCond .ne 54), (164, .aload_n 0), (165, .iload 8), (167, .iconst 0), (168, .invokevirtual 101), (171, .ifCond .ne 44), (174, .iload 9), (176, .aload_n 0), (177, .iload 6), (179, .iload 8), (181, .iconst 4), (182, .invokevirtual 105), (185, .ifCond .lt 7), (188, .iconst 1), (189, .goto 4), (192, .iconst 0), (193, .if_icmp .ne 22), (196, .aload_n 0), (197, .iload 6), (199, .iload 8), (201, .invokevirtual 109), (204, .aload_n 0), (205, .iload 8), (207, .iload 6), (209, .invokevirtual 109), (212, .if_icmp .eq 5), (215, .iconst 0), (216, .ireturn), (217, .iload 9), (219, .ifCond .eq 108), (222, .aload_n 0), (223, .iload 6), (225, .iload 8), (227, .iconst 4)]
def am_c362_3 : List (Nat × Instr) := [(228, .invokevirtual 105), (231, .aload_n 0), (232, .iload 6), (234, .iload 8), (236, .iconst 2), (237, .invokevirtual 105), (240, .aload_n 0), (241, .iload 6), (243, .iload 8), (245, .iconst 3), (246, .invokevirtual 105), (249, .isub), (250, .invokestatic 81), (253, .if_icmp .ne 72), (256, .iload 10), (258, .aload_n 0), (259, .iload 6), (261, .iload 8), (263, .iconst 4), (264, .invokevirtual 105), (267, .aload_n 0), (268, .iconst 4), (269, .invokevirtual 112), (272, .if_icmp .gt 7), (275, .iconst 1), (276, .goto 4), (279, .iconst 0), (280, .if_icmp .ne 45), (283, .aload_n 0), (284, .iload 6), (286, .iload 8), (288, .iconst 0), (289, .invokevirtual 105), (292, .aload_n 0), (293, .iload 8), (295, .iload 6), (297, .iconst 0), (298, .invokevirtual 105), (301, .if_icmp .ne 24), (304, .aload_n 0)]
def am_c362_4 : List (Nat × Instr) := [(305, .iload 6), (307, .iload 8), (309, .iconst 2), (310, .invokevirtual 105), (313, .aload_n 0), (314, .iload 8), (316, .iload 6), (318, .iconst 3), (319, .invokevirtual 105), (322, .if_icmp .eq 5), (325, .iconst 0), (326, .ireturn), (327, .iload_n 3), (328, .iload 9), (330, .ifCond .eq 14), (333, .iload 6), (335, .iload 8), (337, .if_icmp .ge 7), (340, .iconst 1), (341, .goto 4), (344, .iconst 0), (345, .iadd), (346, .istore_n 3), (347, .iload 4), (349, .iload 10), (351, .ifCond .eq 14), (354, .iload 6), (356, .iload 8), (358, .if_icmp .ge 7), (361, .iconst 1), (362, .goto 4), (365, .iconst 0), (366, .iadd), (367, .istore 4), (369, .iload 7), (371, .iload 10), (373, .ifCond .eq 28), (376, .aload_n 0), (377, .iload 8), (379, .bipush 8)]
def am_c362_5 : List (Nat × Instr) := [(381, .invokevirtual 101), (384, .iconst 1), (385, .aload_n 0), (386, .iload 8), (388, .bipush 7), (390, .invokevirtual 101), (393, .invokestatic 81), (396, .iadd), (397, .imul), (398, .goto 4), (401, .iconst 0), (402, .iadd), (403, .istore 7), (405, .iinc 8 1), (408, .goto (-352)), (411, .aload_n 0), (412, .iload 6), (414, .iconst 3), (415, .invokevirtual 101), (418, .istore 8), (420, .iload 7), (422, .aload_n 0), (423, .iload 6), (425, .invokevirtual 115), (428, .if_icmp .ne 126), (431, .aload_n 0), (432, .iload 6), (434, .invokevirtual 118), (437, .ifCond .lt 7), (440, .iconst 1), (441, .goto 4), (444, .iconst 0), (445, .aload_n 0), (446, .iload 6), (448, .invokevirtual 98), (451, .ifCond .eq 7), (454, .iconst 1), (455, .goto 4), (458, .iconst 0), (459, .if_icmp .ne 95)]
def am_c362_6 : List (Nat × Instr) := [(462, .iload 8), (464, .ifCond .lt 90), (467, .iload 8), (469, .sipush 300), (472, .if_icmp .gt 82), (475, .aload_n 0), (476, .iload 6), (478, .invokevirtual 121), (481, .ifCond .lt 7), (484, .iconst 1), (485, .goto 4), (488, .iconst 0), (489, .aload_n 0), (490, .iload 6), (492, .iconst 0), (493, .invokevirtual 101), (496, .ifCond .ne 7), (499, .iconst 1), (500, .goto 4), (503, .iconst 0), (504, .if_icmp .ne 50), (507, .aload_n 0), (508, .iload 6), (510, .iconst 0), (511, .invokevirtual 101), (514, .ifCond .ne 8), (517, .iload 8), (519, .ifCond .eq 35), (522, .aload_n 0), (523, .aload_n 0), (524, .iload 6), (526, .iconst 1), (527, .invokevirtual 101), (530, .aload_n 0), (531, .iload 6), (533, .iconst 2), (534, .invokevirtual 101), (537, .sipush 199), (540, .sipush 199), (543, .invokevirtual 124)]
def am_c362_7 : List (Nat × Instr) := [(546, .iload 6), (548, .ishr), (549, .iconst 1), (550, .iand), (551, .ifCond .ne 5), (554, .iconst 0), (555, .ireturn), (556, .iload_n 1), (557, .ifCond .eq 24), (560, .aload_n 0), (561, .iload 6), (563, .iconst 0), (564, .invokevirtual 101), (567, .ifCond .ne 14), (570, .aload_n 0), (571, .iload 6), (573, .invokevirtual 128), (576, .ifCond .ge 5), (579, .iconst 0), (580, .ireturn), (581, .iinc 6 1), (584, .goto (-540)), (587, .iload_n 3), (588, .aload_n 0), (589, .bipush 10), (591, .invokevirtual 91), (594, .if_icmp .ne 88), (597, .iload 4), (599, .aload_n 0), (600, .bipush 11), (602, .invokevirtual 91), (605, .if_icmp .ne 77), (608, .iload 5), (610, .iload_n 2), (611, .if_icmp .ne 71), (614, .aload_n 0), (615, .bipush 11), (617, .invokevirtual 131), (620, .aload_n 0), (621, .bipush 9)]
def am_c362_8 : List (Nat × Instr) := [(623, .invokevirtual 91), (626, .iconst 2), (627, .aload_n 0), (628, .bipush 7), (630, .invokevirtual 91), (633, .imul), (634, .iadd), (635, .if_icmp .ne 47), (638, .aload_n 0), (639, .bipush 8), (641, .invokevirtual 91), (644, .bipush 12), (646, .if_icmp .gt 36), (649, .aload_n 0), (650, .invokevirtual 134), (653, .iconst (-1)), (654, .if_icmp .ne 7), (657, .iconst 1), (658, .goto 4), (661, .iconst 0), (662, .aload_n 0), (663, .iconst 3), (664, .invokevirtual 91), (667, .ifCond .ne 7), (670, .iconst 1), (671, .goto 4), (674, .iconst 0), (675, .if_icmp .ne 7), (678, .iconst 1), (679, .goto 4), (682, .iconst 0), (683, .ireturn)]
def am_c362 : List (Nat × Instr) := (am_c362_0 ++ (am_c362_1 ++ (am_c362_2 ++ (am_c362_3 ++ (am_c362_4 ++ (am_c362_5 ++ (am_c362_6 ++ (am_c362_7 ++ am_c362_8))))))))
def am_c363_0 : List (Nat × Instr) := [(0, .aload_n 1), (1, .iload_n 2), (2, .iconst 0), (3, .iload_n 3), (4, .iconst 1), (5, .isub), (6, .invokestatic 49), (9, .istore 4), (11, .aload_n 1), (12, .iload_n 2), (13, .iconst 1), (14, .iadd), (15, .iconst 0), (16, .bipush 6), (18, .invokestatic 49), (21, .tableswitch 218 0 5 #[39, 39, 103, 124, 155, 187]), (60, .aload_n 0), (61, .iload 4), (63, .iconst 0), (64, .invokevirtual 101), (67, .iconst 1), (68, .if_icmp .ne 200), (71, .aload_n 0), (72, .iload 4), (74, .invokevirtual 137), (77, .ifCond .le 191), (80, .aload_n 1), (81, .iload_n 2), (82, .iconst 2), (83, .iadd), (84, .iconst 0), (85, .iconst 1), (86, .invokestatic 49), (89, .ifCond .ne 179), (92, .aload_n 0), (93, .iload 4), (95, .aload_n 1), (96, .iload_n 2), (97, .iconst 2), (98, .iadd)]
def am_c363_1 : List (Nat × Instr) := [(99, .bipush 60), (101, .bipush 110), (103, .invokestatic 49), (106, .aload_n 1), (107, .iload_n 2), (108, .iconst 3), (109, .iadd), (110, .bipush 60), (112, .bipush 110), (114, .invokestatic 49), (117, .invokevirtual 140), (120, .pop), (121, .goto 147), (124, .aload_n 0), (125, .iload 4), (127, .aload_n 1), (128, .iload_n 2), (129, .iconst 2), (130, .iadd), (131, .bipush (-9)), (133, .bipush 9), (135, .invokestatic 49), (138, .invokevirtual 143), (141, .pop), (142, .goto 126), (145, .aload_n 0), (146, .iload 4), (148, .iconst 0), (149, .invokevirtual 101), (152, .iconst 2), (153, .if_icmp .ge 115), (156, .aload_n 0), (157, .iload 4), (159, .aload_n 1), (160, .iload_n 2), (161, .iconst 2), (162, .iadd), (163, .iconst 1), (164, .bipush 90), (166, .invokestatic 49)]
def am_c363_2 : List (Nat × Instr) := [(169, .invokevirtual 146), (172, .pop), (173, .goto 95), (176, .aload_n 0), (177, .iload 4), (179, .aload_n 1), (180, .iload_n 2), (181, .iconst 2), (182, .iadd), (183, .bipush 60), (185, .bipush 110), (187, .invokestatic 49), (190, .aload_n 1), (191, .iload_n 2), (192, .iconst 3), (193, .iadd), (194, .bipush 60), (196, .bipush 110), (198, .invokestatic 49), (201, .invokevirtual 140), (204, .pop), (205, .goto 63), (208, .aload_n 0), (209, .iconst 0), (210, .aload_n 1), (211, .iload_n 2), (212, .iconst 2), (213, .iadd), (214, .bipush (-9)), (216, .bipush 9), (218, .invokestatic 49), (221, .aload_n 1), (222, .iload_n 2), (223, .iconst 3), (224, .iadd), (225, .bipush (-9)), (227, .bipush 9), (229, .invokestatic 49), (232, .invokevirtual 149), (235, .pop)]
def am_c363_3 : List (Nat × Instr) := [(236, .goto 32), (239, .aload_n 0), (240, .iload 4), (242, .iconst 0), (243, .invokevirtual 101), (246, .ifCond .ne 22), (249, .aload_n 1), (250, .iload_n 2), (251, .iconst 2), (252, .iadd), (253, .iconst 0), (254, .iconst 3), (255, .invokestatic 49), (258, .ifCond .ne 10), (261, .aload_n 0), (262, .iload 4), (264, .invokevirtual 152), (267, .pop), (268, .return_)]
def am_c363 : List (Nat × Instr) := (am_c363_0 ++ (am_c363_1 ++ (am_c363_2 ++ am_c363_3)))
def am_c364_0 : List (Nat × Instr) := [(0, .new 26), (3, .dup), (4, .invokespecial 155), (7, .astore_n 1), (8, .aload_n 0), (9, .iconst 0), (10, .iconst 2), (11, .bipush 9), (13, .invokestatic 49), (16, .istore_n 2), (17, .aload_n 1), (18, .aload_n 0), (19, .iload_n 2), (20, .invokestatic 156), (23, .invokestatic 160), (26, .iload_n 2), (27, .if_icmp .ne 20), (30, .aload_n 1), (31, .iconst 4), (32, .invokevirtual 91), (35, .iload_n 2), (36, .if_icmp .ne 11), (39, .aload_n 1), (40, .iconst 1), (41, .invokestatic 164), (44, .ifCond .ne 5), (47, .iconst 0), (48, .ireturn), (49, .iconst 0), (50, .istore_n 3), (51, .iload_n 3), (52, .iload_n 2), (53, .if_icmp .ge 44), (56, .aload_n 0), (57, .bipush 75), (59, .iload_n 3), (60, .iadd), (61, .iconst 0), (62, .iconst 3), (63, .invokestatic 49)]
def am_c364_1 : List (Nat × Instr) := [(66, .ifCond .le 25), (69, .aload_n 1), (70, .iload_n 3), (71, .invokevirtual 137), (74, .bipush 20), (76, .aload_n 1), (77, .iload_n 3), (78, .bipush 6), (80, .invokevirtual 101), (83, .invokestatic 168), (86, .if_icmp .eq 5), (89, .iconst 0), (90, .ireturn), (91, .iinc 3 1), (94, .goto (-43)), (97, .aload_n 0), (98, .bipush 85), (100, .iconst 2), (101, .bipush 14), (103, .invokestatic 49), (106, .istore_n 3), (107, .iconst 0), (108, .istore 4), (110, .iload 4), (112, .iload_n 3), (113, .if_icmp .ge 189), (116, .aload_n 1), (117, .aload_n 0), (118, .bipush 90), (120, .iconst 5), (121, .iload 4), (123, .imul), (124, .iadd), (125, .iload_n 2), (126, .invokestatic 171), (129, .aload_n 1), (130, .iconst 0), (131, .invokestatic 164), (134, .ifCond .ne 5), (137, .iconst 0)]
def am_c364_2 : List (Nat × Instr) := [(138, .ireturn), (139, .aload_n 0), (140, .bipush 94), (142, .iconst 5), (143, .iload 4), (145, .imul), (146, .iadd), (147, .iconst 1), (148, .bipush 6), (150, .invokestatic 49), (153, .istore 5), (155, .aload_n 0), (156, .bipush 92), (158, .iconst 5), (159, .iload 4), (161, .imul), (162, .iadd), (163, .iconst 0), (164, .iload_n 2), (165, .iconst 1), (166, .isub), (167, .invokestatic 49), (170, .istore 6), (172, .aload_n 1), (173, .iload 6), (175, .iconst 3), (176, .iload 5), (178, .invokevirtual 175), (181, .istore 7), (183, .aload_n 1), (184, .iload 5), (186, .invokevirtual 178), (189, .istore 8), (191, .aload_n 1), (192, .iload 6), (194, .iload 5), (196, .invokevirtual 181), (199, .istore 9), (201, .aload_n 1), (202, .bipush 9)]
def am_c364_3 : List (Nat × Instr) := [(204, .invokevirtual 91), (207, .istore 10), (209, .aload_n 1), (210, .iload 5), (212, .invokevirtual 184), (215, .iload 8), (217, .if_icmp .ne 77), (220, .aload_n 1), (221, .bipush 9), (223, .invokevirtual 91), (226, .iload 10), (228, .iload 8), (230, .iadd), (231, .if_icmp .ne 63), (234, .aload_n 1), (235, .iload 6), (237, .iconst 3), (238, .invokevirtual 101), (241, .iload 7), (243, .if_icmp .ne 51), (246, .iload 9), (248, .iconst (-1)), (249, .if_icmp .ne 7), (252, .iconst 1), (253, .goto 4), (256, .iconst 0), (257, .aload_n 1), (258, .iload 6), (260, .iconst 0), (261, .invokevirtual 101), (264, .ifCond .eq 14), (267, .aload_n 1), (268, .iload 6), (270, .iconst 0), (271, .invokevirtual 101), (274, .iconst 2), (275, .if_icmp .ne 7), (278, .iconst 1), (279, .goto 4), (282, .iconst 0)]
def am_c364_4 : List (Nat × Instr) := [(283, .if_icmp .ne 11), (286, .aload_n 1), (287, .iconst 1), (288, .invokestatic 164), (291, .ifCond .ne 5), (294, .iconst 0), (295, .ireturn), (296, .iinc 4 1), (299, .goto (-189)), (302, .aload_n 1), (303, .iconst 2), (304, .invokevirtual 91), (307, .istore 4), (309, .aload_n 1), (310, .bipush 12), (312, .invokevirtual 91), (315, .istore 5), (317, .aload_n 1), (318, .bipush 11), (320, .invokevirtual 131), (323, .istore 6), (325, .aload_n 1), (326, .invokevirtual 187), (329, .istore 7), (331, .aload_n 1), (332, .iconst 0), (333, .bipush 10), (335, .bipush 20), (337, .invokevirtual 175), (340, .istore 8), (342, .aload_n 1), (343, .iconst 0), (344, .bipush 10), (346, .invokevirtual 190), (349, .istore 9), (351, .aload_n 1), (352, .bipush 20), (354, .invokevirtual 184), (357, .ifCond .lt 43), (360, .aload_n 1)]
def am_c364_5 : List (Nat × Instr) := [(361, .iconst 0), (362, .bipush 10), (364, .invokevirtual 101), (367, .iload 8), (369, .if_icmp .ne 31), (372, .aload_n 1), (373, .invokevirtual 193), (376, .ifCond .lt 24), (379, .aload_n 1), (380, .iconst 2), (381, .invokevirtual 91), (384, .iload 4), (386, .if_icmp .ne 14), (389, .aload_n 1), (390, .bipush 11), (392, .invokevirtual 131), (395, .iload 6), (397, .if_icmp .eq 5), (400, .iconst 0), (401, .ireturn), (402, .aload_n 1), (403, .iconst 0), (404, .iload 9), (406, .invokevirtual 143), (409, .bipush (-9)), (411, .if_icmp .ge 5), (414, .iconst 0), (415, .ireturn), (416, .aload_n 1), (417, .iconst 0), (418, .iconst 3), (419, .bipush 10), (421, .invokevirtual 175), (424, .istore 10), (426, .bipush (-9)), (428, .istore 11), (430, .iload 11), (432, .bipush 9), (434, .if_icmp .gt 36), (437, .aload_n 1)]
def am_c364_6 : List (Nat × Instr) := [(438, .iconst 0), (439, .iload 11), (441, .invokevirtual 143), (444, .bipush (-9)), (446, .if_icmp .lt 16), (449, .aload_n 1), (450, .iconst 0), (451, .iconst 3), (452, .bipush 10), (454, .invokevirtual 175), (457, .iload 10), (459, .if_icmp .le 5), (462, .iconst 0), (463, .ireturn), (464, .iinc 11 3), (467, .goto (-37)), (470, .iload 5), (472, .bipush 10), (474, .if_icmp .gt 54), (477, .iload 7), (479, .iload 4), (481, .if_icmp .ne 47), (484, .aload_n 1), (485, .invokevirtual 196), (488, .iload 4), (490, .if_icmp .ne 38), (493, .aload_n 1), (494, .bipush 12), (496, .invokevirtual 91), (499, .ifCond .ne 29), (502, .aload_n 1), (503, .iconst 1), (504, .invokestatic 164), (507, .ifCond .eq 21), (510, .aload_n 1), (511, .iconst 0), (512, .bipush 10), (514, .bipush 20), (516, .invokevirtual 175), (519, .iload 8)]
def am_c364_7 : List (Nat × Instr) := [(521, .if_icmp .ne 7), (524, .iconst 1), (525, .goto 4), (528, .iconst 0), (529, .ireturn)]
def am_c364 : List (Nat × Instr) := (am_c364_0 ++ (am_c364_1 ++ (am_c364_2 ++ (am_c364_3 ++ (am_c364_4 ++ (am_c364_5 ++ (am_c364_6 ++ am_c364_7)))))))
def am_pg : List (ByteArray × List (Nat × Instr)) := [(cX0_init, am_c0), (cX0_isBetween, am_c1), (cX0_heightOfLine, am_c2), (cX0_heightsApart, am_c3), (cX1_init, am_c4), (cX1_copyFrom, am_c5), (cX0_init, am_c0), (cX2_init, am_c7), (cX2_clear, am_c8), (cX2_addDefaultWind, am_c9), (cX2_copyFrom, am_c10), (cX2_kitesInState, am_c11), (cX2_windNumberAt, am_c12), (cX2_linesCross, am_c13), (cX2_linesRub, am_c14), (cX2_pairs, am_c15), (cX2_pickerAt, am_c16), (cX2_eventAt, am_c17), (cX2_tellOfKite, am_c18), (cX2_tell, am_c19), (cX2_passTicks, am_c20), (cX2_tick, am_c21), (cX2_fly, am_c22), (cX2_rubAllLines, am_c23), (cX2_wearLine, am_c24), (cX2_cutWornLines, am_c25), (cX2_drift, am_c26), (cX2_pickUpFallenKites, am_c27), (cX3_init, am_c28), (cX3_clear, am_c29), (cX3_remember, am_c30), (cX3_takeBack, am_c31), (cX4_init, am_c32), (cX4_addFour, am_c33), (cX5_init, am_c34), (cX5_copyFrom, am_c35), (cX5_startAt, am_c36), (cX0_init, am_c0), (cX5_goDownAtFlyer, am_c38), (cX5_number, am_c39), (cX0_init, am_c0), (cX5_distanceTo, am_c41), (cX5_spanNow, am_c42), (cX5_slackNow, am_c43), (cX5_wearBrought, am_c44), (cX5_blow, am_c45), (cX5_pullIn, am_c46), (cX6_init, am_c47), (cX6_clear, am_c48), (cX6_copyFrom, am_c49), (cX6_addWord, am_c50), (cX6_numberOf, am_c51), (cX6_isSame, am_c52), (cX7_init, am_c53), (cX0_init, am_c0), (cX0_init, am_c0), (cX0_init, am_c0), (cX0_init, am_c0), (cX0_init, am_c0), (cX0_init, am_c0), (cX8_init, am_c60), (cX8_readText, am_c61), (cX8_readStatement, am_c62), (cX8_readKite, am_c63), (cX8_readName, am_c64), (cX8_readOption, am_c65), (cX8_readWind, am_c66), (cX8_readSpeed, am_c67), (cX8_readSetting, am_c68), (cX8_readNumber, am_c69), (cX8_readSemicolon, am_c70), (cX8_fail, am_c71), (cX8_quotedWord, am_c72), (cX8_quoted, am_c73), (cX9_init, am_c74), (cX9_readFirst, am_c75), (cX9_readNext, am_c76), (cX9_kindOf, am_c77), (cX9_isNumber, am_c78), (cX9_value, am_c79), (cX9_isWord, am_c80), (cX10_init, am_c81), (cX10_copyFrom, am_c82), (cX10_become, am_c83), (cX10_force, am_c84), (cX0_init, am_c0), (cX11_init, am_c86), (cX11_feed, am_c87), (cX11_truncate, am_c88), (cX11_parse, am_c89), (cX0_init, am_c0), (cX0_init, am_c0), (cX11_count, am_c92), (cX11_setting, am_c93), (cX0_init, am_c0), (cX11_kite, am_c95), (cX0_init, am_c0), (cX0_init, am_c0), (cX11_span, am_c98), (cX11_slack, am_c99), (cX11_crosses, am_c100), (cX11_crossing, am_c101), (cX11_rubs, am_c102), (cX11_wearNow, am_c103), (cX0_init, am_c0), (cX11_highest, am_c105), (cX0_init, am_c0), (cX0_init, am_c0), (cX0_init, am_c0), (cX11_gap, am_c109), (cX0_init, am_c0), (cX0_init, am_c0), (cX11_threat, am_c112), (cX11_sum, am_c113), (cX0_init, am_c0), (cX11_inBox, am_c115), (cX0_init, am_c0), (cX0_init, am_c0), (cX0_init, am_c0), (cX11_kiteIn, am_c119), (cX0_init, am_c0), (cX0_init, am_c0), (cX11_cutsIn, am_c122), (cX11_landsIn, am_c123), (cX0_init, am_c0), (cX0_init, am_c0), (cX11_bestReel, am_c126), (cX0_init, am_c0), (cX11_run, am_c128), (cX11_launch, am_c129), (cX11_reel, am_c130), (cX11_letGo, am_c131), (cX11_pull, am_c132), (cX11_walk, am_c133), (cX0_init, am_c0), (cX11_setWind, am_c135), (cX0_init, am_c0), (cX11_undo, am_c137), (cX0_init, am_c0), (cX0_init, am_c0), (cX0_init, am_c0), (cX0_init, am_c0), (cX11_saveState, am_c142), (cX11_restoreState, am_c143), (cX11_checkKite, am_c144), (cX11_checkWind, am_c145), (cX11_checkRange, am_c146), (cX11_checkState, am_c147), (cX11_reelFor, am_c148), (cX0_init, am_c0), (cX0_init, am_c0), (cX11_isIn, am_c151), (cX11_bounded, am_c152), (cX0_init, am_c0), (cX0_init, am_c0), (cX0_init, am_c0), (cX0_init, am_c0), (cX0_init, am_c0), (cX0_init, am_c0), (cX0_init, am_c0), (cX0_init, am_c0), (cX0_init, am_c0), (cX0_init, am_c0), (cX0_init, am_c0), (cX0_init, am_c0), (cX0_init, am_c0), (cX0_init, am_c0), (cX0_init, am_c0), (cX0_init, am_c0), (cX0_init, am_c0), (cX0_init, am_c0), (cX0_init, am_c0), (cX0_init, am_c0), (cX0_init, am_c0), (cX0_init, am_c0), (cX0_init, am_c0), (cX0_init, am_c0), (cX0_init, am_c0), (cX0_init, am_c0), (cX0_init, am_c0), (cX0_init, am_c0), (cX0_init, am_c0), (cX0_init, am_c0), (cX0_init, am_c0), (cX0_init, am_c0), (cX0_init, am_c0), (cX0_init, am_c0), (cX0_init, am_c0), (cX0_init, am_c0), (cX0_init, am_c0), (cX0_init, am_c0), (cX0_init, am_c0), (cX0_init, am_c0), (cX0_init, am_c0), (cX0_init, am_c0), (cX0_init, am_c0), (cX0_init, am_c0), (cX0_init, am_c0), (cX0_init, am_c0), (cX0_init, am_c0), (cX0_init, am_c0), (cX0_init, am_c0), (cX0_init, am_c0), (cX0_init, am_c0), (cX0_init, am_c0), (cX0_init, am_c0), (cX0_init, am_c0), (cX0_init, am_c0), (cX0_init, am_c0), (cX0_init, am_c0), (cX0_init, am_c0), (cX0_init, am_c0), (cX0_init, am_c0), (cX0_init, am_c0), (cX0_init, am_c0), (cX0_init, am_c0), (cX0_init, am_c0), (cX0_init, am_c0), (cX0_init, am_c0), (cX0_init, am_c0), (cX0_init, am_c0), (cX0_init, am_c0), (cX0_init, am_c0), (cX0_init, am_c0), (cX0_init, am_c0), (cX0_init, am_c0), (cX0_init, am_c0), (cX0_init, am_c0), (cX0_init, am_c0), (cX0_init, am_c0), (cX0_init, am_c0), (cX0_init, am_c0), (cX0_init, am_c0), (cX0_init, am_c0), (cX0_init, am_c0), (cX0_init, am_c0), (cX0_init, am_c0), (cX0_init, am_c0), (cX0_init, am_c0), (cX0_init, am_c0), (cX0_init, am_c0), (cX0_init, am_c0), (cX0_init, am_c0), (cX0_init, am_c0), (cX0_init, am_c0), (cX0_init, am_c0), (cX0_init, am_c0), (cX0_init, am_c0), (cX0_init, am_c0), (cX0_init, am_c0), (cX0_init, am_c0), (cX0_init, am_c0), (cX0_init, am_c0), (cX0_init, am_c0), (cX0_init, am_c0), (cX0_init, am_c0), (cX0_init, am_c0), (cX0_init, am_c0), (cX0_init, am_c0), (cX0_init, am_c0), (cX0_init, am_c0), (cX0_init, am_c0), (cX0_init, am_c0), (cX0_init, am_c0), (cX0_init, am_c0), (cX0_init, am_c0), (cX0_init, am_c0), (cX0_init, am_c0), (cX0_init, am_c0), (cX0_init, am_c0), (cX0_init, am_c0), (cX0_init, am_c0), (cX0_init, am_c0), (cX0_init, am_c0), (cX0_init, am_c0), (cX0_init, am_c0), (cX0_init, am_c0), (cX0_init, am_c0), (cX0_init, am_c0), (cX0_init, am_c0), (cX0_init, am_c0), (cX0_init, am_c0), (cX0_init, am_c0), (cX0_init, am_c0), (cX0_init, am_c0), (cX0_init, am_c0), (cX0_init, am_c0), (cX0_init, am_c0), (cX0_init, am_c0), (cX0_init, am_c0), (cX0_init, am_c0), (cX0_init, am_c0), (cX0_init, am_c0), (cX0_init, am_c0), (cX0_init, am_c0), (cX0_init, am_c0), (cX0_init, am_c0), (cX0_init, am_c0), (cX0_init, am_c0), (cX0_init, am_c0), (cX0_init, am_c0), (cX0_init, am_c0), (cX0_init, am_c0), (cX0_init, am_c0), (cX0_init, am_c0), (cX0_init, am_c0), (cX0_init, am_c0), (cX0_init, am_c0), (cX0_init, am_c0), (cX0_init, am_c0), (cX0_init, am_c0), (cX0_init, am_c0), (cX0_init, am_c0), (cJ9_floorDiv_7cf53, am_c313), (cJ9_abs_0f7a4, am_c314), (cJ9_max_7cf53, am_c315), (cJ9_min_7cf53, am_c316), (cJ0_length_8abf5, am_c317), (cJ0_charAt_5068e, am_c318), (cJ0_coder_7d493, am_c319), (cJ0_isLatin1_aae02, am_c320), (cJ0_checkIndex_df160, am_c321), (cJ1_charAt_3b067, am_c322), (cJ3_checkIndex_8e157, am_c323), (cJ1_canEncode_fc78d, am_c324), (cJ8_newLength_cabcc, am_c325), (cJ7_copyOf_9075b, am_c326), (cJ7_checkLength_df160, am_c327), (cJ7_copyOfRangeByte_39247, am_c328), (cJ7_copyOfRange_39247, am_c329), (cJ6_stringSize_0f7a4, am_c330), (cJ6_getChars_ba4f3, am_c331), (cJ5_isLatin1_aae02, am_c332), (cJ5_getValue_6d5f1, am_c333), (cJ5_length_8abf5, am_c334), (cJ5_newCapacity_0f7a4, am_c335), (cJ5_ensureCapacityInternal_d00df, am_c336), (cJ0_getBytes_840e7, am_c337), (cJ5_inflateIfNeededFor_a7421, am_c338), (cJ5_putStringAt_47b60, am_c339), (cJ5_append_cf1ce, am_c340), (cJ5_append_3fe6f, am_c341), (cJ5_append_c97b9, am_c342), (cJ4_append_15ec4, am_c343), (cJ4_append_cf468, am_c344), (cJ4_append_bf812, am_c345), (cJ4_append_cf1ce, am_c346), (cJ4_length_8abf5, am_c347), (cJ5_init_a7421, am_c348), (cJ4_init_a7421, am_c349), (cJ0_init_db425, am_c350), (cJ0_init_81219, am_c351), (cJ4_toString_0e30d, am_c352), (cX0_init, am_c0), (cX0_init, am_c0), (cX0_init, am_c0), (cX0_init, am_c0), (cL_cell, am_c357), (cL_draw, am_c358), (cL_fed, am_c359), (cL_parsed, am_c360), (cL_setup, am_c361), (cL_isSound, am_c362), (cL_acts, am_c363), (cL_law, am_c364)]
def am_B (k : Nat) : ByteArray := (am_pg.getD k (cL_law, [])).1
def am_cs (k : Nat) : List (Nat × Instr) := (am_pg.getD k (cL_law, [])).2
def am_A (k pc : Nat) : Option Instr := ((am_cs k).find? (fun q => q.1 == pc)).map (·.2)
/-- pool index, callee, kind (0 virtual, 1 static, 2 constructor, 3 the same by a nest mate, 4 static by a nest mate, 5 that of Object, 6 inherited, 7 that of the superclass, 8 overriding, 9 arraycopy, 10 clone), places of the words -/
def am_ks : List (List (Nat × Nat × Nat × Nat × Nat × Nat × Nat)) := [
  [(1, 0, 5, 119, 64, 65, 0)],
  [(22, 313, 1, 491, 492, 46, 0), (35, 43, 0, 494, 495, 496, 35), (39, 2, 1, 502, 503, 34, 0)],
  [(48, 315, 1, 505, 485, 46, 0)],
  [(51, 314, 1, 510, 511, 46, 0)],
  [(1, 0, 5, 248, 64, 65, 0)],
  [],
  [(1, 0, 5, 119, 64, 65, 0)],
  [(3, 0, 5, 107, 64, 65, 0), (35, 0, 3, 116, 117, 34, 0), (40, 34, 3, 141, 142, 35, 0), (41, 81, 3, 224, 225, 36, 0), (42, 4, 3, 245, 246, 37, 0), (43, 8, 0, 274, 275, 276, 33), (46, 9, 0, 280, 281, 282, 33)],
  [],
  [(71, 83, 0, 284, 285, 286, 36)],
  [(75, 35, 0, 626, 627, 628, 35), (79, 82, 0, 630, 631, 632, 36), (82, 5, 0, 635, 636, 637, 37)],
  [],
  [],
  [(91, 316, 1, 481, 482, 46, 0), (97, 315, 1, 484, 485, 46, 0), (100, 1, 0, 487, 488, 489, 34)],
  [(104, 13, 0, 477, 478, 479, 33), (108, 3, 0, 506, 507, 508, 34)],
  [(112, 14, 0, 473, 474, 475, 33), (104, 13, 0, 477, 478, 479, 33)],
  [(118, 314, 1, 717, 511, 46, 0)],
  [],
  [(131, 19, 0, 681, 683, 7, 33)],
  [(135, 17, 0, 685, 686, 687, 33)],
  [(151, 21, 0, 643, 644, 645, 33)],
  [(154, 22, 0, 647, 649, 6, 33), (158, 23, 0, 689, 691, 8, 33), (161, 25, 0, 701, 703, 10, 33), (164, 26, 0, 705, 707, 11, 33), (167, 27, 0, 709, 711, 12, 33)],
  [(173, 12, 0, 651, 652, 653, 33), (182, 152, 4, 655, 656, 29, 0), (186, 45, 0, 660, 661, 662, 35), (189, 43, 0, 665, 495, 496, 35), (192, 84, 0, 666, 667, 668, 36), (91, 316, 1, 481, 482, 46, 0), (97, 315, 1, 484, 485, 46, 0), (195, 46, 0, 672, 673, 674, 35), (198, 18, 0, 677, 678, 679, 33)],
  [(100, 1, 0, 487, 488, 489, 34), (108, 3, 0, 506, 507, 508, 34), (207, 24, 0, 693, 695, 9, 33)],
  [(211, 44, 0, 697, 698, 699, 35)],
  [(91, 316, 1, 481, 482, 46, 0), (97, 315, 1, 484, 485, 46, 0), (100, 1, 0, 487, 488, 489, 34), (131, 19, 0, 681, 683, 7, 33)],
  [(173, 12, 0, 651, 652, 653, 33), (186, 45, 0, 660, 661, 662, 35), (97, 315, 1, 484, 485, 46, 0), (198, 18, 0, 677, 678, 679, 33)],
  [(228, 16, 0, 713, 714, 715, 33), (198, 18, 0, 677, 678, 679, 33)],
  [(3, 0, 5, 412, 64, 65, 0), (17, 7, 2, 415, 105, 33, 0)],
  [],
  [(25, 10, 0, 762, 623, 624, 33)],
  [(25, 10, 0, 762, 623, 624, 33)],
  [(3, 0, 5, 71, 64, 65, 0)],
  [],
  [(3, 0, 5, 144, 64, 65, 0)],
  [],
  [(54, 38, 0, 960, 962, 21, 35)],
  [(1, 0, 5, 119, 64, 65, 0)],
  [],
  [],
  [(1, 0, 5, 119, 64, 65, 0)],
  [],
  [(57, 41, 0, 498, 499, 500, 35)],
  [(57, 41, 0, 498, 499, 500, 35)],
  [(61, 314, 1, 676, 511, 46, 0)],
  [(70, 152, 4, 664, 656, 29, 0)],
  [(61, 314, 1, 676, 511, 46, 0)],
  [(3, 0, 5, 341, 64, 65, 0)],
  [],
  [],
  [],
  [(24, 52, 0, 935, 937, 19, 38)],
  [],
  [(1, 0, 5, 89, 64, 65, 0)],
  [(1, 0, 5, 119, 64, 65, 0)],
  [(1, 0, 5, 119, 64, 65, 0)],
  [(1, 0, 5, 119, 64, 65, 0)],
  [(1, 0, 5, 119, 64, 65, 0)],
  [(1, 0, 5, 119, 64, 65, 0)],
  [(1, 0, 5, 119, 64, 65, 0)],
  [(3, 0, 5, 101, 64, 65, 0), (11, 7, 2, 104, 105, 33, 0), (20, 47, 3, 338, 339, 38, 0), (31, 74, 2, 356, 357, 39, 0)],
  [(41, 8, 0, 874, 275, 276, 33), (44, 48, 0, 875, 876, 877, 38), (48, 75, 0, 879, 880, 881, 39), (54, 72, 0, 890, 892, 14, 32), (58, 62, 0, 914, 916, 15, 32), (62, 70, 0, 985, 987, 26, 32), (69, 9, 0, 989, 281, 282, 33)],
  [(72, 63, 0, 918, 920, 16, 32), (75, 66, 0, 968, 970, 23, 32), (78, 151, 4, 955, 522, 29, 0), (82, 68, 0, 977, 979, 25, 32), (85, 71, 0, 922, 924, 17, 32)],
  [(85, 71, 0, 922, 924, 17, 32), (91, 76, 0, 926, 884, 885, 39), (94, 64, 0, 927, 929, 18, 32), (97, 69, 0, 943, 945, 20, 32), (108, 36, 0, 956, 957, 958, 35), (117, 65, 0, 964, 966, 22, 32)],
  [(54, 72, 0, 890, 892, 14, 32), (85, 71, 0, 922, 924, 17, 32), (143, 51, 0, 931, 932, 933, 38), (147, 50, 0, 939, 940, 941, 38), (91, 76, 0, 926, 884, 885, 39)],
  [(151, 73, 1, 894, 895, 32, 0), (155, 80, 0, 908, 909, 910, 39), (91, 76, 0, 926, 884, 885, 39), (97, 69, 0, 943, 945, 20, 32)],
  [(85, 71, 0, 922, 924, 17, 32), (91, 76, 0, 926, 884, 885, 39), (97, 69, 0, 943, 945, 20, 32), (168, 67, 0, 972, 974, 24, 32), (171, 83, 0, 976, 285, 286, 36)],
  [(91, 76, 0, 926, 884, 885, 39), (97, 69, 0, 943, 945, 20, 32)],
  [(85, 71, 0, 922, 924, 17, 32), (91, 76, 0, 926, 884, 885, 39), (97, 69, 0, 943, 945, 20, 32)],
  [(185, 78, 0, 947, 948, 949, 39), (85, 71, 0, 922, 924, 17, 32), (188, 79, 0, 951, 952, 953, 39), (78, 151, 4, 955, 522, 29, 0), (91, 76, 0, 926, 884, 885, 39)],
  [(85, 71, 0, 922, 924, 17, 32), (91, 76, 0, 926, 884, 885, 39)],
  [],
  [(151, 73, 1, 894, 895, 32, 0), (155, 80, 0, 908, 909, 910, 39)],
  [],
  [(1, 0, 5, 359, 64, 65, 0)],
  [(20, 76, 0, 883, 884, 885, 39)],
  [(30, 77, 1, 887, 888, 39, 0)],
  [],
  [],
  [],
  [(37, 317, 0, 912, 807, 808, 43), (42, 318, 0, 913, 817, 818, 43)],
  [(1, 0, 5, 227, 64, 65, 0)],
  [(19, 83, 0, 634, 285, 286, 36)],
  [],
  [(23, 314, 1, 670, 511, 46, 0), (29, 315, 1, 671, 485, 46, 0)],
  [(1, 0, 5, 119, 64, 65, 0)],
  [(1, 0, 5, 63, 64, 65, 0), (9, 32, 3, 68, 69, 30, 0), (18, 53, 3, 86, 87, 31, 0), (25, 60, 2, 98, 99, 32, 0), (34, 47, 3, 404, 339, 38, 0), (41, 7, 2, 406, 105, 33, 0), (54, 28, 2, 409, 410, 40, 0)],
  [(66, 33, 0, 858, 859, 860, 30)],
  [],
  [(70, 61, 0, 870, 871, 872, 32), (84, 10, 0, 622, 623, 624, 33), (89, 49, 0, 990, 991, 992, 38), (92, 29, 0, 788, 789, 790, 40)],
  [(1, 0, 5, 119, 64, 65, 0)],
  [(1, 0, 5, 119, 64, 65, 0)],
  [(102, 11, 0, 465, 466, 467, 33), (118, 15, 0, 469, 470, 471, 33)],
  [(125, 151, 1, 521, 522, 29, 0)],
  [(1, 0, 5, 119, 64, 65, 0)],
  [(141, 144, 0, 517, 519, 4, 29), (144, 146, 1, 591, 592, 29, 0), (152, 39, 0, 610, 611, 612, 35)],
  [(1, 0, 5, 119, 64, 65, 0)],
  [(1, 0, 5, 119, 64, 65, 0)],
  [(141, 144, 0, 517, 519, 4, 29), (173, 42, 0, 1277, 1278, 1279, 35)],
  [(141, 144, 0, 517, 519, 4, 29), (177, 147, 1, 739, 740, 29, 0), (181, 43, 0, 1289, 495, 496, 35)],
  [(141, 144, 0, 517, 519, 4, 29), (184, 13, 0, 1244, 478, 479, 33)],
  [(141, 144, 0, 517, 519, 4, 29), (144, 146, 1, 591, 592, 29, 0), (184, 13, 0, 1244, 478, 479, 33), (206, 3, 0, 1254, 507, 508, 34)],
  [(141, 144, 0, 517, 519, 4, 29), (209, 14, 0, 1249, 474, 475, 33)],
  [(141, 144, 0, 517, 519, 4, 29), (209, 14, 0, 1249, 474, 475, 33), (212, 44, 0, 1268, 698, 699, 35)],
  [(1, 0, 5, 119, 64, 65, 0)],
  [],
  [(1, 0, 5, 119, 64, 65, 0)],
  [(1, 0, 5, 119, 64, 65, 0)],
  [(1, 0, 5, 119, 64, 65, 0)],
  [(141, 144, 0, 517, 519, 4, 29), (241, 41, 0, 1259, 499, 500, 35), (244, 316, 1, 658, 482, 46, 0)],
  [(1, 0, 5, 119, 64, 65, 0)],
  [(1, 0, 5, 119, 64, 65, 0)],
  [(141, 144, 0, 517, 519, 4, 29), (209, 14, 0, 1249, 474, 475, 33), (212, 44, 0, 1268, 698, 699, 35)],
  [(144, 146, 1, 591, 592, 29, 0), (152, 39, 0, 610, 611, 612, 35)],
  [(1, 0, 5, 119, 64, 65, 0)],
  [(144, 146, 1, 591, 592, 29, 0), (125, 151, 1, 521, 522, 29, 0)],
  [(1, 0, 5, 119, 64, 65, 0)],
  [(1, 0, 5, 119, 64, 65, 0)],
  [(1, 0, 5, 119, 64, 65, 0)],
  [(141, 144, 0, 517, 519, 4, 29), (144, 146, 1, 591, 592, 29, 0), (84, 10, 0, 622, 623, 624, 33), (267, 20, 0, 639, 640, 641, 33), (152, 39, 0, 610, 611, 612, 35)],
  [(1, 0, 5, 119, 64, 65, 0)],
  [(1, 0, 5, 119, 64, 65, 0)],
  [(144, 146, 1, 591, 592, 29, 0), (84, 10, 0, 622, 623, 624, 33), (267, 20, 0, 639, 640, 641, 33)],
  [(141, 144, 0, 517, 519, 4, 29), (144, 146, 1, 591, 592, 29, 0), (84, 10, 0, 622, 623, 624, 33), (267, 20, 0, 639, 640, 641, 33)],
  [(1, 0, 5, 119, 64, 65, 0)],
  [(1, 0, 5, 119, 64, 65, 0)],
  [(141, 144, 0, 517, 519, 4, 29), (144, 146, 1, 591, 592, 29, 0), (276, 148, 0, 730, 732, 13, 29)],
  [(1, 0, 5, 119, 64, 65, 0)],
  [(144, 146, 1, 591, 592, 29, 0), (177, 147, 1, 739, 740, 29, 0), (280, 30, 0, 758, 759, 760, 40), (267, 20, 0, 639, 640, 641, 33)],
  [(141, 144, 0, 517, 519, 4, 29), (177, 147, 1, 739, 740, 29, 0), (280, 30, 0, 758, 759, 760, 40), (244, 316, 1, 658, 482, 46, 0), (286, 18, 0, 767, 678, 679, 33)],
  [(141, 144, 0, 517, 519, 4, 29), (144, 146, 1, 591, 592, 29, 0), (280, 30, 0, 758, 759, 760, 40)],
  [(141, 144, 0, 517, 519, 4, 29), (177, 147, 1, 739, 740, 29, 0), (280, 30, 0, 758, 759, 760, 40)],
  [(141, 144, 0, 517, 519, 4, 29), (144, 146, 1, 591, 592, 29, 0), (177, 147, 1, 739, 740, 29, 0), (280, 30, 0, 758, 759, 760, 40)],
  [(141, 144, 0, 517, 519, 4, 29), (144, 146, 1, 591, 592, 29, 0), (280, 30, 0, 758, 759, 760, 40), (292, 314, 1, 1301, 511, 46, 0)],
  [(1, 0, 5, 119, 64, 65, 0)],
  [(157, 145, 0, 1310, 1312, 27, 29), (144, 146, 1, 591, 592, 29, 0), (280, 30, 0, 758, 759, 760, 40), (299, 84, 0, 1315, 667, 668, 36)],
  [(1, 0, 5, 119, 64, 65, 0)],
  [(177, 147, 1, 739, 740, 29, 0), (308, 31, 0, 776, 777, 778, 40)],
  [(1, 0, 5, 119, 64, 65, 0)],
  [(1, 0, 5, 119, 64, 65, 0)],
  [(1, 0, 5, 119, 64, 65, 0)],
  [(1, 0, 5, 119, 64, 65, 0)],
  [(84, 10, 0, 622, 623, 624, 33)],
  [(177, 147, 1, 739, 740, 29, 0), (84, 10, 0, 622, 623, 624, 33), (92, 29, 0, 788, 789, 790, 40)],
  [(125, 151, 1, 521, 522, 29, 0)],
  [(125, 151, 1, 521, 522, 29, 0)],
  [(125, 151, 1, 521, 522, 29, 0)],
  [],
  [(84, 10, 0, 622, 623, 624, 33), (270, 21, 0, 734, 644, 645, 33), (152, 39, 0, 610, 611, 612, 35)],
  [(1, 0, 5, 119, 64, 65, 0)],
  [(1, 0, 5, 119, 64, 65, 0)],
  [],
  [(244, 316, 1, 658, 482, 46, 0), (258, 315, 1, 659, 485, 46, 0)],
  [(1, 0, 5, 119, 64, 65, 0)],
  [(1, 0, 5, 119, 64, 65, 0)],
  [(1, 0, 5, 119, 64, 65, 0)],
  [(1, 0, 5, 119, 64, 65, 0)],
  [(1, 0, 5, 119, 64, 65, 0)],
  [(1, 0, 5, 119, 64, 65, 0)],
  [(1, 0, 5, 119, 64, 65, 0)],
  [(1, 0, 5, 119, 64, 65, 0)],
  [(1, 0, 5, 119, 64, 65, 0)],
  [(1, 0, 5, 119, 64, 65, 0)],
  [(1, 0, 5, 119, 64, 65, 0)],
  [(1, 0, 5, 119, 64, 65, 0)],
  [(1, 0, 5, 119, 64, 65, 0)],
  [(1, 0, 5, 119, 64, 65, 0)],
  [(1, 0, 5, 119, 64, 65, 0)],
  [(1, 0, 5, 119, 64, 65, 0)],
  [(1, 0, 5, 119, 64, 65, 0)],
  [(1, 0, 5, 119, 64, 65, 0)],
  [(1, 0, 5, 119, 64, 65, 0)],
  [(1, 0, 5, 119, 64, 65, 0)],
  [(1, 0, 5, 119, 64, 65, 0)],
  [(1, 0, 5, 119, 64, 65, 0)],
  [(1, 0, 5, 119, 64, 65, 0)],
  [(1, 0, 5, 119, 64, 65, 0)],
  [(1, 0, 5, 119, 64, 65, 0)],
  [(1, 0, 5, 119, 64, 65, 0)],
  [(1, 0, 5, 119, 64, 65, 0)],
  [(1, 0, 5, 119, 64, 65, 0)],
  [(1, 0, 5, 119, 64, 65, 0)],
  [(1, 0, 5, 119, 64, 65, 0)],
  [(1, 0, 5, 119, 64, 65, 0)],
  [(1, 0, 5, 119, 64, 65, 0)],
  [(1, 0, 5, 119, 64, 65, 0)],
  [(1, 0, 5, 119, 64, 65, 0)],
  [(1, 0, 5, 119, 64, 65, 0)],
  [(1, 0, 5, 119, 64, 65, 0)],
  [(1, 0, 5, 119, 64, 65, 0)],
  [(1, 0, 5, 119, 64, 65, 0)],
  [(1, 0, 5, 119, 64, 65, 0)],
  [(1, 0, 5, 119, 64, 65, 0)],
  [(1, 0, 5, 119, 64, 65, 0)],
  [(1, 0, 5, 119, 64, 65, 0)],
  [(1, 0, 5, 119, 64, 65, 0)],
  [(1, 0, 5, 119, 64, 65, 0)],
  [(1, 0, 5, 119, 64, 65, 0)],
  [(1, 0, 5, 119, 64, 65, 0)],
  [(1, 0, 5, 119, 64, 65, 0)],
  [(1, 0, 5, 119, 64, 65, 0)],
  [(1, 0, 5, 119, 64, 65, 0)],
  [(1, 0, 5, 119, 64, 65, 0)],
  [(1, 0, 5, 119, 64, 65, 0)],
  [(1, 0, 5, 119, 64, 65, 0)],
  [(1, 0, 5, 119, 64, 65, 0)],
  [(1, 0, 5, 119, 64, 65, 0)],
  [(1, 0, 5, 119, 64, 65, 0)],
  [(1, 0, 5, 119, 64, 65, 0)],
  [(1, 0, 5, 119, 64, 65, 0)],
  [(1, 0, 5, 119, 64, 65, 0)],
  [(1, 0, 5, 119, 64, 65, 0)],
  [(1, 0, 5, 119, 64, 65, 0)],
  [(1, 0, 5, 119, 64, 65, 0)],
  [(1, 0, 5, 119, 64, 65, 0)],
  [(1, 0, 5, 119, 64, 65, 0)],
  [(1, 0, 5, 119, 64, 65, 0)],
  [(1, 0, 5, 119, 64, 65, 0)],
  [(1, 0, 5, 119, 64, 65, 0)],
  [(1, 0, 5, 119, 64, 65, 0)],
  [(1, 0, 5, 119, 64, 65, 0)],
  [(1, 0, 5, 119, 64, 65, 0)],
  [(1, 0, 5, 119, 64, 65, 0)],
  [(1, 0, 5, 119, 64, 65, 0)],
  [(1, 0, 5, 119, 64, 65, 0)],
  [(1, 0, 5, 119, 64, 65, 0)],
  [(1, 0, 5, 119, 64, 65, 0)],
  [(1, 0, 5, 119, 64, 65, 0)],
  [(1, 0, 5, 119, 64, 65, 0)],
  [(1, 0, 5, 119, 64, 65, 0)],
  [(1, 0, 5, 119, 64, 65, 0)],
  [(1, 0, 5, 119, 64, 65, 0)],
  [(1, 0, 5, 119, 64, 65, 0)],
  [(1, 0, 5, 119, 64, 65, 0)],
  [(1, 0, 5, 119, 64, 65, 0)],
  [(1, 0, 5, 119, 64, 65, 0)],
  [(1, 0, 5, 119, 64, 65, 0)],
  [(1, 0, 5, 119, 64, 65, 0)],
  [(1, 0, 5, 119, 64, 65, 0)],
  [(1, 0, 5, 119, 64, 65, 0)],
  [(1, 0, 5, 119, 64, 65, 0)],
  [(1, 0, 5, 119, 64, 65, 0)],
  [(1, 0, 5, 119, 64, 65, 0)],
  [(1, 0, 5, 119, 64, 65, 0)],
  [(1, 0, 5, 119, 64, 65, 0)],
  [(1, 0, 5, 119, 64, 65, 0)],
  [(1, 0, 5, 119, 64, 65, 0)],
  [(1, 0, 5, 119, 64, 65, 0)],
  [(1, 0, 5, 119, 64, 65, 0)],
  [(1, 0, 5, 119, 64, 65, 0)],
  [(1, 0, 5, 119, 64, 65, 0)],
  [(1, 0, 5, 119, 64, 65, 0)],
  [(1, 0, 5, 119, 64, 65, 0)],
  [(1, 0, 5, 119, 64, 65, 0)],
  [(1, 0, 5, 119, 64, 65, 0)],
  [(1, 0, 5, 119, 64, 65, 0)],
  [(1, 0, 5, 119, 64, 65, 0)],
  [(1, 0, 5, 119, 64, 65, 0)],
  [(1, 0, 5, 119, 64, 65, 0)],
  [(1, 0, 5, 119, 64, 65, 0)],
  [(1, 0, 5, 119, 64, 65, 0)],
  [(1, 0, 5, 119, 64, 65, 0)],
  [(1, 0, 5, 119, 64, 65, 0)],
  [(1, 0, 5, 119, 64, 65, 0)],
  [(1, 0, 5, 119, 64, 65, 0)],
  [(1, 0, 5, 119, 64, 65, 0)],
  [(1, 0, 5, 119, 64, 65, 0)],
  [(1, 0, 5, 119, 64, 65, 0)],
  [(1, 0, 5, 119, 64, 65, 0)],
  [(1, 0, 5, 119, 64, 65, 0)],
  [(1, 0, 5, 119, 64, 65, 0)],
  [(1, 0, 5, 119, 64, 65, 0)],
  [(1, 0, 5, 119, 64, 65, 0)],
  [(1, 0, 5, 119, 64, 65, 0)],
  [(1, 0, 5, 119, 64, 65, 0)],
  [(1, 0, 5, 119, 64, 65, 0)],
  [(1, 0, 5, 119, 64, 65, 0)],
  [(1, 0, 5, 119, 64, 65, 0)],
  [(1, 0, 5, 119, 64, 65, 0)],
  [(1, 0, 5, 119, 64, 65, 0)],
  [(1, 0, 5, 119, 64, 65, 0)],
  [(1, 0, 5, 119, 64, 65, 0)],
  [(1, 0, 5, 119, 64, 65, 0)],
  [(1, 0, 5, 119, 64, 65, 0)],
  [(1, 0, 5, 119, 64, 65, 0)],
  [(1, 0, 5, 119, 64, 65, 0)],
  [(1, 0, 5, 119, 64, 65, 0)],
  [(1, 0, 5, 119, 64, 65, 0)],
  [(1, 0, 5, 119, 64, 65, 0)],
  [(1, 0, 5, 119, 64, 65, 0)],
  [(1, 0, 5, 119, 64, 65, 0)],
  [(1, 0, 5, 119, 64, 65, 0)],
  [(1, 0, 5, 119, 64, 65, 0)],
  [(1, 0, 5, 119, 64, 65, 0)],
  [(1, 0, 5, 119, 64, 65, 0)],
  [(1, 0, 5, 119, 64, 65, 0)],
  [(1, 0, 5, 119, 64, 65, 0)],
  [(1, 0, 5, 119, 64, 65, 0)],
  [(1, 0, 5, 119, 64, 65, 0)],
  [(1, 0, 5, 119, 64, 65, 0)],
  [(1, 0, 5, 119, 64, 65, 0)],
  [(1, 0, 5, 119, 64, 65, 0)],
  [(1, 0, 5, 119, 64, 65, 0)],
  [(1, 0, 5, 119, 64, 65, 0)],
  [(1, 0, 5, 119, 64, 65, 0)],
  [(1, 0, 5, 119, 64, 65, 0)],
  [(1, 0, 5, 119, 64, 65, 0)],
  [(1, 0, 5, 119, 64, 65, 0)],
  [(1, 0, 5, 119, 64, 65, 0)],
  [(1, 0, 5, 119, 64, 65, 0)],
  [(1, 0, 5, 119, 64, 65, 0)],
  [(1, 0, 5, 119, 64, 65, 0)],
  [(1, 0, 5, 119, 64, 65, 0)],
  [],
  [],
  [],
  [],
  [(335, 319, 0, 810, 811, 812, 43)],
  [(492, 320, 0, 820, 821, 822, 43), (495, 322, 1, 824, 825, 50, 0)],
  [],
  [],
  [(1059, 323, 1, 832, 833, 49, 0)],
  [(9, 321, 1, 827, 828, 43, 0)],
  [],
  [],
  [(194, 315, 1, 1046, 485, 46, 0)],
  [(310, 0, 10, 1054, 1057, 1055, 1056), (304, 316, 1, 1061, 482, 46, 0), (150, 0, 9, 1062, 1064, 1063, 48)],
  [],
  [(343, 327, 1, 1213, 1214, 47, 0), (304, 316, 1, 1061, 482, 46, 0), (150, 0, 9, 1062, 1064, 1063, 48)],
  [(339, 328, 1, 1210, 1211, 47, 0), (310, 0, 10, 1054, 1057, 1055, 1056)],
  [],
  [],
  [],
  [],
  [],
  [(114, 325, 1, 1043, 1044, 45, 0)],
  [(104, 335, 6, 1039, 1041, 1, 41), (108, 326, 1, 1051, 1052, 47, 0)],
  [(335, 319, 0, 810, 811, 812, 43), (212, 0, 9, 1117, 1064, 1063, 48)],
  [(40, 319, 0, 1010, 811, 812, 43)],
  [(397, 338, 6, 1090, 1092, 3, 41), (399, 337, 0, 1113, 1114, 1115, 43)],
  [(32, 317, 0, 1007, 807, 808, 43), (100, 336, 6, 1035, 1037, 0, 41), (208, 339, 6, 1086, 1088, 2, 41)],
  [(100, 336, 6, 1035, 1037, 0, 41), (83, 332, 6, 1065, 1066, 1068, 41), (191, 324, 1, 1166, 1167, 50, 0)],
  [(245, 330, 1, 1138, 1139, 51, 0), (100, 336, 6, 1035, 1037, 0, 41), (83, 332, 6, 1065, 1066, 1068, 41), (248, 331, 1, 1141, 1142, 51, 0)],
  [(29, 340, 7, 1028, 1019, 1029, 41)],
  [(50, 341, 7, 1163, 1164, 1029, 41)],
  [(53, 342, 7, 1135, 1136, 1029, 41)],
  [(23, 343, 0, 1024, 1025, 1026, 42)],
  [(343, 334, 7, 1204, 1199, 1029, 41)],
  [(3, 0, 5, 1006, 64, 65, 0), (32, 317, 0, 1007, 807, 808, 43), (40, 319, 0, 1010, 811, 812, 43), (43, 346, 8, 1018, 1022, 1021, 340)],
  [(7, 348, 2, 1003, 1004, 41, 0)],
  [(1, 0, 5, 1192, 64, 65, 0), (552, 333, 6, 1193, 1194, 1196, 41), (549, 347, 8, 1198, 1202, 1201, 334), (1047, 332, 6, 1206, 1066, 1068, 41), (54, 329, 1, 1207, 1208, 47, 0)],
  [(489, 350, 2, 1189, 1190, 43, 0)],
  [(137, 351, 2, 1186, 1187, 43, 0)],
  [(1, 0, 5, 119, 64, 65, 0)],
  [(1, 0, 5, 119, 64, 65, 0)],
  [(1, 0, 5, 119, 64, 65, 0)],
  [(1, 0, 5, 119, 64, 65, 0)],
  [],
  [(8, 357, 1, 795, 796, 28, 0)],
  [(15, 317, 0, 806, 807, 808, 43), (21, 318, 0, 816, 817, 818, 43), (25, 87, 0, 854, 855, 856, 29), (31, 88, 0, 862, 863, 864, 29)],
  [(35, 359, 1, 803, 804, 28, 0), (39, 89, 0, 866, 867, 868, 29)],
  [(46, 349, 2, 1000, 1001, 42, 0), (49, 358, 1, 792, 793, 28, 0), (53, 345, 0, 1131, 1132, 1133, 42), (59, 343, 0, 1157, 1025, 1026, 42), (64, 344, 0, 1159, 1160, 1161, 42), (81, 314, 1, 1179, 511, 46, 0), (87, 352, 0, 1180, 1181, 1182, 42)],
  [(91, 92, 0, 461, 462, 463, 29), (94, 100, 0, 1240, 1241, 1242, 29), (98, 102, 0, 1245, 1246, 1247, 29), (101, 95, 0, 513, 514, 515, 29), (105, 101, 0, 1250, 1251, 1252, 29), (109, 109, 0, 1255, 1256, 1257, 29), (81, 314, 1, 1179, 511, 46, 0), (112, 93, 0, 1260, 1261, 1262, 29), (115, 103, 0, 1264, 1265, 1266, 29), (118, 112, 0, 1269, 1270, 1271, 29), (121, 98, 0, 1273, 1274, 1275, 29), (124, 115, 0, 1281, 1282, 1283, 29), (128, 99, 0, 1285, 1286, 1287, 29), (131, 113, 0, 614, 615, 616, 29), (134, 105, 0, 1290, 1291, 1292, 29)],
  [(49, 358, 1, 792, 793, 28, 0), (101, 95, 0, 513, 514, 515, 29), (137, 129, 0, 763, 764, 765, 29), (140, 133, 0, 1297, 1298, 1299, 29), (143, 130, 0, 768, 769, 770, 29), (146, 132, 0, 1302, 1303, 1304, 29), (149, 135, 0, 1306, 1307, 1308, 29), (152, 131, 0, 1316, 1317, 1318, 29)],
  [(155, 86, 2, 60, 61, 29, 0), (49, 358, 1, 792, 793, 28, 0), (156, 361, 1, 994, 995, 28, 0), (160, 360, 1, 800, 801, 28, 0), (91, 92, 0, 461, 462, 463, 29), (164, 362, 1, 1237, 1238, 28, 0), (137, 129, 0, 763, 764, 765, 29), (101, 95, 0, 513, 514, 515, 29), (168, 316, 1, 1320, 482, 46, 0), (171, 363, 1, 1294, 1295, 28, 0), (175, 119, 0, 618, 619, 620, 29), (178, 122, 0, 718, 719, 720, 29), (181, 123, 0, 722, 723, 724, 29), (184, 128, 0, 735, 736, 737, 29), (131, 113, 0, 614, 615, 616, 29), (187, 142, 0, 780, 781, 782, 29), (190, 126, 0, 726, 727, 728, 29), (193, 137, 0, 772, 773, 774, 29), (143, 130, 0, 768, 769, 770, 29), (196, 143, 0, 784, 785, 786, 29)]]
def am_L (k idx : Nat) : Option (Nat × Nat × Nat × Nat × Nat × Nat) := ((am_ks.getD k []).find? (fun q => q.1 == idx)).map (·.2)
/-- class code, pool index, class index (50: String), field, by a nest mate, place of the word -/
def am_fs : List (Nat × Nat × Nat × Nat × Nat × Nat) := [(0, 7, 5, 1, 0, 148), (0, 13, 5, 4, 0, 160), (0, 16, 5, 2, 0, 152), (0, 19, 5, 5, 0, 164), (0, 28, 0, 0, 0, 120), (0, 31, 0, 1, 0, 123), (0, 32, 5, 3, 0, 157), (0, 42, 0, 2, 0, 126), (0, 45, 0, 3, 0, 128), (1, 7, 1, 0, 0, 249), (1, 13, 1, 1, 0, 251), (1, 16, 1, 2, 0, 253), (1, 19, 1, 3, 0, 255), (1, 22, 1, 4, 0, 257), (1, 25, 1, 5, 0, 259), (2, 11, 2, 0, 0, 288), (2, 19, 2, 1, 0, 291), (2, 25, 2, 2, 0, 294), (2, 29, 2, 3, 0, 295), (2, 36, 2, 4, 0, 298), (2, 49, 2, 5, 0, 300), (2, 53, 2, 6, 0, 303), (2, 56, 2, 7, 0, 306), (2, 59, 2, 8, 0, 308), (2, 62, 2, 9, 0, 309), (2, 65, 2, 10, 0, 311), (2, 85, 5, 0, 0, 146), (2, 88, 10, 0, 0, 229), (2, 115, 5, 4, 0, 162), (2, 122, 5, 5, 0, 166), (2, 125, 5, 1, 0, 150), (2, 128, 5, 2, 0, 154), (2, 139, 1, 0, 0, 250), (2, 140, 1, 1, 0, 252), (2, 143, 1, 2, 0, 254), (2, 146, 1, 3, 0, 256), (2, 149, 1, 4, 0, 258), (2, 150, 1, 5, 0, 260), (2, 170, 5, 3, 0, 158), (2, 176, 5, 6, 0, 170), (2, 179, 5, 7, 0, 173), (2, 201, 5, 14, 0, 188), (2, 204, 5, 15, 0, 189), (2, 214, 5, 10, 0, 181), (2, 217, 5, 9, 0, 179), (2, 220, 5, 13, 0, 187), (2, 223, 5, 11, 0, 183), (2, 226, 0, 0, 0, 122), (2, 227, 0, 1, 0, 125), (2, 231, 5, 12, 0, 185), (3, 11, 3, 0, 0, 416), (3, 18, 3, 2, 0, 418), (3, 22, 3, 1, 0, 417), (4, 9, 4, 0, 0, 72), (4, 15, 4, 1, 0, 76), (5, 9, 5, 0, 0, 145), (5, 15, 5, 1, 0, 149), (5, 18, 5, 2, 0, 153), (5, 21, 5, 3, 0, 156), (5, 24, 5, 4, 0, 161), (5, 27, 5, 5, 0, 165), (5, 30, 5, 6, 0, 168), (5, 33, 5, 7, 0, 172), (5, 36, 5, 8, 0, 175), (5, 39, 5, 9, 0, 177), (5, 42, 5, 10, 0, 180), (5, 45, 5, 11, 0, 182), (5, 48, 5, 12, 0, 184), (5, 51, 5, 13, 0, 186), (5, 67, 10, 1, 0, 232), (5, 73, 10, 2, 0, 235), (6, 11, 6, 0, 0, 344), (6, 16, 6, 1, 0, 345), (6, 20, 6, 2, 0, 346), (7, 9, 7, 0, 0, 90), (8, 12, 8, 0, 0, 377), (8, 21, 8, 1, 0, 379), (8, 25, 8, 6, 0, 386), (8, 34, 8, 2, 0, 381), (8, 38, 8, 5, 0, 384), (8, 45, 8, 3, 0, 382), (8, 51, 9, 1, 0, 362), (8, 66, 2, 6, 0, 304), (8, 88, 2, 5, 0, 301), (8, 101, 8, 4, 0, 383), (8, 104, 2, 0, 0, 289), (8, 114, 5, 8, 0, 176), (8, 121, 5, 9, 0, 178), (8, 124, 5, 6, 0, 169), (8, 127, 9, 3, 0, 367), (8, 130, 9, 0, 0, 361), (8, 134, 4, 0, 0, 74), (8, 140, 9, 2, 0, 365), (8, 159, 2, 1, 0, 292), (8, 163, 10, 0, 0, 230), (8, 182, 2, 3, 0, 297), (9, 7, 9, 0, 0, 360), (9, 13, 9, 2, 0, 364), (9, 17, 9, 3, 0, 366), (9, 23, 4, 1, 0, 77), (9, 26, 4, 0, 0, 73), (9, 34, 9, 1, 0, 363), (10, 7, 10, 0, 0, 228), (10, 13, 10, 1, 0, 231), (10, 16, 10, 2, 0, 234), (11, 10, 11, 0, 0, 427), (11, 19, 11, 1, 0, 428), (11, 28, 11, 2, 0, 429), (11, 35, 11, 3, 0, 430), (11, 42, 11, 4, 0, 431), (11, 46, 11, 5, 0, 432), (11, 49, 11, 6, 0, 433), (11, 55, 11, 7, 0, 434), (11, 59, 11, 10, 0, 437), (11, 63, 4, 1, 0, 75), (11, 74, 8, 5, 0, 385), (11, 77, 11, 9, 0, 436), (11, 80, 8, 6, 0, 387), (11, 83, 8, 0, 0, 378), (11, 88, 8, 1, 0, 380), (11, 95, 11, 8, 0, 435), (11, 99, 2, 5, 0, 302), (11, 106, 2, 6, 0, 305), (11, 109, 2, 9, 0, 310), (11, 112, 2, 7, 0, 307), (11, 115, 2, 10, 0, 312), (11, 122, 3, 2, 0, 419), (11, 129, 2, 3, 0, 296), (11, 148, 2, 0, 0, 290), (11, 160, 2, 1, 0, 293), (11, 170, 5, 0, 0, 147), (11, 188, 2, 4, 0, 299), (11, 192, 0, 0, 0, 121), (11, 197, 0, 1, 0, 124), (11, 200, 0, 2, 0, 127), (11, 203, 0, 3, 0, 129), (11, 229, 5, 3, 0, 159), (11, 239, 5, 1, 0, 151), (11, 240, 5, 2, 0, 155), (11, 250, 5, 4, 0, 163), (11, 253, 10, 1, 0, 233), (11, 254, 5, 5, 0, 167), (11, 257, 10, 2, 0, 236), (11, 283, 5, 6, 0, 171), (11, 289, 5, 7, 0, 174), (50, 9, 13, 0, 0, 1226), (50, 15, 13, 1, 0, 1227), (50, 1048, 12, 2, 0, 1121), (56, 15, 12, 0, 0, 1119), (56, 22, 12, 1, 0, 1120), (56, 79, 12, 3, 0, 1122)]
def am_F (own idx : Nat) : Option (Nat × Nat × Nat × Nat) := (am_fs.find? (fun q => q.1 == own && q.2.1 == idx)).map (·.2.2)
/-- class code, pool index, which static, by a nest mate, place -/
def am_ss : List (Nat × Nat × Nat × Nat × Nat) := [(2, 68, 2, 1, 278), (8, 175, 0, 1, 981), (8, 179, 1, 1, 983), (56, 18, 3, 0, 1070), (57, 83, 6, 0, 1144), (57, 87, 5, 0, 1146), (50, 38, 3, 0, 814), (50, 1053, 4, 0, 830)]
def am_S (own idx : Nat) : Option (Nat × Nat × Nat) := (am_ss.find? (fun q => q.1 == own && q.2.1 == idx)).map (·.2.2)
/-- new: class code, pool index, class index, places of classLink, instantiable, initialized -/
def am_ns : List (Nat × Nat × Nat × Nat × Nat × Nat) := [(2, 33, 0, 114, 115, 34), (2, 9, 5, 108, 140, 35), (2, 17, 10, 110, 223, 36), (2, 23, 1, 112, 244, 37), (3, 9, 2, 413, 103, 33), (8, 9, 2, 102, 103, 33), (8, 18, 6, 336, 337, 38), (8, 29, 9, 354, 355, 39), (11, 7, 4, 66, 67, 30), (11, 16, 7, 84, 85, 31), (11, 23, 8, 96, 97, 32), (11, 32, 6, 403, 337, 38), (11, 39, 2, 405, 103, 33), (11, 52, 3, 407, 408, 40), (55, 18, 13, 1184, 1185, 43), (54, 42, 12, 997, 998, 42), (54, 26, 11, 58, 59, 29)]
def am_W (own idx : Nat) : Option (Nat × Nat × Nat × Nat) := (am_ns.find? (fun q => q.1 == own && q.2.1 == idx)).map (·.2.2)
/-- anewarray: class code, pool index, kind of the array less 100, place of classLink -/
def am_as : List (Nat × Nat × Nat × Nat) := [(2, 9, 5, 108), (2, 17, 6, 110), (2, 23, 7, 112), (3, 9, 8, 413)]
def am_V (own idx : Nat) : Option (Nat × Nat) := (am_as.find? (fun q => q.1 == own && q.2.1 == idx)).map (·.2.2)
/-- throw new E(text): method, pc, which E, pool indices of the class, of the text, wide text, of the constructor -/
def am_xs : List (Nat × Nat × Nat × Nat × Nat × Nat × Nat) := [(144, 17, 0, 215, 350, 1, 219), (145, 17, 0, 215, 352, 1, 219), (146, 9, 1, 354, 356, 1, 358), (147, 4, 2, 359, 361, 1, 363)]
def am_T (k pc : Nat) : Option (Nat × Nat × Nat × Nat × Nat) := (am_xs.find? (fun q => q.1 == k && q.2.1 == pc)).map (·.2.2)
/-- the methods out of which an exception may come -/
def am_th : List Nat := [95, 98, 99, 100, 101, 102, 103, 109, 112, 113, 115, 119, 122, 123, 126, 128, 129, 130, 131, 132, 133, 135, 137, 143, 144, 145, 146, 147, 362, 363, 364]
def am_sr : List (Nat × Nat × String) := [(8, 191, "kite"), (8, 193, "wind"), (8, 195, "slack"), (8, 197, "rise"), (8, 199, "climb"), (8, 201, "sink"), (8, 203, "reach"), (8, 205, "pick"), (8, 207, "sharp"), (8, 208, "tough"), (8, 209, "out"), (11, 350, "no such kite"), (11, 356, "out of range"), (11, 352, "no such wind"), (11, 361, "not in this state"), (54, 44, "reach "), (54, 57, ";pick "), (54, 62, ";slack "), (54, 67, "kite "), (54, 69, " sharp "), (54, 71, " tough "), (54, 73, " out "), (54, 75, "wind "), (54, 77, " -"), (54, 79, " ")]
def am_sb : List (List Int32) := [[107, 105, 116, 101], [119, 105, 110, 100], [115, 108, 97, 99, 107], [114, 105, 115, 101], [99, 108, 105, 109, 98], [115, 105, 110, 107], [114, 101, 97, 99, 104], [112, 105, 99, 107], [115, 104, 97, 114, 112], [116, 111, 117, 103, 104], [111, 117, 116], [110, 111, 32, 115, 117, 99, 104, 32, 107, 105, 116, 101], [111, 117, 116, 32, 111, 102, 32, 114, 97, 110, 103, 101], [110, 111, 32, 115, 117, 99, 104, 32, 119, 105, 110, 100], [110, 111, 116, 32, 105, 110, 32, 116, 104, 105, 115, 32, 115, 116, 97, 116, 101], [114, 101, 97, 99, 104, 32], [59, 112, 105, 99, 107, 32], [59, 115, 108, 97, 99, 107, 32], [107, 105, 116, 101, 32], [32, 115, 104, 97, 114, 112, 32], [32, 116, 111, 117, 103, 104, 32], [32, 111, 117, 116, 32], [119, 105, 110, 100, 32], [32, 45], [32]]
def am_G (own idx : Nat) : Option Nat := am_sr.findIdx? (fun q => q.1 == own && q.2.1 == idx)
def am_gs : List (Nat × Nat × Int64 × Nat) := []
def am_J (own idx : Nat) : Option Int64 := (am_gs.find? (fun q => q.1 == own && q.2.1 == idx)).map (·.2.2.1)
def am_us : List (Nat × Nat × Int32 × Nat) := [(54, 7, (131071 : Int32), 798), (54, 14, (2147483647 : Int32), 799), (56, 38, (2147483631 : Int32), 1008), (56, 39, (2147483647 : Int32), 1009), (59, 200, (2147483639 : Int32), 1047)]
def am_U (own idx : Nat) : Option Int32 := (am_us.find? (fun q => q.1 == own && q.2.1 == idx)).map (·.2.2.1)
def am_ft : List (List Nat) := [[0, 0, 0, 0], [0, 0, 0, 0, 0, 0], [2, 2, 2, 2, 2, 0, 0, 0, 0, 0, 0], [2, 0, 0], [2, 0], [0, 0, 0, 0, 0, 0, 0, 0, 0, 0, 0, 0, 0, 0, 0, 0], [2, 2, 0], [2, 0], [2, 2, 2, 0, 0, 0, 0], [2, 0, 0, 0], [0, 0, 0], [2, 2, 2, 2, 2, 2, 2, 2, 1, 0, 0], [2, 3, 1, 0], [2, 3, 0, 1]]
def am_f (ci k : Nat) : Nat := (am_ft.getD ci []).getD k 0
def am_nf (ci : Nat) : Nat := (am_ft.getD ci []).length
def am_E (k : Nat) : String := match k with
  | 0 => "java/lang/IndexOutOfBoundsException"
  | 1 => "java/lang/IllegalArgumentException"
  | _ => "java/lang/IllegalStateException"
