/-! the code of each method is that of the printed bytes, 2 -/
theorem am_Q124 : am_kL cX11_duel am_c124 = true := (am_kL2 am_Q124_0 am_Q124_1)
set_option maxRecDepth 100000 in
theorem am_Q125 : am_kL cX11_safeReel am_c125 = true := by decide +kernel
set_option maxRecDepth 100000 in
theorem am_Q126 : am_kL cX11_bestReel am_c126 = true := by decide +kernel
set_option maxRecDepth 100000 in
theorem am_Q127 : am_kL cX11_boldReel am_c127 = true := by decide +kernel
set_option maxRecDepth 100000 in
theorem am_Q128 : am_kL cX11_run am_c128 = true := by decide +kernel
set_option maxRecDepth 100000 in
theorem am_Q129 : am_kL cX11_launch am_c129 = true := by decide +kernel
set_option maxRecDepth 100000 in
theorem am_Q130 : am_kL cX11_reel am_c130 = true := by decide +kernel
set_option maxRecDepth 100000 in
theorem am_Q131 : am_kL cX11_letGo am_c131 = true := by decide +kernel
set_option maxRecDepth 100000 in
theorem am_Q132 : am_kL cX11_pull am_c132 = true := by decide +kernel
set_option maxRecDepth 100000 in
theorem am_Q133_0 : am_kL cX11_walk am_c133_0 = true := by decide +kernel
set_option maxRecDepth 100000 in
theorem am_Q133_1 : am_kL cX11_walk am_c133_1 = true := by decide +kernel
theorem am_Q133 : am_kL cX11_walk am_c133 = true := (am_kL2 am_Q133_0 am_Q133_1)
set_option maxRecDepth 100000 in
theorem am_Q134 : am_kL cX11_restring am_c134 = true := by decide +kernel
set_option maxRecDepth 100000 in
theorem am_Q135 : am_kL cX11_setWind am_c135 = true := by decide +kernel
set_option maxRecDepth 100000 in
theorem am_Q136 : am_kL cX11_set am_c136 = true := by decide +kernel
set_option maxRecDepth 100000 in
theorem am_Q137 : am_kL cX11_undo am_c137 = true := by decide +kernel
set_option maxRecDepth 100000 in
theorem am_Q138_0 : am_kL cX11_printKite am_c138_0 = true := by decide +kernel
set_option maxRecDepth 100000 in
theorem am_Q138_1 : am_kL cX11_printKite am_c138_1 = true := by decide +kernel
theorem am_Q138 : am_kL cX11_printKite am_c138 = true := (am_kL2 am_Q138_0 am_Q138_1)
set_option maxRecDepth 100000 in
theorem am_Q139_0 : am_kL cX11_printPairs am_c139_0 = true := by decide +kernel
set_option maxRecDepth 100000 in
theorem am_Q139_1 : am_kL cX11_printPairs am_c139_1 = true := by decide +kernel
theorem am_Q139 : am_kL cX11_printPairs am_c139 = true := (am_kL2 am_Q139_0 am_Q139_1)
set_option maxRecDepth 100000 in
theorem am_Q140_0 : am_kL cX11_printEvents am_c140_0 = true := by decide +kernel
set_option maxRecDepth 100000 in
theorem am_Q140_1 : am_kL cX11_printEvents am_c140_1 = true := by decide +kernel
theorem am_Q140 : am_kL cX11_printEvents am_c140 = true := (am_kL2 am_Q140_0 am_Q140_1)
set_option maxRecDepth 100000 in
theorem am_Q141 : am_kL cX11_outputByte am_c141 = true := by decide +kernel
set_option maxRecDepth 100000 in
theorem am_Q142 : am_kL cX11_saveState am_c142 = true := by decide +kernel
set_option maxRecDepth 100000 in
theorem am_Q143 : am_kL cX11_restoreState am_c143 = true := by decide +kernel
set_option maxRecDepth 100000 in
theorem am_Q144 : am_kL cX11_checkKite am_c144 = true := by decide +kernel
set_option maxRecDepth 100000 in
theorem am_Q145 : am_kL cX11_checkWind am_c145 = true := by decide +kernel
set_option maxRecDepth 100000 in
theorem am_Q146 : am_kL cX11_checkRange am_c146 = true := by decide +kernel
set_option maxRecDepth 100000 in
theorem am_Q147 : am_kL cX11_checkState am_c147 = true := by decide +kernel
set_option maxRecDepth 100000 in
theorem am_Q148_0 : am_kL cX11_reelFor am_c148_0 = true := by decide +kernel
set_option maxRecDepth 100000 in
theorem am_Q148_1 : am_kL cX11_reelFor am_c148_1 = true := by decide +kernel
theorem am_Q148 : am_kL cX11_reelFor am_c148 = true := (am_kL2 am_Q148_0 am_Q148_1)
set_option maxRecDepth 100000 in
theorem am_Q149 : am_kL cX11_stateWord am_c149 = true := by decide +kernel
set_option maxRecDepth 100000 in
theorem am_Q150 : am_kL cX11_kindLetter am_c150 = true := by decide +kernel
set_option maxRecDepth 100000 in
theorem am_Q151 : am_kL cX11_isIn am_c151 = true := by decide +kernel
set_option maxRecDepth 100000 in
theorem am_Q152 : am_kL cX11_bounded am_c152 = true := by decide +kernel
set_option maxRecDepth 100000 in
theorem am_Q153_0 : am_kL cX12_init am_c153_0 = true := by decide +kernel
set_option maxRecDepth 100000 in
theorem am_Q153_1 : am_kL cX12_init am_c153_1 = true := by decide +kernel
theorem am_Q153 : am_kL cX12_init am_c153 = true := (am_kL2 am_Q153_0 am_Q153_1)
set_option maxRecDepth 100000 in
theorem am_Q154 : am_kL cX12_thrown am_c154 = true := by decide +kernel
set_option maxRecDepth 100000 in
theorem am_Q155 : am_kL cX12_is am_c155 = true := by decide +kernel
set_option maxRecDepth 100000 in
theorem am_Q156 : am_kL cX12_may am_c156 = true := by decide +kernel
set_option maxRecDepth 100000 in
theorem am_Q157 : am_kL cX12_isIn am_c157 = true := by decide +kernel
set_option maxRecDepth 100000 in
theorem am_Q158 : am_kL cX12_copies am_c158 = true := by decide +kernel
set_option maxRecDepth 100000 in
theorem am_Q159 : am_kL cX12_resets am_c159 = true := by decide +kernel
set_option maxRecDepth 100000 in
theorem am_Q160 : am_kL cX12_addsWind am_c160 = true := by decide +kernel
set_option maxRecDepth 100000 in
theorem am_Q161 : am_kL cX12_starts am_c161 = true := by decide +kernel
set_option maxRecDepth 100000 in
theorem am_Q162_0 : am_kL cX12_done am_c162_0 = true := by decide +kernel
set_option maxRecDepth 100000 in
theorem am_Q162_1 : am_kL cX12_done am_c162_1 = true := by decide +kernel
theorem am_Q162 : am_kL cX12_done am_c162 = true := (am_kL2 am_Q162_0 am_Q162_1)
set_option maxRecDepth 100000 in
theorem am_Q163 : am_kL cX12_undo am_c163 = true := by decide +kernel
set_option maxRecDepth 100000 in
theorem am_Q164 : am_kL cX12_saveState am_c164 = true := by decide +kernel
set_option maxRecDepth 100000 in
theorem am_Q165 : am_kL cX12_restoreState am_c165 = true := by decide +kernel
set_option maxRecDepth 100000 in
theorem am_Q166 : am_kL cX12_tries am_c166 = true := by decide +kernel
set_option maxRecDepth 100000 in
theorem am_Q167 : am_kL cX12_laysBack am_c167 = true := by decide +kernel
set_option maxRecDepth 100000 in
theorem am_Q168 : am_kL cX12_kites am_c168 = true := by decide +kernel
set_option maxRecDepth 100000 in
theorem am_Q169 : am_kL cX12_isKite am_c169 = true := by decide +kernel
set_option maxRecDepth 100000 in
theorem am_Q170 : am_kL cX12_areKites am_c170 = true := by decide +kernel
set_option maxRecDepth 100000 in
theorem am_Q171 : am_kL cX12_of am_c171 = true := by decide +kernel
set_option maxRecDepth 100000 in
theorem am_Q172 : am_kL cX12_lays am_c172 = true := by decide +kernel
set_option maxRecDepth 100000 in
theorem am_Q173 : am_kL cX12_adds am_c173 = true := by decide +kernel
set_option maxRecDepth 100000 in
theorem am_Q174 : am_kL cX12_set am_c174 = true := by decide +kernel
set_option maxRecDepth 100000 in
theorem am_Q175 : am_kL cX12_flies am_c175 = true := by decide +kernel
set_option maxRecDepth 100000 in
theorem am_Q176 : am_kL cX12_isHeld am_c176 = true := by decide +kernel
set_option maxRecDepth 100000 in
theorem am_Q177 : am_kL cX12_ofWind am_c177 = true := by decide +kernel
set_option maxRecDepth 100000 in
theorem am_Q178 : am_kL cX12_windOf am_c178 = true := by decide +kernel
set_option maxRecDepth 100000 in
theorem am_Q179 : am_kL cX12_force am_c179 = true := by decide +kernel
set_option maxRecDepth 100000 in
theorem am_Q180 : am_kL cX12_root am_c180 = true := by decide +kernel
set_option maxRecDepth 100000 in
theorem am_Q181 : am_kL cX12_squares am_c181 = true := by decide +kernel
set_option maxRecDepth 100000 in
theorem am_Q182 : am_kL cX12_wayX am_c182 = true := by decide +kernel
set_option maxRecDepth 100000 in
theorem am_Q183 : am_kL cX12_wayY am_c183 = true := by decide +kernel
set_option maxRecDepth 100000 in
theorem am_Q184 : am_kL cX12_spanOf am_c184 = true := by decide +kernel
set_option maxRecDepth 100000 in
theorem am_Q185 : am_kL cX12_slackOf am_c185 = true := by decide +kernel
set_option maxRecDepth 100000 in
theorem am_Q186_0 : am_kL cX12_happens am_c186_0 = true := by decide +kernel
set_option maxRecDepth 100000 in
theorem am_Q186_1 : am_kL cX12_happens am_c186_1 = true := by decide +kernel
set_option maxRecDepth 100000 in
theorem am_Q186_2 : am_kL cX12_happens am_c186_2 = true := by decide +kernel
theorem am_Q186 : am_kL cX12_happens am_c186 = true := (am_kL2 am_Q186_0 (am_kL2 am_Q186_1 am_Q186_2))
set_option maxRecDepth 100000 in
theorem am_Q187 : am_kL cX12_happensAt am_c187 = true := by decide +kernel
set_option maxRecDepth 100000 in
theorem am_Q188 : am_kL cX12_area am_c188 = true := by decide +kernel
set_option maxRecDepth 100000 in
theorem am_Q189 : am_kL cX12_sign am_c189 = true := by decide +kernel
set_option maxRecDepth 100000 in
theorem am_Q190 : am_kL cX12_side am_c190 = true := by decide +kernel
set_option maxRecDepth 100000 in
theorem am_Q191 : am_kL cX12_areParted am_c191 = true := by decide +kernel
set_option maxRecDepth 100000 in
theorem am_Q192 : am_kL cX12_doCross am_c192 = true := by decide +kernel
set_option maxRecDepth 100000 in
theorem am_Q193_0 : am_kL cX12_finds am_c193_0 = true := by decide +kernel
set_option maxRecDepth 100000 in
theorem am_Q193_1 : am_kL cX12_finds am_c193_1 = true := by decide +kernel
theorem am_Q193 : am_kL cX12_finds am_c193 = true := (am_kL2 am_Q193_0 am_Q193_1)
