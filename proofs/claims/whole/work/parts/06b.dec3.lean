/-! the code of each method is that of the printed bytes, 3 -/
set_option maxRecDepth 100000 in
theorem am_Q194 : am_kL cX12_heightAt am_c194 = true := by decide +kernel
set_option maxRecDepth 100000 in
theorem am_Q195 : am_kL cX12_apartAt am_c195 = true := by decide +kernel
set_option maxRecDepth 100000 in
theorem am_Q196 : am_kL cX12_doRub am_c196 = true := by decide +kernel
set_option maxRecDepth 100000 in
theorem am_Q197 : am_kL cX12_crossX am_c197 = true := by decide +kernel
set_option maxRecDepth 100000 in
theorem am_Q198 : am_kL cX12_crossY am_c198 = true := by decide +kernel
set_option maxRecDepth 100000 in
theorem am_Q199 : am_kL cX12_brings am_c199 = true := by decide +kernel
set_option maxRecDepth 100000 in
theorem am_Q200 : am_kL cX12_wearOf am_c200 = true := by decide +kernel
set_option maxRecDepth 100000 in
theorem am_Q201 : am_kL cX12_threatOf am_c201 = true := by decide +kernel
set_option maxRecDepth 100000 in
theorem am_Q202 : am_kL cX12_pairs am_c202 = true := by decide +kernel
set_option maxRecDepth 100000 in
theorem am_Q203_0 : am_kL cX12_pickerOf am_c203_0 = true := by decide +kernel
set_option maxRecDepth 100000 in
theorem am_Q203_1 : am_kL cX12_pickerOf am_c203_1 = true := by decide +kernel
theorem am_Q203 : am_kL cX12_pickerOf am_c203 = true := (am_kL2 am_Q203_0 am_Q203_1)
set_option maxRecDepth 100000 in
theorem am_Q204 : am_kL cX12_onField am_c204 = true := by decide +kernel
set_option maxRecDepth 100000 in
theorem am_Q205 : am_kL cX12_blows am_c205 = true := by decide +kernel
set_option maxRecDepth 100000 in
theorem am_Q206 : am_kL cX12_sinks am_c206 = true := by decide +kernel
set_option maxRecDepth 100000 in
theorem am_Q207 : am_kL cX12_climbs am_c207 = true := by decide +kernel
set_option maxRecDepth 100000 in
theorem am_Q208_0 : am_kL cX12_pulls am_c208_0 = true := by decide +kernel
set_option maxRecDepth 100000 in
theorem am_Q208_1 : am_kL cX12_pulls am_c208_1 = true := by decide +kernel
theorem am_Q208 : am_kL cX12_pulls am_c208 = true := (am_kL2 am_Q208_0 am_Q208_1)
set_option maxRecDepth 100000 in
theorem am_Q209_0 : am_kL cX12_goes am_c209_0 = true := by decide +kernel
set_option maxRecDepth 100000 in
theorem am_Q209_1 : am_kL cX12_goes am_c209_1 = true := by decide +kernel
theorem am_Q209 : am_kL cX12_goes am_c209 = true := (am_kL2 am_Q209_0 am_Q209_1)
set_option maxRecDepth 100000 in
theorem am_Q210_0 : am_kL cX12_rubs am_c210_0 = true := by decide +kernel
set_option maxRecDepth 100000 in
theorem am_Q210_1 : am_kL cX12_rubs am_c210_1 = true := by decide +kernel
set_option maxRecDepth 100000 in
theorem am_Q210_2 : am_kL cX12_rubs am_c210_2 = true := by decide +kernel
set_option maxRecDepth 100000 in
theorem am_Q210_3 : am_kL cX12_rubs am_c210_3 = true := by decide +kernel
theorem am_Q210 : am_kL cX12_rubs am_c210 = true := (am_kL2 am_Q210_0 (am_kL2 am_Q210_1 (am_kL2 am_Q210_2 am_Q210_3)))
set_option maxRecDepth 100000 in
theorem am_Q211_0 : am_kL cX12_drift am_c211_0 = true := by decide +kernel
set_option maxRecDepth 100000 in
theorem am_Q211_1 : am_kL cX12_drift am_c211_1 = true := by decide +kernel
set_option maxRecDepth 100000 in
theorem am_Q211_2 : am_kL cX12_drift am_c211_2 = true := by decide +kernel
theorem am_Q211 : am_kL cX12_drift am_c211 = true := (am_kL2 am_Q211_0 (am_kL2 am_Q211_1 am_Q211_2))
set_option maxRecDepth 100000 in
theorem am_Q212_0 : am_kL cX12_ticksOnce am_c212_0 = true := by decide +kernel
set_option maxRecDepth 100000 in
theorem am_Q212_1 : am_kL cX12_ticksOnce am_c212_1 = true := by decide +kernel
theorem am_Q212 : am_kL cX12_ticksOnce am_c212 = true := (am_kL2 am_Q212_0 am_Q212_1)
set_option maxRecDepth 100000 in
theorem am_Q213 : am_kL cX12_goesOn am_c213 = true := by decide +kernel
set_option maxRecDepth 100000 in
theorem am_Q214 : am_kL cX12_inState am_c214 = true := by decide +kernel
set_option maxRecDepth 100000 in
theorem am_Q215 : am_kL cX12_count am_c215 = true := by decide +kernel
set_option maxRecDepth 100000 in
theorem am_Q216 : am_kL cX12_setting am_c216 = true := by decide +kernel
set_option maxRecDepth 100000 in
theorem am_Q217 : am_kL cX12_isOfKite am_c217 = true := by decide +kernel
set_option maxRecDepth 100000 in
theorem am_Q218 : am_kL cX12_kite am_c218 = true := by decide +kernel
set_option maxRecDepth 100000 in
theorem am_Q219 : am_kL cX12_wind am_c219 = true := by decide +kernel
set_option maxRecDepth 100000 in
theorem am_Q220 : am_kL cX12_windAt am_c220 = true := by decide +kernel
set_option maxRecDepth 100000 in
theorem am_Q221 : am_kL cX12_span am_c221 = true := by decide +kernel
set_option maxRecDepth 100000 in
theorem am_Q222 : am_kL cX12_slack am_c222 = true := by decide +kernel
set_option maxRecDepth 100000 in
theorem am_Q223 : am_kL cX12_crosses am_c223 = true := by decide +kernel
set_option maxRecDepth 100000 in
theorem am_Q224_0 : am_kL cX12_crossing am_c224_0 = true := by decide +kernel
set_option maxRecDepth 100000 in
theorem am_Q224_1 : am_kL cX12_crossing am_c224_1 = true := by decide +kernel
theorem am_Q224 : am_kL cX12_crossing am_c224 = true := (am_kL2 am_Q224_0 am_Q224_1)
set_option maxRecDepth 100000 in
theorem am_Q225 : am_kL cX12_rubs_ am_c225 = true := by decide +kernel
set_option maxRecDepth 100000 in
theorem am_Q226 : am_kL cX12_wearNow am_c226 = true := by decide +kernel
set_option maxRecDepth 100000 in
theorem am_Q227 : am_kL cX12_event am_c227 = true := by decide +kernel
set_option maxRecDepth 100000 in
theorem am_Q228 : am_kL cX12_highest am_c228 = true := by decide +kernel
set_option maxRecDepth 100000 in
theorem am_Q229 : am_kL cX12_lowest am_c229 = true := by decide +kernel
set_option maxRecDepth 100000 in
theorem am_Q230 : am_kL cX12_tautest am_c230 = true := by decide +kernel
set_option maxRecDepth 100000 in
theorem am_Q231 : am_kL cX12_leader am_c231 = true := by decide +kernel
set_option maxRecDepth 100000 in
theorem am_Q232 : am_kL cX12_isPlace am_c232 = true := by decide +kernel
set_option maxRecDepth 100000 in
theorem am_Q233 : am_kL cX12_picker am_c233 = true := by decide +kernel
set_option maxRecDepth 100000 in
theorem am_Q234 : am_kL cX12_gap am_c234 = true := by decide +kernel
set_option maxRecDepth 100000 in
theorem am_Q235 : am_kL cX12_far am_c235 = true := by decide +kernel
set_option maxRecDepth 100000 in
theorem am_Q236 : am_kL cX12_nearest am_c236 = true := by decide +kernel
set_option maxRecDepth 100000 in
theorem am_Q237 : am_kL cX12_upwind am_c237 = true := by decide +kernel
set_option maxRecDepth 100000 in
theorem am_Q238 : am_kL cX12_threat am_c238 = true := by decide +kernel
set_option maxRecDepth 100000 in
theorem am_Q239 : am_kL cX12_sum am_c239 = true := by decide +kernel
set_option maxRecDepth 100000 in
theorem am_Q240 : am_kL cX12_rank am_c240 = true := by decide +kernel
set_option maxRecDepth 100000 in
theorem am_Q241_0 : am_kL cX12_inBox am_c241_0 = true := by decide +kernel
set_option maxRecDepth 100000 in
theorem am_Q241_1 : am_kL cX12_inBox am_c241_1 = true := by decide +kernel
theorem am_Q241 : am_kL cX12_inBox am_c241 = true := (am_kL2 am_Q241_0 am_Q241_1)
set_option maxRecDepth 100000 in
theorem am_Q242 : am_kL cX12_spread am_c242 = true := by decide +kernel
set_option maxRecDepth 100000 in
theorem am_Q243 : am_kL cX12_meanHeight am_c243 = true := by decide +kernel
set_option maxRecDepth 100000 in
theorem am_Q244 : am_kL cX12_left am_c244 = true := by decide +kernel
set_option maxRecDepth 100000 in
theorem am_Q245 : am_kL cX12_areTicks am_c245 = true := by decide +kernel
set_option maxRecDepth 100000 in
theorem am_Q246 : am_kL cX12_kiteIn am_c246 = true := by decide +kernel
set_option maxRecDepth 100000 in
theorem am_Q247 : am_kL cX12_isSo am_c247 = true := by decide +kernel
set_option maxRecDepth 100000 in
theorem am_Q248 : am_kL cX12_first am_c248 = true := by decide +kernel
set_option maxRecDepth 100000 in
theorem am_Q249 : am_kL cX12_cutIn am_c249 = true := by decide +kernel
set_option maxRecDepth 100000 in
theorem am_Q250 : am_kL cX12_crossIn am_c250 = true := by decide +kernel
set_option maxRecDepth 100000 in
theorem am_Q251 : am_kL cX12_cutsIn am_c251 = true := by decide +kernel
set_option maxRecDepth 100000 in
theorem am_Q252 : am_kL cX12_landsIn am_c252 = true := by decide +kernel
set_option maxRecDepth 100000 in
theorem am_Q253 : am_kL cX12_duel am_c253 = true := by decide +kernel
set_option maxRecDepth 100000 in
theorem am_Q254_0 : am_kL cX12_reelFor am_c254_0 = true := by decide +kernel
set_option maxRecDepth 100000 in
theorem am_Q254_1 : am_kL cX12_reelFor am_c254_1 = true := by decide +kernel
theorem am_Q254 : am_kL cX12_reelFor am_c254 = true := (am_kL2 am_Q254_0 am_Q254_1)
set_option maxRecDepth 100000 in
theorem am_Q255 : am_kL cX12_safeReel am_c255 = true := by decide +kernel
set_option maxRecDepth 100000 in
theorem am_Q256 : am_kL cX12_bestReel am_c256 = true := by decide +kernel
set_option maxRecDepth 100000 in
theorem am_Q257 : am_kL cX12_boldReel am_c257 = true := by decide +kernel
set_option maxRecDepth 100000 in
theorem am_Q258 : am_kL cX12_run am_c258 = true := by decide +kernel
set_option maxRecDepth 100000 in
theorem am_Q259 : am_kL cX12_goesToFlyer am_c259 = true := by decide +kernel
set_option maxRecDepth 100000 in
theorem am_Q260_0 : am_kL cX12_launch am_c260_0 = true := by decide +kernel
set_option maxRecDepth 100000 in
theorem am_Q260_1 : am_kL cX12_launch am_c260_1 = true := by decide +kernel
