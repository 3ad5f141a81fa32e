set_option maxRecDepth 100000 in
theorem m_RX11_182 : Cond.constant RX11 182 (-2147483648) ∈ hp_tbl := hp_in (List.mem_append_right _ (List.mem_append_right _ (List.mem_append_right _ (List.mem_append_right _ (List.mem_append_left _ (List.mem_of_getElem? (i := 129) (by decide +kernel))))))) rfl
set_option maxRecDepth 100000 in
theorem m_RX7_27 : Cond.constant RX7 27 (-61441) ∈ hp_tbl := hp_in (List.mem_append_right _ (List.mem_append_right _ (List.mem_append_right _ (List.mem_append_right _ (List.mem_append_left _ (List.mem_of_getElem? (i := 76) (by decide +kernel))))))) rfl
set_option maxRecDepth 100000 in
theorem m_RX12_309 : Cond.constant RX12 309 (-2147483648) ∈ hp_tbl := hp_in (List.mem_append_right _ (List.mem_append_right _ (List.mem_append_right _ (List.mem_append_right _ (List.mem_append_right _ (List.mem_append_right _ (List.mem_append_right _ (List.mem_of_getElem? (i := 10) (by decide +kernel))))))))) rfl
set_option maxRecDepth 100000 in
theorem m_RX11_57 : Cond.methodLink RX11 57 yX10_fits ∈ hp_tbl := hp_in (List.mem_append_right _ (List.mem_append_right _ (List.mem_append_right _ (List.mem_append_left _ (List.mem_of_getElem? (i := 3) (by decide +kernel)))))) rfl
set_option maxRecDepth 100000 in
theorem m_RX11_67 : Cond.methodLink RX11 67 yX10_isFull ∈ hp_tbl := hp_in (List.mem_append_right _ (List.mem_append_right _ (List.mem_append_right _ (List.mem_append_left _ (List.mem_of_getElem? (i := 6) (by decide +kernel)))))) rfl
set_option maxRecDepth 100000 in
theorem m_RX11_71 : Cond.methodLink RX11 71 yX11_endSearch ∈ hp_tbl := hp_in (List.mem_append_right _ (List.mem_append_right _ (List.mem_append_right _ (List.mem_append_left _ (List.mem_of_getElem? (i := 10) (by decide +kernel)))))) rfl
set_option maxRecDepth 100000 in
theorem m_RX11_74 : Cond.methodLink RX11 74 yX10_add ∈ hp_tbl := hp_in (List.mem_append_right _ (List.mem_append_right _ (List.mem_append_right _ (List.mem_append_left _ (List.mem_of_getElem? (i := 22) (by decide +kernel)))))) rfl
set_option maxRecDepth 100000 in
theorem m_RX11_88 : Cond.methodLink RX11 88 yX6_add ∈ hp_tbl := hp_in (List.mem_append_right _ (List.mem_append_right _ (List.mem_append_right _ (List.mem_append_left _ (List.mem_of_getElem? (i := 30) (by decide +kernel)))))) rfl
set_option maxRecDepth 100000 in
theorem m_RX11_91 : Cond.methodLink RX11 91 yX6_has ∈ hp_tbl := hp_in (List.mem_append_right _ (List.mem_append_right _ (List.mem_append_right _ (List.mem_append_left _ (List.mem_of_getElem? (i := 38) (by decide +kernel)))))) rfl
set_option maxRecDepth 100000 in
theorem m_RX11_97 : Cond.methodLink RX11 97 yX11_isDigit ∈ hp_tbl := hp_in (List.mem_append_right _ (List.mem_append_right _ (List.mem_append_right _ (List.mem_append_left _ (List.mem_of_getElem? (i := 46) (by decide +kernel)))))) rfl
set_option maxRecDepth 100000 in
theorem m_RX11_100 : Cond.methodLink RX11 100 yX6_isEnd ∈ hp_tbl := hp_in (List.mem_append_right _ (List.mem_append_right _ (List.mem_append_right _ (List.mem_append_left _ (List.mem_of_getElem? (i := 49) (by decide +kernel)))))) rfl
set_option maxRecDepth 100000 in
theorem m_RX11_104 : Cond.methodLink RX11 104 yX11_asNumber ∈ hp_tbl := hp_in (List.mem_append_right _ (List.mem_append_right _ (List.mem_append_right _ (List.mem_append_left _ (List.mem_of_getElem? (i := 53) (by decide +kernel)))))) rfl
set_option maxRecDepth 100000 in
theorem m_RX11_108 : Cond.methodLink RX11 108 yX6_setEnd ∈ hp_tbl := hp_in (List.mem_append_right _ (List.mem_append_right _ (List.mem_append_right _ (List.mem_append_left _ (List.mem_of_getElem? (i := 56) (by decide +kernel)))))) rfl
set_option maxRecDepth 100000 in
theorem m_RX11_115 : Cond.methodLink RX11 115 yX4_addChannel ∈ hp_tbl := hp_in (List.mem_append_right _ (List.mem_append_right _ (List.mem_append_right _ (List.mem_append_left _ (List.mem_of_getElem? (i := 64) (by decide +kernel)))))) rfl
set_option maxRecDepth 100000 in
theorem m_RX11_119 : Cond.methodLink RX11 119 yX4_knowsParts ∈ hp_tbl := hp_in (List.mem_append_right _ (List.mem_append_right _ (List.mem_append_right _ (List.mem_append_left _ (List.mem_of_getElem? (i := 72) (by decide +kernel)))))) rfl
set_option maxRecDepth 100000 in
theorem m_RX11_130 : Cond.methodLink RX11 130 yX1_add ∈ hp_tbl := hp_in (List.mem_append_right _ (List.mem_append_right _ (List.mem_append_right _ (List.mem_append_left _ (List.mem_of_getElem? (i := 100) (by decide +kernel)))))) rfl
set_option maxRecDepth 100000 in
theorem m_RX11_131 : Cond.methodLink RX11 131 yX1_has ∈ hp_tbl := hp_in (List.mem_append_right _ (List.mem_append_right _ (List.mem_append_right _ (List.mem_append_left _ (List.mem_of_getElem? (i := 110) (by decide +kernel)))))) rfl
set_option maxRecDepth 100000 in
theorem m_RX11_139 : Cond.methodLink RX11 139 yX9_add ∈ hp_tbl := hp_in (List.mem_append_right _ (List.mem_append_right _ (List.mem_append_right _ (List.mem_append_left _ (List.mem_of_getElem? (i := 111) (by decide +kernel)))))) rfl
set_option maxRecDepth 100000 in
theorem m_RX11_140 : Cond.methodLink RX11 140 yX9_has ∈ hp_tbl := hp_in (List.mem_append_right _ (List.mem_append_right _ (List.mem_append_right _ (List.mem_append_left _ (List.mem_of_getElem? (i := 119) (by decide +kernel)))))) rfl
set_option maxRecDepth 100000 in
theorem m_RX11_141 : Cond.methodLink RX11 141 yX4_knowsAct ∈ hp_tbl := hp_in (List.mem_append_right _ (List.mem_append_right _ (List.mem_append_right _ (List.mem_append_left _ (List.mem_of_getElem? (i := 123) (by decide +kernel)))))) rfl
set_option maxRecDepth 100000 in
theorem m_RX11_144 : Cond.methodLink RX11 144 yX9_hasLetterAct ∈ hp_tbl := hp_in (List.mem_append_right _ (List.mem_append_right _ (List.mem_append_right _ (List.mem_append_left _ (List.mem_of_getElem? (i := 127) (by decide +kernel)))))) rfl
set_option maxRecDepth 100000 in
theorem m_RX11_151 : Cond.methodLink RX11 151 yX9_addAct ∈ hp_tbl := hp_in (List.mem_append_right _ (List.mem_append_right _ (List.mem_append_right _ (List.mem_append_left _ (List.mem_of_getElem? (i := 131) (by decide +kernel)))))) rfl
set_option maxRecDepth 100000 in
theorem m_RX11_158 : Cond.methodLink RX11 158 yX4_isSearchable ∈ hp_tbl := hp_in (List.mem_append_right _ (List.mem_append_right _ (List.mem_append_right _ (List.mem_append_left _ (List.mem_of_getElem? (i := 143) (by decide +kernel)))))) rfl
set_option maxRecDepth 100000 in
theorem m_RX11_165 : Cond.methodLink RX11 165 yX8_start ∈ hp_tbl := hp_in (List.mem_append_right _ (List.mem_append_right _ (List.mem_append_right _ (List.mem_append_left _ (List.mem_of_getElem? (i := 171) (by decide +kernel)))))) rfl
set_option maxRecDepth 100000 in
theorem m_RX11_174 : Cond.methodLink RX11 174 yX8_goThrough ∈ hp_tbl := hp_in (List.mem_append_right _ (List.mem_append_right _ (List.mem_append_right _ (List.mem_append_left _ (List.mem_of_getElem? (i := 219) (by decide +kernel)))))) rfl
set_option maxRecDepth 100000 in
theorem m_RX11_178 : Cond.methodLink RX11 178 yX2_has ∈ hp_tbl := hp_in (List.mem_append_right _ (List.mem_append_right _ (List.mem_append_right _ (List.mem_append_right _ (List.mem_append_left _ (List.mem_of_getElem? (i := 117) (by decide +kernel))))))) rfl
set_option maxRecDepth 100000 in
theorem m_RX11_179 : Cond.methodLink RX11 179 yX1_isOwned ∈ hp_tbl := hp_in (List.mem_append_right _ (List.mem_append_right _ (List.mem_append_right _ (List.mem_append_right _ (List.mem_append_left _ (List.mem_of_getElem? (i := 125) (by decide +kernel))))))) rfl
set_option maxRecDepth 100000 in
theorem m_RX11_183 : Cond.methodLink RX11 183 yX5_ask ∈ hp_tbl := hp_in (List.mem_append_right _ (List.mem_append_right _ (List.mem_append_right _ (List.mem_append_right _ (List.mem_append_left _ (List.mem_of_getElem? (i := 130) (by decide +kernel))))))) rfl
set_option maxRecDepth 100000 in
theorem m_RX11_186 : Cond.methodLink RX11 186 yX5_lookAt ∈ hp_tbl := hp_in (List.mem_append_right _ (List.mem_append_right _ (List.mem_append_right _ (List.mem_append_right _ (List.mem_append_left _ (List.mem_of_getElem? (i := 145) (by decide +kernel))))))) rfl
set_option maxRecDepth 100000 in
theorem m_RX11_189 : Cond.methodLink RX11 189 yX5_answer ∈ hp_tbl := hp_in (List.mem_append_right _ (List.mem_append_right _ (List.mem_append_right _ (List.mem_append_right _ (List.mem_append_left _ (List.mem_of_getElem? (i := 155) (by decide +kernel))))))) rfl
set_option maxRecDepth 100000 in
theorem m_RX11_192 : Cond.methodLink RX11 192 yX2_isUsable ∈ hp_tbl := hp_in (List.mem_append_right _ (List.mem_append_right _ (List.mem_append_right _ (List.mem_append_right _ (List.mem_append_left _ (List.mem_of_getElem? (i := 163) (by decide +kernel))))))) rfl
set_option maxRecDepth 100000 in
theorem m_RX11_195 : Cond.methodLink RX11 195 yX6_hasMember ∈ hp_tbl := hp_in (List.mem_append_right _ (List.mem_append_right _ (List.mem_append_right _ (List.mem_append_right _ (List.mem_append_left _ (List.mem_of_getElem? (i := 164) (by decide +kernel))))))) rfl
set_option maxRecDepth 100000 in
theorem m_RX11_198 : Cond.methodLink RX11 198 yX5_rowOf ∈ hp_tbl := hp_in (List.mem_append_right _ (List.mem_append_right _ (List.mem_append_right _ (List.mem_append_right _ (List.mem_append_left _ (List.mem_of_getElem? (i := 165) (by decide +kernel))))))) rfl
set_option maxRecDepth 100000 in
theorem m_RX11_202 : Cond.methodLink RX11 202 yX7_placeOf ∈ hp_tbl := hp_in (List.mem_append_right _ (List.mem_append_right _ (List.mem_append_right _ (List.mem_append_right _ (List.mem_append_left _ (List.mem_of_getElem? (i := 166) (by decide +kernel))))))) rfl
set_option maxRecDepth 100000 in
theorem m_RX11_208 : Cond.methodLink RX11 208 yX10_has ∈ hp_tbl := hp_in (List.mem_append_right _ (List.mem_append_right _ (List.mem_append_right _ (List.mem_append_right _ (List.mem_append_left _ (List.mem_of_getElem? (i := 171) (by decide +kernel))))))) rfl
set_option maxRecDepth 100000 in
theorem m_RX11_210 : Cond.methodLink RX11 210 yX7_ownValue ∈ hp_tbl := hp_in (List.mem_append_right _ (List.mem_append_right _ (List.mem_append_right _ (List.mem_append_right _ (List.mem_append_left _ (List.mem_of_getElem? (i := 172) (by decide +kernel))))))) rfl
set_option maxRecDepth 100000 in
theorem m_RX11_214 : Cond.methodLink RX11 214 yX4_hasChannel ∈ hp_tbl := hp_in (List.mem_append_right _ (List.mem_append_right _ (List.mem_append_right _ (List.mem_append_right _ (List.mem_append_left _ (List.mem_of_getElem? (i := 177) (by decide +kernel))))))) rfl
set_option maxRecDepth 100000 in
theorem m_RX11_217 : Cond.methodLink RX11 217 yX7_held ∈ hp_tbl := hp_in (List.mem_append_right _ (List.mem_append_right _ (List.mem_append_right _ (List.mem_append_right _ (List.mem_append_left _ (List.mem_of_getElem? (i := 178) (by decide +kernel))))))) rfl
set_option maxRecDepth 100000 in
theorem m_RX11_220 : Cond.methodLink RX11 220 yX7_letterAt ∈ hp_tbl := hp_in (List.mem_append_right _ (List.mem_append_right _ (List.mem_append_right _ (List.mem_append_right _ (List.mem_append_left _ (List.mem_of_getElem? (i := 179) (by decide +kernel))))))) rfl
set_option maxRecDepth 100000 in
theorem m_RX11_223 : Cond.methodLink RX11 223 yX2_movesFrom ∈ hp_tbl := hp_in (List.mem_append_right _ (List.mem_append_right _ (List.mem_append_right _ (List.mem_append_right _ (List.mem_append_left _ (List.mem_of_getElem? (i := 184) (by decide +kernel))))))) rfl
set_option maxRecDepth 100000 in
theorem m_RX11_232 : Cond.methodLink RX11 232 yX2_roleOfMove ∈ hp_tbl := hp_in (List.mem_append_right _ (List.mem_append_right _ (List.mem_append_right _ (List.mem_append_right _ (List.mem_append_left _ (List.mem_of_getElem? (i := 192) (by decide +kernel))))))) rfl
set_option maxRecDepth 100000 in
theorem m_RX11_235 : Cond.methodLink RX11 235 yX2_memberOfMove ∈ hp_tbl := hp_in (List.mem_append_right _ (List.mem_append_right _ (List.mem_append_right _ (List.mem_append_right _ (List.mem_append_left _ (List.mem_of_getElem? (i := 196) (by decide +kernel))))))) rfl
set_option maxRecDepth 100000 in
theorem m_RX11_238 : Cond.methodLink RX11 238 yX2_stepOfMove ∈ hp_tbl := hp_in (List.mem_append_right _ (List.mem_append_right _ (List.mem_append_right _ (List.mem_append_right _ (List.mem_append_left _ (List.mem_of_getElem? (i := 200) (by decide +kernel))))))) rfl
set_option maxRecDepth 100000 in
theorem m_RX11_250 : Cond.methodLink RX11 250 yX2_hasMemberMove ∈ hp_tbl := hp_in (List.mem_append_right _ (List.mem_append_right _ (List.mem_append_right _ (List.mem_append_right _ (List.mem_append_left _ (List.mem_of_getElem? (i := 216) (by decide +kernel))))))) rfl
set_option maxRecDepth 100000 in
theorem m_RX11_253 : Cond.methodLink RX11 253 yX4_someAtNoEnd ∈ hp_tbl := hp_in (List.mem_append_right _ (List.mem_append_right _ (List.mem_append_right _ (List.mem_append_right _ (List.mem_append_left _ (List.mem_of_getElem? (i := 225) (by decide +kernel))))))) rfl
set_option maxRecDepth 100000 in
theorem m_RX11_269 : Cond.methodLink RX11 269 yX11_refusalOfPlain ∈ hp_tbl := hp_in (List.mem_append_right _ (List.mem_append_right _ (List.mem_append_right _ (List.mem_append_right _ (List.mem_append_left _ (List.mem_of_getElem? (i := 239) (by decide +kernel))))))) rfl
set_option maxRecDepth 100000 in
theorem m_RX11_272 : Cond.methodLink RX11 272 yX3_breakerOfAgain ∈ hp_tbl := hp_in (List.mem_append_right _ (List.mem_append_right _ (List.mem_append_right _ (List.mem_append_right _ (List.mem_append_right _ (List.mem_append_left _ (List.mem_of_getElem? (i := 7) (by decide +kernel)))))))) rfl
set_option maxRecDepth 100000 in
theorem m_RX11_276 : Cond.methodLink RX11 276 yX3_breakerOfFromTo ∈ hp_tbl := hp_in (List.mem_append_right _ (List.mem_append_right _ (List.mem_append_right _ (List.mem_append_right _ (List.mem_append_right _ (List.mem_append_left _ (List.mem_of_getElem? (i := 58) (by decide +kernel)))))))) rfl
set_option maxRecDepth 100000 in
theorem m_RX11_280 : Cond.methodLink RX11 280 yX0_observes ∈ hp_tbl := hp_in (List.mem_append_right _ (List.mem_append_right _ (List.mem_append_right _ (List.mem_append_right _ (List.mem_append_right _ (List.mem_append_left _ (List.mem_of_getElem? (i := 67) (by decide +kernel)))))))) rfl
set_option maxRecDepth 100000 in
theorem m_RX11_286 : Cond.methodLink RX11 286 yX0_addObserved ∈ hp_tbl := hp_in (List.mem_append_right _ (List.mem_append_right _ (List.mem_append_right _ (List.mem_append_right _ (List.mem_append_right _ (List.mem_append_left _ (List.mem_of_getElem? (i := 71) (by decide +kernel)))))))) rfl
set_option maxRecDepth 100000 in
theorem m_RX11_289 : Cond.methodLink RX11 289 yX0_makeSure ∈ hp_tbl := hp_in (List.mem_append_right _ (List.mem_append_right _ (List.mem_append_right _ (List.mem_append_right _ (List.mem_append_right _ (List.mem_append_left _ (List.mem_of_getElem? (i := 79) (by decide +kernel)))))))) rfl
set_option maxRecDepth 100000 in
theorem m_RX11_300 : Cond.methodLink RX11 300 yX2_clear ∈ hp_tbl := hp_in (List.mem_append_right _ (List.mem_append_right _ (List.mem_append_right _ (List.mem_append_left _ (List.mem_of_getElem? (i := 14) (by decide +kernel)))))) rfl
set_option maxRecDepth 100000 in
theorem m_RX11_303 : Cond.methodLink RX11 303 yX0_forget ∈ hp_tbl := hp_in (List.mem_append_right _ (List.mem_append_right _ (List.mem_append_right _ (List.mem_append_left _ (List.mem_of_getElem? (i := 18) (by decide +kernel)))))) rfl
set_option maxRecDepth 100000 in
theorem m_RX0_49 : Cond.methodLink RX0 49 yJ7_fill_53178 ∈ hp_tbl := hp_in (List.mem_append_right _ (List.mem_append_right _ (List.mem_append_right _ (List.mem_append_right _ (List.mem_append_right _ (List.mem_append_left _ (List.mem_of_getElem? (i := 83) (by decide +kernel)))))))) rfl
set_option maxRecDepth 100000 in
theorem m_RX0_58 : Cond.methodLink RX0 58 yX0_keyByObserved ∈ hp_tbl := hp_in (List.mem_append_right _ (List.mem_append_right _ (List.mem_append_right _ (List.mem_append_right _ (List.mem_append_right _ (List.mem_append_left _ (List.mem_of_getElem? (i := 84) (by decide +kernel)))))))) rfl
set_option maxRecDepth 100000 in
theorem m_RX0_61 : Cond.methodLink RX0 61 yX0_split ∈ hp_tbl := hp_in (List.mem_append_right _ (List.mem_append_right _ (List.mem_append_right _ (List.mem_append_right _ (List.mem_append_right _ (List.mem_append_left _ (List.mem_of_getElem? (i := 92) (by decide +kernel)))))))) rfl
set_option maxRecDepth 100000 in
theorem m_RX0_65 : Cond.methodLink RX0 65 yX0_keyByMoves ∈ hp_tbl := hp_in (List.mem_append_right _ (List.mem_append_right _ (List.mem_append_right _ (List.mem_append_right _ (List.mem_append_right _ (List.mem_append_left _ (List.mem_of_getElem? (i := 108) (by decide +kernel)))))))) rfl
set_option maxRecDepth 100000 in
theorem m_RX0_68 : Cond.methodLink RX0 68 yX5_askNothing ∈ hp_tbl := hp_in (List.mem_append_right _ (List.mem_append_right _ (List.mem_append_right _ (List.mem_append_right _ (List.mem_append_right _ (List.mem_append_left _ (List.mem_of_getElem? (i := 88) (by decide +kernel)))))))) rfl
set_option maxRecDepth 100000 in
theorem m_RX0_73 : Cond.methodLink RX0 73 yX5_askToo ∈ hp_tbl := hp_in (List.mem_append_right _ (List.mem_append_right _ (List.mem_append_right _ (List.mem_append_right _ (List.mem_append_right _ (List.mem_append_left _ (List.mem_of_getElem? (i := 89) (by decide +kernel)))))))) rfl
set_option maxRecDepth 100000 in
theorem m_RX0_81 : Cond.methodLink RX0 81 yX5_lookAt ∈ hp_tbl := hp_in (List.mem_append_right _ (List.mem_append_right _ (List.mem_append_right _ (List.mem_append_right _ (List.mem_append_right _ (List.mem_append_left _ (List.mem_of_getElem? (i := 90) (by decide +kernel)))))))) rfl
set_option maxRecDepth 100000 in
theorem m_RX0_84 : Cond.methodLink RX0 84 yX5_answer ∈ hp_tbl := hp_in (List.mem_append_right _ (List.mem_append_right _ (List.mem_append_right _ (List.mem_append_right _ (List.mem_append_right _ (List.mem_append_left _ (List.mem_of_getElem? (i := 91) (by decide +kernel)))))))) rfl
set_option maxRecDepth 100000 in
theorem m_RX0_88 : Cond.methodLink RX0 88 yJ7_fill_fda19 ∈ hp_tbl := hp_in (List.mem_append_right _ (List.mem_append_right _ (List.mem_append_right _ (List.mem_append_right _ (List.mem_append_right _ (List.mem_append_left _ (List.mem_of_getElem? (i := 112) (by decide +kernel)))))))) rfl
set_option maxRecDepth 100000 in
theorem m_RX0_97 : Cond.methodLink RX0 97 yX0_newPartLike ∈ hp_tbl := hp_in (List.mem_append_right _ (List.mem_append_right _ (List.mem_append_right _ (List.mem_append_right _ (List.mem_append_right _ (List.mem_append_left _ (List.mem_of_getElem? (i := 96) (by decide +kernel)))))))) rfl
set_option maxRecDepth 100000 in
theorem m_RX0_101 : Cond.methodLink RX0 101 yX0_openPart ∈ hp_tbl := hp_in (List.mem_append_right _ (List.mem_append_right _ (List.mem_append_right _ (List.mem_append_right _ (List.mem_append_right _ (List.mem_append_left _ (List.mem_of_getElem? (i := 104) (by decide +kernel)))))))) rfl
set_option maxRecDepth 100000 in
theorem m_RX0_104 : Cond.methodLink RX0 104 yX0_haveSameKeys ∈ hp_tbl := hp_in (List.mem_append_right _ (List.mem_append_right _ (List.mem_append_right _ (List.mem_append_right _ (List.mem_append_right _ (List.mem_append_left _ (List.mem_of_getElem? (i := 100) (by decide +kernel)))))))) rfl
set_option maxRecDepth 100000 in
theorem m_RX1_46 : Cond.methodLink RX1 46 yX1_isMade ∈ hp_tbl := hp_in (List.mem_append_right _ (List.mem_append_right _ (List.mem_append_right _ (List.mem_append_left _ (List.mem_of_getElem? (i := 104) (by decide +kernel)))))) rfl
set_option maxRecDepth 100000 in
theorem m_RX1_50 : Cond.methodLink RX1 50 yX1_isMadeOfTwo ∈ hp_tbl := hp_in (List.mem_append_right _ (List.mem_append_right _ (List.mem_append_right _ (List.mem_append_left _ (List.mem_of_getElem? (i := 105) (by decide +kernel)))))) rfl
set_option maxRecDepth 100000 in
theorem m_RX1_53 : Cond.methodLink RX1 53 yX1_ofParts ∈ hp_tbl := hp_in (List.mem_append_right _ (List.mem_append_right _ (List.mem_append_right _ (List.mem_append_left _ (List.mem_of_getElem? (i := 239) (by decide +kernel)))))) rfl
set_option maxRecDepth 100000 in
theorem m_RX1_57 : Cond.methodLink RX1 57 yX1_ofRow ∈ hp_tbl := hp_in (List.mem_append_right _ (List.mem_append_right _ (List.mem_append_right _ (List.mem_append_right _ (List.mem_append_left _ (List.mem_of_getElem? (i := 2) (by decide +kernel))))))) rfl
set_option maxRecDepth 100000 in
theorem m_RX1_61 : Cond.methodLink RX1 61 yX7_sharedValue ∈ hp_tbl := hp_in (List.mem_append_right _ (List.mem_append_right _ (List.mem_append_right _ (List.mem_append_right _ (List.mem_append_left _ (List.mem_of_getElem? (i := 6) (by decide +kernel))))))) rfl
set_option maxRecDepth 100000 in
theorem m_RX1_67 : Cond.methodLink RX1 67 yX7_ownValue ∈ hp_tbl := hp_in (List.mem_append_right _ (List.mem_append_right _ (List.mem_append_right _ (List.mem_append_right _ (List.mem_append_left _ (List.mem_of_getElem? (i := 10) (by decide +kernel))))))) rfl
set_option maxRecDepth 100000 in
theorem m_RX1_75 : Cond.methodLink RX1 75 yX7_howManyAt ∈ hp_tbl := hp_in (List.mem_append_right _ (List.mem_append_right _ (List.mem_append_right _ (List.mem_append_right _ (List.mem_append_left _ (List.mem_of_getElem? (i := 14) (by decide +kernel))))))) rfl
set_option maxRecDepth 100000 in
theorem m_RX1_78 : Cond.methodLink RX1 78 yX7_held ∈ hp_tbl := hp_in (List.mem_append_right _ (List.mem_append_right _ (List.mem_append_right _ (List.mem_append_right _ (List.mem_append_left _ (List.mem_of_getElem? (i := 18) (by decide +kernel))))))) rfl
set_option maxRecDepth 100000 in
theorem m_RX2_64 : Cond.methodLink RX2 64 yX2_clear ∈ hp_tbl := hp_in (List.mem_append_right _ (List.mem_append_right _ (List.mem_append_right _ (List.mem_append_left _ (List.mem_of_getElem? (i := 202) (by decide +kernel)))))) rfl
set_option maxRecDepth 100000 in
theorem m_RX2_67 : Cond.methodLink RX2 67 yJ7_fill_53178 ∈ hp_tbl := hp_in (List.mem_append_right _ (List.mem_append_right _ (List.mem_append_right _ (List.mem_append_left _ (List.mem_of_getElem? (i := 203) (by decide +kernel)))))) rfl
set_option maxRecDepth 100000 in
theorem m_RX2_73 : Cond.methodLink RX2 73 yX2_slotOf ∈ hp_tbl := hp_in (List.mem_append_right _ (List.mem_append_right _ (List.mem_append_right _ (List.mem_append_left _ (List.mem_of_getElem? (i := 204) (by decide +kernel)))))) rfl
set_option maxRecDepth 100000 in
theorem m_RX2_77 : Cond.methodLink RX2 77 yX2_addState ∈ hp_tbl := hp_in (List.mem_append_right _ (List.mem_append_right _ (List.mem_append_right _ (List.mem_append_left _ (List.mem_of_getElem? (i := 212) (by decide +kernel)))))) rfl
set_option maxRecDepth 100000 in
theorem m_RX2_81 : Cond.methodLink RX2 81 yX2_isUsable ∈ hp_tbl := hp_in (List.mem_append_right _ (List.mem_append_right _ (List.mem_append_right _ (List.mem_append_right _ (List.mem_append_left _ (List.mem_of_getElem? (i := 121) (by decide +kernel))))))) rfl
set_option maxRecDepth 100000 in
theorem m_RX2_86 : Cond.methodLink RX2 86 arraycopyName ∈ hp_tbl := hp_in (List.mem_append_right _ (List.mem_append_right _ (List.mem_append_right _ (List.mem_append_left _ (List.mem_of_getElem? (i := 216) (by decide +kernel)))))) rfl
set_option maxRecDepth 100000 in
theorem m_RX2_92 : Cond.methodLink RX2 92 yX2_movesFrom ∈ hp_tbl := hp_in (List.mem_append_right _ (List.mem_append_right _ (List.mem_append_right _ (List.mem_append_right _ (List.mem_append_left _ (List.mem_of_getElem? (i := 220) (by decide +kernel))))))) rfl
set_option maxRecDepth 100000 in
theorem m_RX2_96 : Cond.methodLink RX2 96 yX2_moverBit ∈ hp_tbl := hp_in (List.mem_append_right _ (List.mem_append_right _ (List.mem_append_right _ (List.mem_append_right _ (List.mem_append_left _ (List.mem_of_getElem? (i := 221) (by decide +kernel))))))) rfl
set_option maxRecDepth 100000 in
theorem m_RX2_99 : Cond.methodLink RX2 99 yX2_isSame ∈ hp_tbl := hp_in (List.mem_append_right _ (List.mem_append_right _ (List.mem_append_right _ (List.mem_append_left _ (List.mem_of_getElem? (i := 208) (by decide +kernel)))))) rfl
set_option maxRecDepth 100000 in
theorem m_RX3_55 : Cond.methodLink RX3 55 yX5_ask ∈ hp_tbl := hp_in (List.mem_append_right _ (List.mem_append_right _ (List.mem_append_right _ (List.mem_append_right _ (List.mem_append_right _ (List.mem_append_left _ (List.mem_of_getElem? (i := 11) (by decide +kernel)))))))) rfl
set_option maxRecDepth 100000 in
theorem m_RX3_67 : Cond.methodLink RX3 67 yX5_lookAt ∈ hp_tbl := hp_in (List.mem_append_right _ (List.mem_append_right _ (List.mem_append_right _ (List.mem_append_right _ (List.mem_append_right _ (List.mem_append_left _ (List.mem_of_getElem? (i := 12) (by decide +kernel)))))))) rfl
set_option maxRecDepth 100000 in
theorem m_RX3_70 : Cond.methodLink RX3 70 yX5_answer ∈ hp_tbl := hp_in (List.mem_append_right _ (List.mem_append_right _ (List.mem_append_right _ (List.mem_append_right _ (List.mem_append_right _ (List.mem_append_left _ (List.mem_of_getElem? (i := 13) (by decide +kernel)))))))) rfl
set_option maxRecDepth 100000 in
theorem m_RX3_74 : Cond.methodLink RX3 74 yX3_tie ∈ hp_tbl := hp_in (List.mem_append_right _ (List.mem_append_right _ (List.mem_append_right _ (List.mem_append_right _ (List.mem_append_right _ (List.mem_append_left _ (List.mem_of_getElem? (i := 14) (by decide +kernel)))))))) rfl
set_option maxRecDepth 100000 in
theorem m_RX3_78 : Cond.methodLink RX3 78 yX3_firstOfBoth ∈ hp_tbl := hp_in (List.mem_append_right _ (List.mem_append_right _ (List.mem_append_right _ (List.mem_append_right _ (List.mem_append_right _ (List.mem_append_left _ (List.mem_of_getElem? (i := 50) (by decide +kernel)))))))) rfl
set_option maxRecDepth 100000 in
theorem m_RX3_82 : Cond.methodLink RX3 82 yX5_askToo ∈ hp_tbl := hp_in (List.mem_append_right _ (List.mem_append_right _ (List.mem_append_right _ (List.mem_append_right _ (List.mem_append_right _ (List.mem_append_left _ (List.mem_of_getElem? (i := 62) (by decide +kernel)))))))) rfl
set_option maxRecDepth 100000 in
theorem m_RX3_95 : Cond.methodLink RX3 95 yX6_everyoneBits ∈ hp_tbl := hp_in (List.mem_append_right _ (List.mem_append_right _ (List.mem_append_right _ (List.mem_append_right _ (List.mem_append_right _ (List.mem_append_left _ (List.mem_of_getElem? (i := 18) (by decide +kernel)))))))) rfl
set_option maxRecDepth 100000 in
theorem m_RX3_113 : Cond.methodLink RX3 113 yX3_walk ∈ hp_tbl := hp_in (List.mem_append_right _ (List.mem_append_right _ (List.mem_append_right _ (List.mem_append_right _ (List.mem_append_right _ (List.mem_append_left _ (List.mem_of_getElem? (i := 22) (by decide +kernel)))))))) rfl
set_option maxRecDepth 100000 in
theorem m_RX3_116 : Cond.methodLink RX3 116 yX3_enter ∈ hp_tbl := hp_in (List.mem_append_right _ (List.mem_append_right _ (List.mem_append_right _ (List.mem_append_right _ (List.mem_append_right _ (List.mem_append_left _ (List.mem_of_getElem? (i := 26) (by decide +kernel)))))))) rfl
set_option maxRecDepth 100000 in
theorem m_RX3_125 : Cond.methodLink RX3 125 yX3_follow ∈ hp_tbl := hp_in (List.mem_append_right _ (List.mem_append_right _ (List.mem_append_right _ (List.mem_append_right _ (List.mem_append_right _ (List.mem_append_left _ (List.mem_of_getElem? (i := 30) (by decide +kernel)))))))) rfl
set_option maxRecDepth 100000 in
theorem m_RX3_129 : Cond.methodLink RX3 129 yX3_handBack ∈ hp_tbl := hp_in (List.mem_append_right _ (List.mem_append_right _ (List.mem_append_right _ (List.mem_append_right _ (List.mem_append_right _ (List.mem_append_left _ (List.mem_of_getElem? (i := 37) (by decide +kernel)))))))) rfl
set_option maxRecDepth 100000 in
theorem m_RX3_132 : Cond.methodLink RX3 132 yX3_close ∈ hp_tbl := hp_in (List.mem_append_right _ (List.mem_append_right _ (List.mem_append_right _ (List.mem_append_right _ (List.mem_append_right _ (List.mem_append_left _ (List.mem_of_getElem? (i := 41) (by decide +kernel)))))))) rfl
set_option maxRecDepth 100000 in
theorem m_RX3_135 : Cond.methodLink RX3 135 Lib.Math.min.name ∈ hp_tbl := hp_in (List.mem_append_right _ (List.mem_append_right _ (List.mem_append_right _ (List.mem_append_right _ (List.mem_append_right _ (List.mem_append_left _ (List.mem_of_getElem? (i := 34) (by decide +kernel)))))))) rfl
set_option maxRecDepth 100000 in
theorem m_RX3_147 : Cond.methodLink RX3 147 yX3_weigh ∈ hp_tbl := hp_in (List.mem_append_right _ (List.mem_append_right _ (List.mem_append_right _ (List.mem_append_right _ (List.mem_append_right _ (List.mem_append_left _ (List.mem_of_getElem? (i := 45) (by decide +kernel)))))))) rfl
set_option maxRecDepth 100000 in
theorem m_RX3_151 : Cond.methodLink RX3 151 yX2_moverBit ∈ hp_tbl := hp_in (List.mem_append_right _ (List.mem_append_right _ (List.mem_append_right _ (List.mem_append_right _ (List.mem_append_right _ (List.mem_append_left _ (List.mem_of_getElem? (i := 49) (by decide +kernel)))))))) rfl
set_option maxRecDepth 100000 in
theorem m_RX4_61 : Cond.methodLink RX4 61 yX10_has ∈ hp_tbl := hp_in (List.mem_append_right _ (List.mem_append_right _ (List.mem_append_right _ (List.mem_append_left _ (List.mem_of_getElem? (i := 76) (by decide +kernel)))))) rfl
set_option maxRecDepth 100000 in
theorem m_RX4_65 : Cond.methodLink RX4 65 yX6_has ∈ hp_tbl := hp_in (List.mem_append_right _ (List.mem_append_right _ (List.mem_append_right _ (List.mem_append_left _ (List.mem_of_getElem? (i := 80) (by decide +kernel)))))) rfl
set_option maxRecDepth 100000 in
theorem m_RX4_68 : Cond.methodLink RX4 68 yX4_hasChannel ∈ hp_tbl := hp_in (List.mem_append_right _ (List.mem_append_right _ (List.mem_append_right _ (List.mem_append_left _ (List.mem_of_getElem? (i := 81) (by decide +kernel)))))) rfl
set_option maxRecDepth 100000 in
theorem m_RX4_71 : Cond.methodLink RX4 71 yX6_hasMember ∈ hp_tbl := hp_in (List.mem_append_right _ (List.mem_append_right _ (List.mem_append_right _ (List.mem_append_left _ (List.mem_of_getElem? (i := 85) (by decide +kernel)))))) rfl
set_option maxRecDepth 100000 in
theorem m_RX4_74 : Cond.methodLink RX4 74 yX1_isMade ∈ hp_tbl := hp_in (List.mem_append_right _ (List.mem_append_right _ (List.mem_append_right _ (List.mem_append_left _ (List.mem_of_getElem? (i := 90) (by decide +kernel)))))) rfl
set_option maxRecDepth 100000 in
theorem m_RX4_77 : Cond.methodLink RX4 77 yX1_has ∈ hp_tbl := hp_in (List.mem_append_right _ (List.mem_append_right _ (List.mem_append_right _ (List.mem_append_left _ (List.mem_of_getElem? (i := 93) (by decide +kernel)))))) rfl
set_option maxRecDepth 100000 in
theorem m_RX4_78 : Cond.methodLink RX4 78 yX1_isMadeOfTwo ∈ hp_tbl := hp_in (List.mem_append_right _ (List.mem_append_right _ (List.mem_append_right _ (List.mem_append_left _ (List.mem_of_getElem? (i := 97) (by decide +kernel)))))) rfl
set_option maxRecDepth 100000 in
theorem m_RX4_88 : Cond.methodLink RX4 88 yX1_tellsMembersApart ∈ hp_tbl := hp_in (List.mem_append_right _ (List.mem_append_right _ (List.mem_append_right _ (List.mem_append_left _ (List.mem_of_getElem? (i := 147) (by decide +kernel)))))) rfl
set_option maxRecDepth 100000 in
theorem m_RX4_92 : Cond.methodLink RX4 92 yX4_markUses ∈ hp_tbl := hp_in (List.mem_append_right _ (List.mem_append_right _ (List.mem_append_right _ (List.mem_append_left _ (List.mem_of_getElem? (i := 151) (by decide +kernel)))))) rfl
set_option maxRecDepth 100000 in
theorem m_RX4_100 : Cond.methodLink RX4 100 yX1_namesBeyond ∈ hp_tbl := hp_in (List.mem_append_right _ (List.mem_append_right _ (List.mem_append_right _ (List.mem_append_left _ (List.mem_of_getElem? (i := 167) (by decide +kernel)))))) rfl
set_option maxRecDepth 100000 in
theorem m_RX4_103 : Cond.methodLink RX4 103 yX1_dropUse ∈ hp_tbl := hp_in (List.mem_append_right _ (List.mem_append_right _ (List.mem_append_right _ (List.mem_append_left _ (List.mem_of_getElem? (i := 155) (by decide +kernel)))))) rfl
set_option maxRecDepth 100000 in
theorem m_RX4_111 : Cond.methodLink RX4 111 yX1_addUse ∈ hp_tbl := hp_in (List.mem_append_right _ (List.mem_append_right _ (List.mem_append_right _ (List.mem_append_left _ (List.mem_of_getElem? (i := 159) (by decide +kernel)))))) rfl
set_option maxRecDepth 100000 in
theorem m_RX4_123 : Cond.methodLink RX4 123 yX1_spreadUses ∈ hp_tbl := hp_in (List.mem_append_right _ (List.mem_append_right _ (List.mem_append_right _ (List.mem_append_left _ (List.mem_of_getElem? (i := 163) (by decide +kernel)))))) rfl
set_option maxRecDepth 100000 in
theorem m_RX4_126 : Cond.methodLink RX4 126 yX7_clear ∈ hp_tbl := hp_in (List.mem_append_right _ (List.mem_append_right _ (List.mem_append_right _ (List.mem_append_left _ (List.mem_of_getElem? (i := 179) (by decide +kernel)))))) rfl
set_option maxRecDepth 100000 in
theorem m_RX4_131 : Cond.methodLink RX4 131 yX10_firstOf ∈ hp_tbl := hp_in (List.mem_append_right _ (List.mem_append_right _ (List.mem_append_right _ (List.mem_append_left _ (List.mem_of_getElem? (i := 186) (by decide +kernel)))))) rfl
set_option maxRecDepth 100000 in
theorem m_RX4_135 : Cond.methodLink RX4 135 yX7_setShared ∈ hp_tbl := hp_in (List.mem_append_right _ (List.mem_append_right _ (List.mem_append_right _ (List.mem_append_left _ (List.mem_of_getElem? (i := 190) (by decide +kernel)))))) rfl
set_option maxRecDepth 100000 in
theorem m_RX4_141 : Cond.methodLink RX4 141 yX7_setOwn ∈ hp_tbl := hp_in (List.mem_append_right _ (List.mem_append_right _ (List.mem_append_right _ (List.mem_append_left _ (List.mem_of_getElem? (i := 194) (by decide +kernel)))))) rfl
set_option maxRecDepth 100000 in
theorem m_RX4_145 : Cond.methodLink RX4 145 yX7_placeOf ∈ hp_tbl := hp_in (List.mem_append_right _ (List.mem_append_right _ (List.mem_append_right _ (List.mem_append_right _ (List.mem_append_left _ (List.mem_of_getElem? (i := 229) (by decide +kernel))))))) rfl
set_option maxRecDepth 100000 in
theorem m_RX4_148 : Cond.methodLink RX4 148 yX6_isEnd ∈ hp_tbl := hp_in (List.mem_append_right _ (List.mem_append_right _ (List.mem_append_right _ (List.mem_append_right _ (List.mem_append_left _ (List.mem_of_getElem? (i := 230) (by decide +kernel))))))) rfl
set_option maxRecDepth 100000 in
theorem m_RX5_26 : Cond.methodLink RX5 26 yX2_load ∈ hp_tbl := hp_in (List.mem_append_right _ (List.mem_append_right _ (List.mem_append_right _ (List.mem_append_right _ (List.mem_append_left _ (List.mem_of_getElem? (i := 153) (by decide +kernel))))))) rfl
set_option maxRecDepth 100000 in
theorem m_RX5_38 : Cond.methodLink RX5 38 yX1_dropUse ∈ hp_tbl := hp_in (List.mem_append_right _ (List.mem_append_right _ (List.mem_append_right _ (List.mem_append_right _ (List.mem_append_left _ (List.mem_of_getElem? (i := 138) (by decide +kernel))))))) rfl
set_option maxRecDepth 100000 in
theorem m_RX5_44 : Cond.methodLink RX5 44 yX1_addUse ∈ hp_tbl := hp_in (List.mem_append_right _ (List.mem_append_right _ (List.mem_append_right _ (List.mem_append_right _ (List.mem_append_left _ (List.mem_of_getElem? (i := 143) (by decide +kernel))))))) rfl
set_option maxRecDepth 100000 in
theorem m_RX5_48 : Cond.methodLink RX5 48 yX1_spreadUses ∈ hp_tbl := hp_in (List.mem_append_right _ (List.mem_append_right _ (List.mem_append_right _ (List.mem_append_right _ (List.mem_append_left _ (List.mem_of_getElem? (i := 144) (by decide +kernel))))))) rfl
set_option maxRecDepth 100000 in
theorem m_RX5_51 : Cond.methodLink RX5 51 yX5_askNothing ∈ hp_tbl := hp_in (List.mem_append_right _ (List.mem_append_right _ (List.mem_append_right _ (List.mem_append_right _ (List.mem_append_left _ (List.mem_of_getElem? (i := 134) (by decide +kernel))))))) rfl
set_option maxRecDepth 100000 in
theorem m_RX5_54 : Cond.methodLink RX5 54 yX5_askToo ∈ hp_tbl := hp_in (List.mem_append_right _ (List.mem_append_right _ (List.mem_append_right _ (List.mem_append_right _ (List.mem_append_left _ (List.mem_of_getElem? (i := 139) (by decide +kernel))))))) rfl
set_option maxRecDepth 100000 in
theorem m_RX5_57 : Cond.methodLink RX5 57 yX5_rowOf ∈ hp_tbl := hp_in (List.mem_append_right _ (List.mem_append_right _ (List.mem_append_right _ (List.mem_append_right _ (List.mem_append_left _ (List.mem_of_getElem? (i := 149) (by decide +kernel))))))) rfl
set_option maxRecDepth 100000 in
theorem m_RX5_61 : Cond.methodLink RX5 61 yX1_reckon ∈ hp_tbl := hp_in (List.mem_append_right _ (List.mem_append_right _ (List.mem_append_right _ (List.mem_append_right _ (List.mem_append_left _ (List.mem_of_getElem? (i := 154) (by decide +kernel))))))) rfl
set_option maxRecDepth 100000 in
theorem m_RX6_22 : Cond.methodLink RX6 22 yX6_has ∈ hp_tbl := hp_in (List.mem_append_right _ (List.mem_append_right _ (List.mem_append_right _ (List.mem_append_left _ (List.mem_of_getElem? (i := 89) (by decide +kernel)))))) rfl
set_option maxRecDepth 100000 in
theorem m_RX7_15 : Cond.methodLink RX7 15 yJ7_fill_53178 ∈ hp_tbl := hp_in (List.mem_append_right _ (List.mem_append_right _ (List.mem_append_right _ (List.mem_append_left _ (List.mem_of_getElem? (i := 183) (by decide +kernel)))))) rfl
set_option maxRecDepth 100000 in
theorem m_RX7_21 : Cond.methodLink RX7 21 arraycopyName ∈ hp_tbl := hp_in (List.mem_append_right _ (List.mem_append_right _ (List.mem_append_right _ (List.mem_append_right _ (List.mem_append_left _ (List.mem_of_getElem? (i := 36) (by decide +kernel))))))) rfl
set_option maxRecDepth 100000 in
theorem m_RX7_28 : Cond.methodLink RX7 28 yX7_held ∈ hp_tbl := hp_in (List.mem_append_right _ (List.mem_append_right _ (List.mem_append_right _ (List.mem_append_right _ (List.mem_append_left _ (List.mem_of_getElem? (i := 104) (by decide +kernel))))))) rfl
set_option maxRecDepth 100000 in
theorem m_RX7_32 : Cond.methodLink RX7 32 yX7_isFirstOfLike ∈ hp_tbl := hp_in (List.mem_append_right _ (List.mem_append_right _ (List.mem_append_right _ (List.mem_append_right _ (List.mem_append_left _ (List.mem_of_getElem? (i := 105) (by decide +kernel))))))) rfl
set_option maxRecDepth 100000 in
theorem m_RX8_33 : Cond.methodLink RX8 33 yX4_setFirst ∈ hp_tbl := hp_in (List.mem_append_right _ (List.mem_append_right _ (List.mem_append_right _ (List.mem_append_left _ (List.mem_of_getElem? (i := 175) (by decide +kernel)))))) rfl
set_option maxRecDepth 100000 in
theorem m_RX8_39 : Cond.methodLink RX8 39 yX2_begin ∈ hp_tbl := hp_in (List.mem_append_right _ (List.mem_append_right _ (List.mem_append_right _ (List.mem_append_left _ (List.mem_of_getElem? (i := 198) (by decide +kernel)))))) rfl
set_option maxRecDepth 100000 in
theorem m_RX8_44 : Cond.methodLink RX8 44 yX2_load ∈ hp_tbl := hp_in (List.mem_append_right _ (List.mem_append_right _ (List.mem_append_right _ (List.mem_append_left _ (List.mem_of_getElem? (i := 223) (by decide +kernel)))))) rfl
set_option maxRecDepth 100000 in
theorem m_RX8_71 : Cond.methodLink RX8 71 yX8_goMember ∈ hp_tbl := hp_in (List.mem_append_right _ (List.mem_append_right _ (List.mem_append_right _ (List.mem_append_left _ (List.mem_of_getElem? (i := 227) (by decide +kernel)))))) rfl
set_option maxRecDepth 100000 in
theorem m_RX8_82 : Cond.methodLink RX8 82 yX8_lose ∈ hp_tbl := hp_in (List.mem_append_right _ (List.mem_append_right _ (List.mem_append_right _ (List.mem_append_right _ (List.mem_append_left _ (List.mem_of_getElem? (i := 109) (by decide +kernel))))))) rfl
set_option maxRecDepth 100000 in
theorem m_RX8_90 : Cond.methodLink RX8 90 yX7_placeOf ∈ hp_tbl := hp_in (List.mem_append_right _ (List.mem_append_right _ (List.mem_append_right _ (List.mem_append_left _ (List.mem_of_getElem? (i := 231) (by decide +kernel)))))) rfl
set_option maxRecDepth 100000 in
theorem m_RX8_107 : Cond.methodLink RX8 107 yX1_reckon ∈ hp_tbl := hp_in (List.mem_append_right _ (List.mem_append_right _ (List.mem_append_right _ (List.mem_append_left _ (List.mem_of_getElem? (i := 235) (by decide +kernel)))))) rfl
set_option maxRecDepth 100000 in
theorem m_RX8_113 : Cond.methodLink RX8 113 yX8_canDo ∈ hp_tbl := hp_in (List.mem_append_right _ (List.mem_append_right _ (List.mem_append_right _ (List.mem_append_right _ (List.mem_append_left _ (List.mem_of_getElem? (i := 22) (by decide +kernel))))))) rfl
set_option maxRecDepth 100000 in
theorem m_RX8_117 : Cond.methodLink RX8 117 yX8_goWays ∈ hp_tbl := hp_in (List.mem_append_right _ (List.mem_append_right _ (List.mem_append_right _ (List.mem_append_right _ (List.mem_append_left _ (List.mem_of_getElem? (i := 27) (by decide +kernel))))))) rfl
set_option maxRecDepth 100000 in
theorem m_RX8_135 : Cond.methodLink RX8 135 yX7_held ∈ hp_tbl := hp_in (List.mem_append_right _ (List.mem_append_right _ (List.mem_append_right _ (List.mem_append_right _ (List.mem_append_left _ (List.mem_of_getElem? (i := 26) (by decide +kernel))))))) rfl
set_option maxRecDepth 100000 in
theorem m_RX8_142 : Cond.methodLink RX8 142 yJ7_fill_53178 ∈ hp_tbl := hp_in (List.mem_append_right _ (List.mem_append_right _ (List.mem_append_right _ (List.mem_append_right _ (List.mem_append_left _ (List.mem_of_getElem? (i := 31) (by decide +kernel))))))) rfl
set_option maxRecDepth 100000 in
theorem m_RX8_148 : Cond.methodLink RX8 148 yX7_copy ∈ hp_tbl := hp_in (List.mem_append_right _ (List.mem_append_right _ (List.mem_append_right _ (List.mem_append_right _ (List.mem_append_left _ (List.mem_of_getElem? (i := 32) (by decide +kernel))))))) rfl
set_option maxRecDepth 100000 in
theorem m_RX8_151 : Cond.methodLink RX8 151 yX8_doActs ∈ hp_tbl := hp_in (List.mem_append_right _ (List.mem_append_right _ (List.mem_append_right _ (List.mem_append_right _ (List.mem_append_left _ (List.mem_of_getElem? (i := 37) (by decide +kernel))))))) rfl
set_option maxRecDepth 100000 in
theorem m_RX8_158 : Cond.methodLink RX8 158 yX7_setPlace ∈ hp_tbl := hp_in (List.mem_append_right _ (List.mem_append_right _ (List.mem_append_right _ (List.mem_append_right _ (List.mem_append_left _ (List.mem_of_getElem? (i := 72) (by decide +kernel))))))) rfl
set_option maxRecDepth 100000 in
theorem m_RX8_161 : Cond.methodLink RX8 161 yX8_takeAlike ∈ hp_tbl := hp_in (List.mem_append_right _ (List.mem_append_right _ (List.mem_append_right _ (List.mem_append_right _ (List.mem_append_left _ (List.mem_of_getElem? (i := 77) (by decide +kernel))))))) rfl
set_option maxRecDepth 100000 in
theorem m_RX8_165 : Cond.methodLink RX8 165 yX2_mover ∈ hp_tbl := hp_in (List.mem_append_right _ (List.mem_append_right _ (List.mem_append_right _ (List.mem_append_right _ (List.mem_append_left _ (List.mem_of_getElem? (i := 85) (by decide +kernel))))))) rfl
set_option maxRecDepth 100000 in
theorem m_RX8_169 : Cond.methodLink RX8 169 yX2_addMove ∈ hp_tbl := hp_in (List.mem_append_right _ (List.mem_append_right _ (List.mem_append_right _ (List.mem_append_right _ (List.mem_append_left _ (List.mem_of_getElem? (i := 88) (by decide +kernel))))))) rfl
set_option maxRecDepth 100000 in
theorem m_RX8_173 : Cond.methodLink RX8 173 yX2_noteFault ∈ hp_tbl := hp_in (List.mem_append_right _ (List.mem_append_right _ (List.mem_append_right _ (List.mem_append_right _ (List.mem_append_left _ (List.mem_of_getElem? (i := 92) (by decide +kernel))))))) rfl
set_option maxRecDepth 100000 in
theorem m_RX8_177 : Cond.methodLink RX8 177 yX8_pickNext ∈ hp_tbl := hp_in (List.mem_append_right _ (List.mem_append_right _ (List.mem_append_right _ (List.mem_append_right _ (List.mem_append_left _ (List.mem_of_getElem? (i := 96) (by decide +kernel))))))) rfl
set_option maxRecDepth 100000 in
theorem m_RX8_183 : Cond.methodLink RX8 183 yX8_giveShared ∈ hp_tbl := hp_in (List.mem_append_right _ (List.mem_append_right _ (List.mem_append_right _ (List.mem_append_right _ (List.mem_append_left _ (List.mem_of_getElem? (i := 41) (by decide +kernel))))))) rfl
set_option maxRecDepth 100000 in
theorem m_RX8_187 : Cond.methodLink RX8 187 yX8_giveOwn ∈ hp_tbl := hp_in (List.mem_append_right _ (List.mem_append_right _ (List.mem_append_right _ (List.mem_append_right _ (List.mem_append_left _ (List.mem_of_getElem? (i := 50) (by decide +kernel))))))) rfl
set_option maxRecDepth 100000 in
theorem m_RX8_191 : Cond.methodLink RX8 191 yX8_send ∈ hp_tbl := hp_in (List.mem_append_right _ (List.mem_append_right _ (List.mem_append_right _ (List.mem_append_right _ (List.mem_append_left _ (List.mem_of_getElem? (i := 55) (by decide +kernel))))))) rfl
set_option maxRecDepth 100000 in
theorem m_RX8_194 : Cond.methodLink RX8 194 yX7_take ∈ hp_tbl := hp_in (List.mem_append_right _ (List.mem_append_right _ (List.mem_append_right _ (List.mem_append_right _ (List.mem_append_left _ (List.mem_of_getElem? (i := 64) (by decide +kernel))))))) rfl
set_option maxRecDepth 100000 in
theorem m_RX8_197 : Cond.methodLink RX8 197 yX7_letterAt ∈ hp_tbl := hp_in (List.mem_append_right _ (List.mem_append_right _ (List.mem_append_right _ (List.mem_append_right _ (List.mem_append_left _ (List.mem_of_getElem? (i := 68) (by decide +kernel))))))) rfl
set_option maxRecDepth 100000 in
theorem m_RX8_204 : Cond.methodLink RX8 204 yX10_allows ∈ hp_tbl := hp_in (List.mem_append_right _ (List.mem_append_right _ (List.mem_append_right _ (List.mem_append_right _ (List.mem_append_left _ (List.mem_of_getElem? (i := 45) (by decide +kernel))))))) rfl
set_option maxRecDepth 100000 in
theorem m_RX8_209 : Cond.methodLink RX8 209 yX7_setShared ∈ hp_tbl := hp_in (List.mem_append_right _ (List.mem_append_right _ (List.mem_append_right _ (List.mem_append_right _ (List.mem_append_left _ (List.mem_of_getElem? (i := 49) (by decide +kernel))))))) rfl
set_option maxRecDepth 100000 in
theorem m_RX8_215 : Cond.methodLink RX8 215 yX7_setOwn ∈ hp_tbl := hp_in (List.mem_append_right _ (List.mem_append_right _ (List.mem_append_right _ (List.mem_append_right _ (List.mem_append_left _ (List.mem_of_getElem? (i := 54) (by decide +kernel))))))) rfl
set_option maxRecDepth 100000 in
theorem m_RX8_221 : Cond.methodLink RX8 221 yX7_put ∈ hp_tbl := hp_in (List.mem_append_right _ (List.mem_append_right _ (List.mem_append_right _ (List.mem_append_right _ (List.mem_append_left _ (List.mem_of_getElem? (i := 60) (by decide +kernel))))))) rfl
set_option maxRecDepth 100000 in
theorem m_RX8_227 : Cond.methodLink RX8 227 yX7_nextUnlike ∈ hp_tbl := hp_in (List.mem_append_right _ (List.mem_append_right _ (List.mem_append_right _ (List.mem_append_right _ (List.mem_append_left _ (List.mem_of_getElem? (i := 100) (by decide +kernel))))))) rfl
set_option maxRecDepth 100000 in
theorem m_RX8_233 : Cond.methodLink RX8 233 yX7_arrange ∈ hp_tbl := hp_in (List.mem_append_right _ (List.mem_append_right _ (List.mem_append_right _ (List.mem_append_right _ (List.mem_append_left _ (List.mem_of_getElem? (i := 81) (by decide +kernel))))))) rfl
set_option maxRecDepth 100000 in
theorem m_RX12_156 : Cond.methodLink RX12 156 yX12_in ∈ hp_tbl := hp_in (List.mem_append_right _ (List.mem_append_right _ (List.mem_append_right _ (List.mem_append_right _ (List.mem_append_right _ (List.mem_append_right _ (List.mem_append_left _ (List.mem_of_getElem? (i := 93) (by decide +kernel))))))))) rfl
set_option maxRecDepth 100000 in
theorem m_RX12_174 : Cond.methodLink RX12 174 yX12_isValue ∈ hp_tbl := hp_in (List.mem_append_right _ (List.mem_append_right _ (List.mem_append_right _ (List.mem_append_right _ (List.mem_append_right _ (List.mem_append_right _ (List.mem_append_left _ (List.mem_of_getElem? (i := 90) (by decide +kernel))))))))) rfl
set_option maxRecDepth 100000 in
theorem m_RX12_180 : Cond.methodLink RX12 180 yX12_over ∈ hp_tbl := hp_in (List.mem_append_right _ (List.mem_append_right _ (List.mem_append_right _ (List.mem_append_right _ (List.mem_append_right _ (List.mem_append_right _ (List.mem_append_left _ (List.mem_of_getElem? (i := 96) (by decide +kernel))))))))) rfl
set_option maxRecDepth 100000 in
theorem m_RX12_186 : Cond.methodLink RX12 186 yX12_isRole ∈ hp_tbl := hp_in (List.mem_append_right _ (List.mem_append_right _ (List.mem_append_right _ (List.mem_append_right _ (List.mem_append_right _ (List.mem_append_right _ (List.mem_append_left _ (List.mem_of_getElem? (i := 108) (by decide +kernel))))))))) rfl
set_option maxRecDepth 100000 in
theorem m_RX12_196 : Cond.methodLink RX12 196 yX12_isChannel ∈ hp_tbl := hp_in (List.mem_append_right _ (List.mem_append_right _ (List.mem_append_right _ (List.mem_append_right _ (List.mem_append_right _ (List.mem_append_right _ (List.mem_append_left _ (List.mem_of_getElem? (i := 128) (by decide +kernel))))))))) rfl
set_option maxRecDepth 100000 in
theorem m_RX12_199 : Cond.methodLink RX12 199 yX12_isExpr ∈ hp_tbl := hp_in (List.mem_append_right _ (List.mem_append_right _ (List.mem_append_right _ (List.mem_append_right _ (List.mem_append_right _ (List.mem_append_right _ (List.mem_append_left _ (List.mem_of_getElem? (i := 132) (by decide +kernel))))))))) rfl
set_option maxRecDepth 100000 in
theorem m_RX12_202 : Cond.methodLink RX12 202 yX12_isThere ∈ hp_tbl := hp_in (List.mem_append_right _ (List.mem_append_right _ (List.mem_append_right _ (List.mem_append_right _ (List.mem_append_right _ (List.mem_append_right _ (List.mem_append_left _ (List.mem_of_getElem? (i := 124) (by decide +kernel))))))))) rfl
set_option maxRecDepth 100000 in
theorem m_RX12_212 : Cond.methodLink RX12 212 yX12_memberAt ∈ hp_tbl := hp_in (List.mem_append_right _ (List.mem_append_right _ (List.mem_append_right _ (List.mem_append_right _ (List.mem_append_right _ (List.mem_append_right _ (List.mem_append_left _ (List.mem_of_getElem? (i := 164) (by decide +kernel))))))))) rfl
set_option maxRecDepth 100000 in
theorem m_RX12_216 : Cond.methodLink RX12 216 yX12_cell ∈ hp_tbl := hp_in (List.mem_append_right _ (List.mem_append_right _ (List.mem_append_right _ (List.mem_append_right _ (List.mem_append_right _ (List.mem_append_right _ (List.mem_append_left _ (List.mem_of_getElem? (i := 175) (by decide +kernel))))))))) rfl
set_option maxRecDepth 100000 in
theorem m_RX12_219 : Cond.methodLink RX12 219 yX12_many ∈ hp_tbl := hp_in (List.mem_append_right _ (List.mem_append_right _ (List.mem_append_right _ (List.mem_append_right _ (List.mem_append_right _ (List.mem_append_right _ (List.mem_append_left _ (List.mem_of_getElem? (i := 179) (by decide +kernel))))))))) rfl
set_option maxRecDepth 100000 in
theorem m_RX12_223 : Cond.methodLink RX12 223 yX12_channelAt ∈ hp_tbl := hp_in (List.mem_append_right _ (List.mem_append_right _ (List.mem_append_right _ (List.mem_append_right _ (List.mem_append_right _ (List.mem_append_right _ (List.mem_append_left _ (List.mem_of_getElem? (i := 183) (by decide +kernel))))))))) rfl
set_option maxRecDepth 100000 in
theorem m_RX12_227 : Cond.methodLink RX12 227 yX12_isBehind ∈ hp_tbl := hp_in (List.mem_append_right _ (List.mem_append_right _ (List.mem_append_right _ (List.mem_append_right _ (List.mem_append_right _ (List.mem_append_right _ (List.mem_append_left _ (List.mem_of_getElem? (i := 214) (by decide +kernel))))))))) rfl
set_option maxRecDepth 100000 in
theorem m_RX12_230 : Cond.methodLink RX12 230 yX12_order ∈ hp_tbl := hp_in (List.mem_append_right _ (List.mem_append_right _ (List.mem_append_right _ (List.mem_append_right _ (List.mem_append_right _ (List.mem_append_right _ (List.mem_append_left _ (List.mem_of_getElem? (i := 210) (by decide +kernel))))))))) rfl
set_option maxRecDepth 100000 in
theorem m_RX12_233 : Cond.methodLink RX12 233 yX12_placeOf ∈ hp_tbl := hp_in (List.mem_append_right _ (List.mem_append_right _ (List.mem_append_right _ (List.mem_append_right _ (List.mem_append_right _ (List.mem_append_right _ (List.mem_append_left _ (List.mem_of_getElem? (i := 218) (by decide +kernel))))))))) rfl
set_option maxRecDepth 100000 in
theorem m_RX12_237 : Cond.methodLink RX12 237 yX12_isFirst ∈ hp_tbl := hp_in (List.mem_append_right _ (List.mem_append_right _ (List.mem_append_right _ (List.mem_append_right _ (List.mem_append_right _ (List.mem_append_right _ (List.mem_append_left _ (List.mem_of_getElem? (i := 234) (by decide +kernel))))))))) rfl
set_option maxRecDepth 100000 in
theorem m_RX12_240 : Cond.methodLink RX12 240 yX12_nextChoice ∈ hp_tbl := hp_in (List.mem_append_right _ (List.mem_append_right _ (List.mem_append_right _ (List.mem_append_right _ (List.mem_append_right _ (List.mem_append_right _ (List.mem_append_left _ (List.mem_of_getElem? (i := 230) (by decide +kernel))))))))) rfl
set_option maxRecDepth 100000 in
theorem m_RX12_243 : Cond.methodLink RX12 243 yX12_letterGoes ∈ hp_tbl := hp_in (List.mem_append_right _ (List.mem_append_right _ (List.mem_append_right _ (List.mem_append_right _ (List.mem_append_right _ (List.mem_append_right _ (List.mem_append_left _ (List.mem_of_getElem? (i := 202) (by decide +kernel))))))))) rfl
set_option maxRecDepth 100000 in
theorem m_RX12_262 : Cond.methodLink RX12 262 yX12_take ∈ hp_tbl := hp_in (List.mem_append_right _ (List.mem_append_right _ (List.mem_append_right _ (List.mem_append_right _ (List.mem_append_right _ (List.mem_append_right _ (List.mem_append_left _ (List.mem_of_getElem? (i := 194) (by decide +kernel))))))))) rfl
set_option maxRecDepth 100000 in
theorem m_RX12_266 : Cond.methodLink RX12 266 yX12_isDone ∈ hp_tbl := hp_in (List.mem_append_right _ (List.mem_append_right _ (List.mem_append_right _ (List.mem_append_right _ (List.mem_append_right _ (List.mem_append_right _ (List.mem_append_left _ (List.mem_of_getElem? (i := 198) (by decide +kernel))))))))) rfl
set_option maxRecDepth 100000 in
theorem m_RX12_269 : Cond.methodLink RX12 269 yX12_comes ∈ hp_tbl := hp_in (List.mem_append_right _ (List.mem_append_right _ (List.mem_append_right _ (List.mem_append_right _ (List.mem_append_right _ (List.mem_append_right _ (List.mem_append_left _ (List.mem_of_getElem? (i := 206) (by decide +kernel))))))))) rfl
set_option maxRecDepth 100000 in
theorem m_RX12_272 : Cond.methodLink RX12 272 yX12_fault ∈ hp_tbl := hp_in (List.mem_append_right _ (List.mem_append_right _ (List.mem_append_right _ (List.mem_append_right _ (List.mem_append_right _ (List.mem_append_right _ (List.mem_append_left _ (List.mem_of_getElem? (i := 222) (by decide +kernel))))))))) rfl
set_option maxRecDepth 100000 in
theorem m_RX12_276 : Cond.methodLink RX12 276 yX12_hasNextWay ∈ hp_tbl := hp_in (List.mem_append_right _ (List.mem_append_right _ (List.mem_append_right _ (List.mem_append_right _ (List.mem_append_right _ (List.mem_append_right _ (List.mem_append_left _ (List.mem_of_getElem? (i := 226) (by decide +kernel))))))))) rfl
set_option maxRecDepth 100000 in
theorem m_RX12_280 : Cond.methodLink RX12 280 yX12_reckon ∈ hp_tbl := hp_in (List.mem_append_right _ (List.mem_append_right _ (List.mem_append_right _ (List.mem_append_right _ (List.mem_append_right _ (List.mem_append_right _ (List.mem_append_left _ (List.mem_of_getElem? (i := 171) (by decide +kernel))))))))) rfl
set_option maxRecDepth 100000 in
theorem m_RX12_284 : Cond.methodLink RX12 284 yX12_can ∈ hp_tbl := hp_in (List.mem_append_right _ (List.mem_append_right _ (List.mem_append_right _ (List.mem_append_right _ (List.mem_append_right _ (List.mem_append_right _ (List.mem_append_left _ (List.mem_of_getElem? (i := 186) (by decide +kernel))))))))) rfl
set_option maxRecDepth 100000 in
theorem m_RX12_287 : Cond.methodLink RX12 287 yX12_goWays ∈ hp_tbl := hp_in (List.mem_append_right _ (List.mem_append_right _ (List.mem_append_right _ (List.mem_append_right _ (List.mem_append_right _ (List.mem_append_right _ (List.mem_append_left _ (List.mem_of_getElem? (i := 190) (by decide +kernel))))))))) rfl
set_option maxRecDepth 100000 in
theorem m_RX12_290 : Cond.methodLink RX12 290 yX12_use ∈ hp_tbl := hp_in (List.mem_append_right _ (List.mem_append_right _ (List.mem_append_right _ (List.mem_append_right _ (List.mem_append_right _ (List.mem_append_right _ (List.mem_append_left _ (List.mem_of_getElem? (i := 160) (by decide +kernel))))))))) rfl
set_option maxRecDepth 100000 in
theorem m_RX12_293 : Cond.methodLink RX12 293 yX12_isFit ∈ hp_tbl := hp_in (List.mem_append_right _ (List.mem_append_right _ (List.mem_append_right _ (List.mem_append_right _ (List.mem_append_right _ (List.mem_append_right _ (List.mem_append_left _ (List.mem_of_getElem? (i := 156) (by decide +kernel))))))))) rfl
set_option maxRecDepth 100000 in
theorem m_RX12_296 : Cond.methodLink RX12 296 yX12_maySearch ∈ hp_tbl := hp_in (List.mem_append_right _ (List.mem_append_right _ (List.mem_append_right _ (List.mem_append_right _ (List.mem_append_right _ (List.mem_append_right _ (List.mem_append_left _ (List.mem_of_getElem? (i := 152) (by decide +kernel))))))))) rfl
set_option maxRecDepth 100000 in
theorem m_RX12_300 : Cond.methodLink RX12 300 yX12_goThrough ∈ hp_tbl := hp_in (List.mem_append_right _ (List.mem_append_right _ (List.mem_append_right _ (List.mem_append_right _ (List.mem_append_right _ (List.mem_append_right _ (List.mem_append_left _ (List.mem_of_getElem? (i := 167) (by decide +kernel))))))))) rfl
set_option maxRecDepth 100000 in
theorem m_RX12_303 : Cond.methodLink RX12 303 yX12_hasStates ∈ hp_tbl := hp_in (List.mem_append_right _ (List.mem_append_right _ (List.mem_append_right _ (List.mem_append_right _ (List.mem_append_right _ (List.mem_append_right _ (List.mem_append_right _ (List.mem_of_getElem? (i := 2) (by decide +kernel))))))))) rfl
set_option maxRecDepth 100000 in
theorem m_RX12_306 : Cond.methodLink RX12 306 yX12_isState ∈ hp_tbl := hp_in (List.mem_append_right _ (List.mem_append_right _ (List.mem_append_right _ (List.mem_append_right _ (List.mem_append_right _ (List.mem_append_right _ (List.mem_append_right _ (List.mem_of_getElem? (i := 6) (by decide +kernel))))))))) rfl
set_option maxRecDepth 100000 in
theorem m_RX12_310 : Cond.methodLink RX12 310 yX12_isMember ∈ hp_tbl := hp_in (List.mem_append_right _ (List.mem_append_right _ (List.mem_append_right _ (List.mem_append_right _ (List.mem_append_right _ (List.mem_append_right _ (List.mem_append_right _ (List.mem_of_getElem? (i := 15) (by decide +kernel))))))))) rfl
set_option maxRecDepth 100000 in
theorem m_RX12_313 : Cond.methodLink RX12 313 yX12_movesOf ∈ hp_tbl := hp_in (List.mem_append_right _ (List.mem_append_right _ (List.mem_append_right _ (List.mem_append_right _ (List.mem_append_right _ (List.mem_append_right _ (List.mem_append_right _ (List.mem_of_getElem? (i := 31) (by decide +kernel))))))))) rfl
set_option maxRecDepth 100000 in
theorem m_RX12_316 : Cond.methodLink RX12 316 yX12_isStuck ∈ hp_tbl := hp_in (List.mem_append_right _ (List.mem_append_right _ (List.mem_append_right _ (List.mem_append_right _ (List.mem_append_right _ (List.mem_append_right _ (List.mem_append_right _ (List.mem_of_getElem? (i := 51) (by decide +kernel))))))))) rfl
set_option maxRecDepth 100000 in
theorem m_RX12_319 : Cond.methodLink RX12 319 yX12_hasTurn ∈ hp_tbl := hp_in (List.mem_append_right _ (List.mem_append_right _ (List.mem_append_right _ (List.mem_append_right _ (List.mem_append_right _ (List.mem_append_right _ (List.mem_append_right _ (List.mem_of_getElem? (i := 91) (by decide +kernel))))))))) rfl
set_option maxRecDepth 100000 in
theorem m_RX12_322 : Cond.methodLink RX12 322 yX12_goAhead ∈ hp_tbl := hp_in (List.mem_append_right _ (List.mem_append_right _ (List.mem_append_right _ (List.mem_append_right _ (List.mem_append_right _ (List.mem_append_right _ (List.mem_append_right _ (List.mem_of_getElem? (i := 75) (by decide +kernel))))))))) rfl
set_option maxRecDepth 100000 in
theorem m_RX12_326 : Cond.methodLink RX12 326 yX12_goBack ∈ hp_tbl := hp_in (List.mem_append_right _ (List.mem_append_right _ (List.mem_append_right _ (List.mem_append_right _ (List.mem_append_right _ (List.mem_append_right _ (List.mem_append_right _ (List.mem_of_getElem? (i := 79) (by decide +kernel))))))))) rfl
set_option maxRecDepth 100000 in
theorem m_RX12_329 : Cond.methodLink RX12 329 yX12_hasMove ∈ hp_tbl := hp_in (List.mem_append_right _ (List.mem_append_right _ (List.mem_append_right _ (List.mem_append_right _ (List.mem_append_right _ (List.mem_append_right _ (List.mem_append_right _ (List.mem_of_getElem? (i := 83) (by decide +kernel))))))))) rfl
set_option maxRecDepth 100000 in
theorem m_RX12_332 : Cond.methodLink RX12 332 yX12_isFair ∈ hp_tbl := hp_in (List.mem_append_right _ (List.mem_append_right _ (List.mem_append_right _ (List.mem_append_right _ (List.mem_append_right _ (List.mem_append_right _ (List.mem_append_right _ (List.mem_of_getElem? (i := 87) (by decide +kernel))))))))) rfl
set_option maxRecDepth 100000 in
theorem m_RX12_335 : Cond.methodLink RX12 335 yX12_takeWhereNot ∈ hp_tbl := hp_in (List.mem_append_right _ (List.mem_append_right _ (List.mem_append_right _ (List.mem_append_right _ (List.mem_append_right _ (List.mem_append_right _ (List.mem_append_right _ (List.mem_of_getElem? (i := 67) (by decide +kernel))))))))) rfl
set_option maxRecDepth 100000 in
theorem m_RX12_338 : Cond.methodLink RX12 338 yX12_findKnots ∈ hp_tbl := hp_in (List.mem_append_right _ (List.mem_append_right _ (List.mem_append_right _ (List.mem_append_right _ (List.mem_append_right _ (List.mem_append_right _ (List.mem_append_right _ (List.mem_of_getElem? (i := 71) (by decide +kernel))))))))) rfl
set_option maxRecDepth 100000 in
theorem m_RX12_345 : Cond.methodLink RX12 345 yX12_isSeenAlike ∈ hp_tbl := hp_in (List.mem_append_right _ (List.mem_append_right _ (List.mem_append_right _ (List.mem_append_right _ (List.mem_append_right _ (List.mem_append_right _ (List.mem_append_right _ (List.mem_of_getElem? (i := 111) (by decide +kernel))))))))) rfl
set_option maxRecDepth 100000 in
theorem m_RX12_348 : Cond.methodLink RX12 348 yX12_findSigns ∈ hp_tbl := hp_in (List.mem_append_right _ (List.mem_append_right _ (List.mem_append_right _ (List.mem_append_right _ (List.mem_append_right _ (List.mem_append_right _ (List.mem_append_right _ (List.mem_of_getElem? (i := 115) (by decide +kernel))))))))) rfl
set_option maxRecDepth 100000 in
theorem m_RX12_351 : Cond.methodLink RX12 351 yX12_hasSameSigns ∈ hp_tbl := hp_in (List.mem_append_right _ (List.mem_append_right _ (List.mem_append_right _ (List.mem_append_right _ (List.mem_append_right _ (List.mem_append_right _ (List.mem_append_right _ (List.mem_of_getElem? (i := 119) (by decide +kernel))))))))) rfl
set_option maxRecDepth 100000 in
theorem m_RX12_354 : Cond.methodLink RX12 354 yX12_divide ∈ hp_tbl := hp_in (List.mem_append_right _ (List.mem_append_right _ (List.mem_append_right _ (List.mem_append_right _ (List.mem_append_right _ (List.mem_append_right _ (List.mem_append_right _ (List.mem_of_getElem? (i := 107) (by decide +kernel))))))))) rfl
set_option maxRecDepth 100000 in
theorem m_RJ7_13 : Cond.methodLink RJ7 13 yJ7_rangeCheck_23922 ∈ hp_tbl := hp_in (List.mem_append_right _ (List.mem_append_right _ (List.mem_append_right _ (List.mem_append_right _ (List.mem_append_right _ (List.mem_append_left _ (List.mem_of_getElem? (i := 115) (by decide +kernel)))))))) rfl
set_option maxRecDepth 100000 in
theorem m_RX8_218 : (RX8, 218, yX11_isDigit, "ProtocolBench") ∈ hp_nst := by decide +kernel
set_option maxRecDepth 100000 in
theorem fl_RX0_11 : Cond.fieldLink RX0 11 "ProtocolBench$Division" "partOf" "[I" ∈ hp_tbl := hp_in (List.mem_append_right _ (List.mem_append_right _ (List.mem_append_left _ (List.mem_of_getElem? (i := 184) (by decide +kernel))))) rfl
set_option maxRecDepth 100000 in
theorem g_RX0_11 : hp_Fg RX0 11 0 2 := ⟨_, _, _, _, vcl_0, in_0, by decide, rfl, fl_RX0_11⟩
set_option maxRecDepth 100000 in
theorem p_RX0_11 : hp_Fp RX0 11 0 2 (.array .int) := ⟨_, _, _, _, tyX0, vcl_0, in_0, by decide, rfl, fl_RX0_11, tyX0_ok, nmX0, rfl, rfl⟩
set_option maxRecDepth 100000 in
theorem fl_RX0_15 : Cond.fieldLink RX0 15 "ProtocolBench$Division" "observedExpr" "[I" ∈ hp_tbl := hp_in (List.mem_append_right _ (List.mem_append_right _ (List.mem_append_left _ (List.mem_of_getElem? (i := 188) (by decide +kernel))))) rfl
set_option maxRecDepth 100000 in
theorem g_RX0_15 : hp_Fg RX0 15 0 5 := ⟨_, _, _, _, vcl_0, in_0, by decide, rfl, fl_RX0_15⟩
set_option maxRecDepth 100000 in
theorem fl_RX0_18 : Cond.fieldLink RX0 18 "ProtocolBench$Division" "keys" "[I" ∈ hp_tbl := hp_in (List.mem_append_right _ (List.mem_append_right _ (List.mem_append_left _ (List.mem_of_getElem? (i := 189) (by decide +kernel))))) rfl
set_option maxRecDepth 100000 in
theorem g_RX0_18 : hp_Fg RX0 18 0 6 := ⟨_, _, _, _, vcl_0, in_0, by decide, rfl, fl_RX0_18⟩
set_option maxRecDepth 100000 in
theorem fl_RX0_21 : Cond.fieldLink RX0 21 "ProtocolBench$Division" "newPartOf" "[I" ∈ hp_tbl := hp_in (List.mem_append_right _ (List.mem_append_right _ (List.mem_append_left _ (List.mem_of_getElem? (i := 190) (by decide +kernel))))) rfl
set_option maxRecDepth 100000 in
theorem g_RX0_21 : hp_Fg RX0 21 0 7 := ⟨_, _, _, _, vcl_0, in_0, by decide, rfl, fl_RX0_21⟩
set_option maxRecDepth 100000 in
theorem p_RX0_21 : hp_Fp RX0 21 0 7 (.array .int) := ⟨_, _, _, _, tyX0, vcl_0, in_0, by decide, rfl, fl_RX0_21, tyX0_ok, nmX0, rfl, rfl⟩
set_option maxRecDepth 100000 in
theorem fl_RX0_24 : Cond.fieldLink RX0 24 "ProtocolBench$Division" "firstNew" "[I" ∈ hp_tbl := hp_in (List.mem_append_right _ (List.mem_append_right _ (List.mem_append_left _ (List.mem_of_getElem? (i := 191) (by decide +kernel))))) rfl
set_option maxRecDepth 100000 in
theorem g_RX0_24 : hp_Fg RX0 24 0 8 := ⟨_, _, _, _, vcl_0, in_0, by decide, rfl, fl_RX0_24⟩
set_option maxRecDepth 100000 in
theorem fl_RX0_27 : Cond.fieldLink RX0 27 "ProtocolBench$Division" "nextNew" "[I" ∈ hp_tbl := hp_in (List.mem_append_right _ (List.mem_append_right _ (List.mem_append_left _ (List.mem_of_getElem? (i := 192) (by decide +kernel))))) rfl
set_option maxRecDepth 100000 in
theorem g_RX0_27 : hp_Fg RX0 27 0 9 := ⟨_, _, _, _, vcl_0, in_0, by decide, rfl, fl_RX0_27⟩
set_option maxRecDepth 100000 in
theorem fl_RX0_30 : Cond.fieldLink RX0 30 "ProtocolBench$Division" "leastState" "[I" ∈ hp_tbl := hp_in (List.mem_append_right _ (List.mem_append_right _ (List.mem_append_left _ (List.mem_of_getElem? (i := 193) (by decide +kernel))))) rfl
set_option maxRecDepth 100000 in
theorem g_RX0_30 : hp_Fg RX0 30 0 10 := ⟨_, _, _, _, vcl_0, in_0, by decide, rfl, fl_RX0_30⟩
set_option maxRecDepth 100000 in
theorem fl_RX0_33 : Cond.fieldLink RX0 33 "ProtocolBench$Division" "graph" "LProtocolBench$Graph;" ∈ hp_tbl := hp_in (List.mem_append_right _ (List.mem_append_right _ (List.mem_append_left _ (List.mem_of_getElem? (i := 186) (by decide +kernel))))) rfl
set_option maxRecDepth 100000 in
theorem g_RX0_33 : hp_Fg RX0 33 0 3 := ⟨_, _, _, _, vcl_0, in_0, by decide, rfl, fl_RX0_33⟩
set_option maxRecDepth 100000 in
theorem fl_RX0_37 : Cond.fieldLink RX0 37 "ProtocolBench$Division" "reckoner" "LProtocolBench$Reckoner;" ∈ hp_tbl := hp_in (List.mem_append_right _ (List.mem_append_right _ (List.mem_append_left _ (List.mem_of_getElem? (i := 187) (by decide +kernel))))) rfl
set_option maxRecDepth 100000 in
theorem g_RX0_37 : hp_Fg RX0 37 0 4 := ⟨_, _, _, _, vcl_0, in_0, by decide, rfl, fl_RX0_37⟩
set_option maxRecDepth 100000 in
theorem fl_RX0_41 : Cond.fieldLink RX0 41 "ProtocolBench$Division" "observed" "I" ∈ hp_tbl := hp_in (List.mem_append_right _ (List.mem_append_right _ (List.mem_append_left _ (List.mem_of_getElem? (i := 180) (by decide +kernel))))) rfl
set_option maxRecDepth 100000 in
theorem g_RX0_41 : hp_Fg RX0 41 0 0 := ⟨_, _, _, _, vcl_0, in_0, by decide, rfl, fl_RX0_41⟩
set_option maxRecDepth 100000 in
theorem p_RX0_41 : hp_Fp RX0 41 0 0 .int := ⟨_, _, _, _, tyX0, vcl_0, in_0, by decide, rfl, fl_RX0_41, tyX0_ok, nmX0, rfl, rfl⟩
set_option maxRecDepth 100000 in
theorem fl_RX0_45 : Cond.fieldLink RX0 45 "ProtocolBench$Division" "isMade" "Z" ∈ hp_tbl := hp_in (List.mem_append_right _ (List.mem_append_right _ (List.mem_append_left _ (List.mem_of_getElem? (i := 194) (by decide +kernel))))) rfl
set_option maxRecDepth 100000 in
theorem g_RX0_45 : hp_Fg RX0 45 0 11 := ⟨_, _, _, _, vcl_0, in_0, by decide, rfl, fl_RX0_45⟩
set_option maxRecDepth 100000 in
theorem p_RX0_45 : hp_Fp RX0 45 0 11 .boolean := ⟨_, _, _, _, tyX0, vcl_0, in_0, by decide, rfl, fl_RX0_45, tyX0_ok, nmX0, rfl, rfl⟩
set_option maxRecDepth 100000 in
theorem fl_RX0_55 : Cond.fieldLink RX0 55 "ProtocolBench$Division" "parts" "I" ∈ hp_tbl := hp_in (List.mem_append_right _ (List.mem_append_right _ (List.mem_append_left _ (List.mem_of_getElem? (i := 182) (by decide +kernel))))) rfl
set_option maxRecDepth 100000 in
theorem g_RX0_55 : hp_Fg RX0 55 0 1 := ⟨_, _, _, _, vcl_0, in_0, by decide, rfl, fl_RX0_55⟩
set_option maxRecDepth 100000 in
theorem p_RX0_55 : hp_Fp RX0 55 0 1 .int := ⟨_, _, _, _, tyX0, vcl_0, in_0, by decide, rfl, fl_RX0_55, tyX0_ok, nmX0, rfl, rfl⟩
set_option maxRecDepth 100000 in
theorem fl_RX0_76 : Cond.fieldLink RX0 76 "ProtocolBench$Graph" "states" "I" ∈ hp_tbl := hp_in (List.mem_append_right _ (List.mem_append_left _ (List.mem_of_getElem? (i := 233) (by decide +kernel)))) rfl
set_option maxRecDepth 100000 in
theorem g_RX0_76 : hp_Fg RX0 76 2 2 := ⟨_, _, _, _, vcl_2, in_2, by decide, rfl, fl_RX0_76⟩
set_option maxRecDepth 100000 in
theorem fl_RX0_91 : Cond.fieldLink RX0 91 "ProtocolBench$Graph" "firstMove" "[I" ∈ hp_tbl := hp_in (List.mem_append_right _ (List.mem_append_right _ (List.mem_append_left _ (List.mem_of_getElem? (i := 8) (by decide +kernel))))) rfl
set_option maxRecDepth 100000 in
theorem g_RX0_91 : hp_Fg RX0 91 2 8 := ⟨_, _, _, _, vcl_2, in_2, by decide, rfl, fl_RX0_91⟩
set_option maxRecDepth 100000 in
theorem fl_RX0_94 : Cond.fieldLink RX0 94 "ProtocolBench$Graph" "moveTo" "[I" ∈ hp_tbl := hp_in (List.mem_append_right _ (List.mem_append_right _ (List.mem_append_left _ (List.mem_of_getElem? (i := 12) (by decide +kernel))))) rfl
set_option maxRecDepth 100000 in
theorem g_RX0_94 : hp_Fg RX0 94 2 9 := ⟨_, _, _, _, vcl_2, in_2, by decide, rfl, fl_RX0_94⟩
set_option maxRecDepth 100000 in
theorem fl_RX1_9 : Cond.fieldLink RX1 9 "ProtocolBench$Exprs" "value" "[I" ∈ hp_tbl := hp_in (List.mem_append_right _ (List.mem_append_left _ (List.mem_of_getElem? (i := 84) (by decide +kernel)))) rfl
set_option maxRecDepth 100000 in
theorem g_RX1_9 : hp_Fg RX1 9 1 0 := ⟨_, _, _, _, vcl_1, in_1, by decide, rfl, fl_RX1_9⟩
set_option maxRecDepth 100000 in
theorem fl_RX1_15 : Cond.fieldLink RX1 15 "ProtocolBench$Exprs" "kinds" "[I" ∈ hp_tbl := hp_in (List.mem_append_right _ (List.mem_append_left _ (List.mem_of_getElem? (i := 90) (by decide +kernel)))) rfl
set_option maxRecDepth 100000 in
theorem g_RX1_15 : hp_Fg RX1 15 1 3 := ⟨_, _, _, _, vcl_1, in_1, by decide, rfl, fl_RX1_15⟩
set_option maxRecDepth 100000 in
theorem fl_RX1_18 : Cond.fieldLink RX1 18 "ProtocolBench$Exprs" "a" "[I" ∈ hp_tbl := hp_in (List.mem_append_right _ (List.mem_append_left _ (List.mem_of_getElem? (i := 91) (by decide +kernel)))) rfl
set_option maxRecDepth 100000 in
theorem g_RX1_18 : hp_Fg RX1 18 1 4 := ⟨_, _, _, _, vcl_1, in_1, by decide, rfl, fl_RX1_18⟩
set_option maxRecDepth 100000 in
theorem fl_RX1_21 : Cond.fieldLink RX1 21 "ProtocolBench$Exprs" "b" "[I" ∈ hp_tbl := hp_in (List.mem_append_right _ (List.mem_append_left _ (List.mem_of_getElem? (i := 92) (by decide +kernel)))) rfl
set_option maxRecDepth 100000 in
theorem g_RX1_21 : hp_Fg RX1 21 1 5 := ⟨_, _, _, _, vcl_1, in_1, by decide, rfl, fl_RX1_21⟩
set_option maxRecDepth 100000 in
theorem fl_RX1_24 : Cond.fieldLink RX1 24 "ProtocolBench$Exprs" "c" "[I" ∈ hp_tbl := hp_in (List.mem_append_right _ (List.mem_append_left _ (List.mem_of_getElem? (i := 93) (by decide +kernel)))) rfl
set_option maxRecDepth 100000 in
theorem g_RX1_24 : hp_Fg RX1 24 1 6 := ⟨_, _, _, _, vcl_1, in_1, by decide, rfl, fl_RX1_24⟩
set_option maxRecDepth 100000 in
theorem fl_RX1_27 : Cond.fieldLink RX1 27 "ProtocolBench$Exprs" "uses" "[I" ∈ hp_tbl := hp_in (List.mem_append_right _ (List.mem_append_left _ (List.mem_of_getElem? (i := 94) (by decide +kernel)))) rfl
set_option maxRecDepth 100000 in
theorem g_RX1_27 : hp_Fg RX1 27 1 7 := ⟨_, _, _, _, vcl_1, in_1, by decide, rfl, fl_RX1_27⟩
set_option maxRecDepth 100000 in
theorem fl_RX1_30 : Cond.fieldLink RX1 30 "ProtocolBench$Exprs" "ofMember" "[Z" ∈ hp_tbl := hp_in (List.mem_append_right _ (List.mem_append_left _ (List.mem_of_getElem? (i := 95) (by decide +kernel)))) rfl
set_option maxRecDepth 100000 in
theorem g_RX1_30 : hp_Fg RX1 30 1 8 := ⟨_, _, _, _, vcl_1, in_1, by decide, rfl, fl_RX1_30⟩
set_option maxRecDepth 100000 in
theorem fl_RX1_34 : Cond.fieldLink RX1 34 "ProtocolBench$Exprs" "roles" "LProtocolBench$Roles;" ∈ hp_tbl := hp_in (List.mem_append_right _ (List.mem_append_left _ (List.mem_of_getElem? (i := 89) (by decide +kernel)))) rfl
set_option maxRecDepth 100000 in
theorem g_RX1_34 : hp_Fg RX1 34 1 2 := ⟨_, _, _, _, vcl_1, in_1, by decide, rfl, fl_RX1_34⟩
set_option maxRecDepth 100000 in
theorem fl_RX1_38 : Cond.fieldLink RX1 38 "ProtocolBench$Exprs" "told" "I" ∈ hp_tbl := hp_in (List.mem_append_right _ (List.mem_append_left _ (List.mem_of_getElem? (i := 87) (by decide +kernel)))) rfl
set_option maxRecDepth 100000 in
theorem g_RX1_38 : hp_Fg RX1 38 1 1 := ⟨_, _, _, _, vcl_1, in_1, by decide, rfl, fl_RX1_38⟩
set_option maxRecDepth 100000 in
theorem p_RX1_38 : hp_Fp RX1 38 1 1 .int := ⟨_, _, _, _, tyX1, vcl_1, in_1, by decide, rfl, fl_RX1_38, tyX1_ok, nmX1, rfl, rfl⟩
set_option maxRecDepth 100000 in
theorem fl_RX1_42 : Cond.fieldLink RX1 42 "ProtocolBench$Exprs" "namesMembers" "Z" ∈ hp_tbl := hp_in (List.mem_append_right _ (List.mem_append_left _ (List.mem_of_getElem? (i := 96) (by decide +kernel)))) rfl
set_option maxRecDepth 100000 in
theorem g_RX1_42 : hp_Fg RX1 42 1 9 := ⟨_, _, _, _, vcl_1, in_1, by decide, rfl, fl_RX1_42⟩
set_option maxRecDepth 100000 in
theorem p_RX1_42 : hp_Fp RX1 42 1 9 .boolean := ⟨_, _, _, _, tyX1, vcl_1, in_1, by decide, rfl, fl_RX1_42, tyX1_ok, nmX1, rfl, rfl⟩
set_option maxRecDepth 100000 in
theorem fl_RX1_70 : Cond.fieldLink RX1 70 "ProtocolBench$Roles" "members" "[I" ∈ hp_tbl := hp_in (List.mem_append_right _ (List.mem_append_left _ (List.mem_of_getElem? (i := 65) (by decide +kernel)))) rfl
set_option maxRecDepth 100000 in
theorem g_RX1_70 : hp_Fg RX1 70 6 0 := ⟨_, _, _, _, vcl_6, in_6, by decide, rfl, fl_RX1_70⟩
set_option maxRecDepth 100000 in
theorem fl_RX10_9 : Cond.fieldLink RX10 9 "ProtocolBench$Variables" "most" "I" ∈ hp_tbl := hp_in (List.mem_append_right _ (List.mem_append_left _ (List.mem_of_getElem? (i := 40) (by decide +kernel)))) rfl
set_option maxRecDepth 100000 in
theorem g_RX10_9 : hp_Fg RX10 9 10 1 := ⟨_, _, _, _, vcl_10, in_10, by decide, rfl, fl_RX10_9⟩
set_option maxRecDepth 100000 in
theorem fl_RX10_15 : Cond.fieldLink RX10 15 "ProtocolBench$Variables" "told" "[I" ∈ hp_tbl := hp_in (List.mem_append_right _ (List.mem_append_left _ (List.mem_of_getElem? (i := 37) (by decide +kernel)))) rfl
set_option maxRecDepth 100000 in
theorem g_RX10_15 : hp_Fg RX10 15 10 0 := ⟨_, _, _, _, vcl_10, in_10, by decide, rfl, fl_RX10_15⟩
set_option maxRecDepth 100000 in
theorem fl_RX10_19 : Cond.fieldLink RX10 19 "ProtocolBench$Variables" "low" "[I" ∈ hp_tbl := hp_in (List.mem_append_right _ (List.mem_append_left _ (List.mem_of_getElem? (i := 41) (by decide +kernel)))) rfl
set_option maxRecDepth 100000 in
theorem g_RX10_19 : hp_Fg RX10 19 10 2 := ⟨_, _, _, _, vcl_10, in_10, by decide, rfl, fl_RX10_19⟩
set_option maxRecDepth 100000 in
theorem fl_RX10_22 : Cond.fieldLink RX10 22 "ProtocolBench$Variables" "high" "[I" ∈ hp_tbl := hp_in (List.mem_append_right _ (List.mem_append_left _ (List.mem_of_getElem? (i := 42) (by decide +kernel)))) rfl
set_option maxRecDepth 100000 in
theorem g_RX10_22 : hp_Fg RX10 22 10 3 := ⟨_, _, _, _, vcl_10, in_10, by decide, rfl, fl_RX10_22⟩
set_option maxRecDepth 100000 in
theorem fl_RX10_25 : Cond.fieldLink RX10 25 "ProtocolBench$Variables" "first" "[I" ∈ hp_tbl := hp_in (List.mem_append_right _ (List.mem_append_left _ (List.mem_of_getElem? (i := 43) (by decide +kernel)))) rfl
set_option maxRecDepth 100000 in
theorem g_RX10_25 : hp_Fg RX10 25 10 4 := ⟨_, _, _, _, vcl_10, in_10, by decide, rfl, fl_RX10_25⟩
set_option maxRecDepth 100000 in
theorem fl_RX11_12 : Cond.fieldLink RX11 12 "ProtocolBench" "protocol" "LProtocolBench$Protocol;" ∈ hp_tbl := hp_in (List.mem_append_right _ (List.mem_append_right _ (List.mem_append_left _ (List.mem_of_getElem? (i := 220) (by decide +kernel))))) rfl
set_option maxRecDepth 100000 in
theorem g_RX11_12 : hp_Fg RX11 12 11 0 := ⟨_, _, _, _, vcl_11, in_11, by decide, rfl, fl_RX11_12⟩
set_option maxRecDepth 100000 in
theorem fl_RX11_19 : Cond.fieldLink RX11 19 "ProtocolBench" "graph" "LProtocolBench$Graph;" ∈ hp_tbl := hp_in (List.mem_append_right _ (List.mem_append_right _ (List.mem_append_left _ (List.mem_of_getElem? (i := 221) (by decide +kernel))))) rfl
set_option maxRecDepth 100000 in
theorem g_RX11_19 : hp_Fg RX11 19 11 1 := ⟨_, _, _, _, vcl_11, in_11, by decide, rfl, fl_RX11_19⟩
set_option maxRecDepth 100000 in
theorem fl_RX11_28 : Cond.fieldLink RX11 28 "ProtocolBench" "searcher" "LProtocolBench$Searcher;" ∈ hp_tbl := hp_in (List.mem_append_right _ (List.mem_append_right _ (List.mem_append_left _ (List.mem_of_getElem? (i := 222) (by decide +kernel))))) rfl
set_option maxRecDepth 100000 in
theorem g_RX11_28 : hp_Fg RX11 28 11 2 := ⟨_, _, _, _, vcl_11, in_11, by decide, rfl, fl_RX11_28⟩
set_option maxRecDepth 100000 in
theorem fl_RX11_35 : Cond.fieldLink RX11 35 "ProtocolBench" "reckoner" "LProtocolBench$Reckoner;" ∈ hp_tbl := hp_in (List.mem_append_right _ (List.mem_append_right _ (List.mem_append_left _ (List.mem_of_getElem? (i := 223) (by decide +kernel))))) rfl
set_option maxRecDepth 100000 in
theorem g_RX11_35 : hp_Fg RX11 35 11 3 := ⟨_, _, _, _, vcl_11, in_11, by decide, rfl, fl_RX11_35⟩
set_option maxRecDepth 100000 in
theorem fl_RX11_44 : Cond.fieldLink RX11 44 "ProtocolBench" "knots" "LProtocolBench$Knots;" ∈ hp_tbl := hp_in (List.mem_append_right _ (List.mem_append_right _ (List.mem_append_left _ (List.mem_of_getElem? (i := 224) (by decide +kernel))))) rfl
set_option maxRecDepth 100000 in
theorem g_RX11_44 : hp_Fg RX11 44 11 4 := ⟨_, _, _, _, vcl_11, in_11, by decide, rfl, fl_RX11_44⟩
set_option maxRecDepth 100000 in
theorem fl_RX11_53 : Cond.fieldLink RX11 53 "ProtocolBench" "division" "LProtocolBench$Division;" ∈ hp_tbl := hp_in (List.mem_append_right _ (List.mem_append_right _ (List.mem_append_left _ (List.mem_of_getElem? (i := 225) (by decide +kernel))))) rfl
set_option maxRecDepth 100000 in
theorem g_RX11_53 : hp_Fg RX11 53 11 5 := ⟨_, _, _, _, vcl_11, in_11, by decide, rfl, fl_RX11_53⟩
set_option maxRecDepth 100000 in
theorem fl_RX11_63 : Cond.fieldLink RX11 63 "ProtocolBench$Protocol" "shared" "LProtocolBench$Variables;" ∈ hp_tbl := hp_in (List.mem_append_right _ (List.mem_append_left _ (List.mem_of_getElem? (i := 171) (by decide +kernel)))) rfl
set_option maxRecDepth 100000 in
theorem g_RX11_63 : hp_Fg RX11 63 4 0 := ⟨_, _, _, _, vcl_4, in_4, by decide, rfl, fl_RX11_63⟩
set_option maxRecDepth 100000 in
theorem fl_RX11_78 : Cond.fieldLink RX11 78 "ProtocolBench$Protocol" "roles" "LProtocolBench$Roles;" ∈ hp_tbl := hp_in (List.mem_append_right _ (List.mem_append_left _ (List.mem_of_getElem? (i := 177) (by decide +kernel)))) rfl
set_option maxRecDepth 100000 in
theorem g_RX11_78 : hp_Fg RX11 78 4 2 := ⟨_, _, _, _, vcl_4, in_4, by decide, rfl, fl_RX11_78⟩
set_option maxRecDepth 100000 in
theorem fl_RX11_82 : Cond.fieldLink RX11 82 "ProtocolBench$Roles" "told" "I" ∈ hp_tbl := hp_in (List.mem_append_right _ (List.mem_append_left _ (List.mem_of_getElem? (i := 67) (by decide +kernel)))) rfl
set_option maxRecDepth 100000 in
theorem g_RX11_82 : hp_Fg RX11 82 6 1 := ⟨_, _, _, _, vcl_6, in_6, by decide, rfl, fl_RX11_82⟩
set_option maxRecDepth 100000 in
theorem fl_RX11_94 : Cond.fieldLink RX11 94 "ProtocolBench$Protocol" "owns" "LProtocolBench$Variables;" ∈ hp_tbl := hp_in (List.mem_append_right _ (List.mem_append_left _ (List.mem_of_getElem? (i := 174) (by decide +kernel)))) rfl
set_option maxRecDepth 100000 in
theorem g_RX11_94 : hp_Fg RX11 94 4 1 := ⟨_, _, _, _, vcl_4, in_4, by decide, rfl, fl_RX11_94⟩
set_option maxRecDepth 100000 in
theorem fl_RX11_112 : Cond.fieldLink RX11 112 "ProtocolBench$Protocol" "channels" "I" ∈ hp_tbl := hp_in (List.mem_append_right _ (List.mem_append_left _ (List.mem_of_getElem? (i := 195) (by decide +kernel)))) rfl
set_option maxRecDepth 100000 in
theorem g_RX11_112 : hp_Fg RX11 112 4 8 := ⟨_, _, _, _, vcl_4, in_4, by decide, rfl, fl_RX11_112⟩
set_option maxRecDepth 100000 in
theorem fl_RX11_123 : Cond.fieldLink RX11 123 "ProtocolBench$Protocol" "exprs" "LProtocolBench$Exprs;" ∈ hp_tbl := hp_in (List.mem_append_right _ (List.mem_append_left _ (List.mem_of_getElem? (i := 183) (by decide +kernel)))) rfl
set_option maxRecDepth 100000 in
theorem g_RX11_123 : hp_Fg RX11 123 4 3 := ⟨_, _, _, _, vcl_4, in_4, by decide, rfl, fl_RX11_123⟩
set_option maxRecDepth 100000 in
theorem fl_RX11_127 : Cond.fieldLink RX11 127 "ProtocolBench$Exprs" "told" "I" ∈ hp_tbl := hp_in (List.mem_append_right _ (List.mem_append_left _ (List.mem_of_getElem? (i := 88) (by decide +kernel)))) rfl
set_option maxRecDepth 100000 in
theorem g_RX11_127 : hp_Fg RX11 127 1 1 := ⟨_, _, _, _, vcl_1, in_1, by decide, rfl, fl_RX11_127⟩
set_option maxRecDepth 100000 in
theorem fl_RX11_132 : Cond.fieldLink RX11 132 "ProtocolBench$Protocol" "steps" "LProtocolBench$Steps;" ∈ hp_tbl := hp_in (List.mem_append_right _ (List.mem_append_left _ (List.mem_of_getElem? (i := 186) (by decide +kernel)))) rfl
set_option maxRecDepth 100000 in
theorem g_RX11_132 : hp_Fg RX11 132 4 4 := ⟨_, _, _, _, vcl_4, in_4, by decide, rfl, fl_RX11_132⟩
set_option maxRecDepth 100000 in
theorem fl_RX11_136 : Cond.fieldLink RX11 136 "ProtocolBench$Steps" "told" "I" ∈ hp_tbl := hp_in (List.mem_append_right _ (List.mem_append_left _ (List.mem_of_getElem? (i := 150) (by decide +kernel)))) rfl
set_option maxRecDepth 100000 in
theorem g_RX11_136 : hp_Fg RX11 136 9 8 := ⟨_, _, _, _, vcl_9, in_9, by decide, rfl, fl_RX11_136⟩
set_option maxRecDepth 100000 in
theorem fl_RX11_147 : Cond.fieldLink RX11 147 "ProtocolBench$Steps" "acts" "[I" ∈ hp_tbl := hp_in (List.mem_append_right _ (List.mem_append_left _ (List.mem_of_getElem? (i := 138) (by decide +kernel)))) rfl
set_option maxRecDepth 100000 in
theorem g_RX11_147 : hp_Fg RX11 147 9 4 := ⟨_, _, _, _, vcl_9, in_9, by decide, rfl, fl_RX11_147⟩
set_option maxRecDepth 100000 in
theorem fl_RX11_154 : Cond.fieldLink RX11 154 "ProtocolBench$Protocol" "takesAlike" "Z" ∈ hp_tbl := hp_in (List.mem_append_right _ (List.mem_append_left _ (List.mem_of_getElem? (i := 197) (by decide +kernel)))) rfl
set_option maxRecDepth 100000 in
theorem g_RX11_154 : hp_Fg RX11 154 4 9 := ⟨_, _, _, _, vcl_4, in_4, by decide, rfl, fl_RX11_154⟩
set_option maxRecDepth 100000 in
theorem p_RX11_154 : hp_Fp RX11 154 4 9 .boolean := ⟨_, _, _, _, tyX4, vcl_4, in_4, by decide, rfl, fl_RX11_154, tyX4_ok, nmX4, rfl, rfl⟩
set_option maxRecDepth 100000 in
theorem fl_RX11_162 : Cond.fieldLink RX11 162 "ProtocolBench$Graph" "isThere" "Z" ∈ hp_tbl := hp_in (List.mem_append_right _ (List.mem_append_left _ (List.mem_of_getElem? (i := 227) (by decide +kernel)))) rfl
set_option maxRecDepth 100000 in
theorem g_RX11_162 : hp_Fg RX11 162 2 0 := ⟨_, _, _, _, vcl_2, in_2, by decide, rfl, fl_RX11_162⟩
set_option maxRecDepth 100000 in
theorem fl_RX11_168 : Cond.fieldLink RX11 168 "ProtocolBench$Graph" "states" "I" ∈ hp_tbl := hp_in (List.mem_append_right _ (List.mem_append_left _ (List.mem_of_getElem? (i := 234) (by decide +kernel)))) rfl
set_option maxRecDepth 100000 in
theorem g_RX11_168 : hp_Fg RX11 168 2 2 := ⟨_, _, _, _, vcl_2, in_2, by decide, rfl, fl_RX11_168⟩
set_option maxRecDepth 100000 in
theorem fl_RX11_171 : Cond.fieldLink RX11 171 "ProtocolBench$Graph" "isSpent" "Z" ∈ hp_tbl := hp_in (List.mem_append_right _ (List.mem_append_left _ (List.mem_of_getElem? (i := 230) (by decide +kernel)))) rfl
set_option maxRecDepth 100000 in
theorem g_RX11_171 : hp_Fg RX11 171 2 1 := ⟨_, _, _, _, vcl_2, in_2, by decide, rfl, fl_RX11_171⟩
set_option maxRecDepth 100000 in
theorem fl_RX11_226 : Cond.fieldLink RX11 226 "ProtocolBench$Graph" "firstMove" "[I" ∈ hp_tbl := hp_in (List.mem_append_right _ (List.mem_append_right _ (List.mem_append_left _ (List.mem_of_getElem? (i := 9) (by decide +kernel))))) rfl
set_option maxRecDepth 100000 in
theorem g_RX11_226 : hp_Fg RX11 226 2 8 := ⟨_, _, _, _, vcl_2, in_2, by decide, rfl, fl_RX11_226⟩
set_option maxRecDepth 100000 in
theorem fl_RX11_229 : Cond.fieldLink RX11 229 "ProtocolBench$Graph" "moveTo" "[I" ∈ hp_tbl := hp_in (List.mem_append_right _ (List.mem_append_right _ (List.mem_append_left _ (List.mem_of_getElem? (i := 13) (by decide +kernel))))) rfl
set_option maxRecDepth 100000 in
theorem g_RX11_229 : hp_Fg RX11 229 2 9 := ⟨_, _, _, _, vcl_2, in_2, by decide, rfl, fl_RX11_229⟩
set_option maxRecDepth 100000 in
theorem fl_RX11_241 : Cond.fieldLink RX11 241 "ProtocolBench$Graph" "wayLength" "[I" ∈ hp_tbl := hp_in (List.mem_append_right _ (List.mem_append_right _ (List.mem_append_left _ (List.mem_of_getElem? (i := 15) (by decide +kernel))))) rfl
set_option maxRecDepth 100000 in
theorem g_RX11_241 : hp_Fg RX11 241 2 10 := ⟨_, _, _, _, vcl_2, in_2, by decide, rfl, fl_RX11_241⟩
set_option maxRecDepth 100000 in
theorem fl_RX11_244 : Cond.fieldLink RX11 244 "ProtocolBench$Graph" "cameFrom" "[I" ∈ hp_tbl := hp_in (List.mem_append_right _ (List.mem_append_right _ (List.mem_append_left _ (List.mem_of_getElem? (i := 17) (by decide +kernel))))) rfl
set_option maxRecDepth 100000 in
theorem g_RX11_244 : hp_Fg RX11 244 2 11 := ⟨_, _, _, _, vcl_2, in_2, by decide, rfl, fl_RX11_244⟩
set_option maxRecDepth 100000 in
theorem fl_RX11_247 : Cond.fieldLink RX11 247 "ProtocolBench$Graph" "cameBy" "[I" ∈ hp_tbl := hp_in (List.mem_append_right _ (List.mem_append_right _ (List.mem_append_left _ (List.mem_of_getElem? (i := 19) (by decide +kernel))))) rfl
set_option maxRecDepth 100000 in
theorem g_RX11_247 : hp_Fg RX11 247 2 12 := ⟨_, _, _, _, vcl_2, in_2, by decide, rfl, fl_RX11_247⟩
set_option maxRecDepth 100000 in
theorem fl_RX11_257 : Cond.fieldLink RX11 257 "ProtocolBench$Graph" "faultState" "I" ∈ hp_tbl := hp_in (List.mem_append_right _ (List.mem_append_left _ (List.mem_of_getElem? (i := 238) (by decide +kernel)))) rfl
set_option maxRecDepth 100000 in
theorem g_RX11_257 : hp_Fg RX11 257 2 4 := ⟨_, _, _, _, vcl_2, in_2, by decide, rfl, fl_RX11_257⟩
set_option maxRecDepth 100000 in
theorem fl_RX11_260 : Cond.fieldLink RX11 260 "ProtocolBench$Graph" "faultRole" "I" ∈ hp_tbl := hp_in (List.mem_append_right _ (List.mem_append_right _ (List.mem_append_left _ (List.mem_of_getElem? (i := 0) (by decide +kernel))))) rfl
set_option maxRecDepth 100000 in
theorem g_RX11_260 : hp_Fg RX11 260 2 5 := ⟨_, _, _, _, vcl_2, in_2, by decide, rfl, fl_RX11_260⟩
set_option maxRecDepth 100000 in
theorem fl_RX11_263 : Cond.fieldLink RX11 263 "ProtocolBench$Graph" "faultMember" "I" ∈ hp_tbl := hp_in (List.mem_append_right _ (List.mem_append_right _ (List.mem_append_left _ (List.mem_of_getElem? (i := 2) (by decide +kernel))))) rfl
set_option maxRecDepth 100000 in
theorem g_RX11_263 : hp_Fg RX11 263 2 6 := ⟨_, _, _, _, vcl_2, in_2, by decide, rfl, fl_RX11_263⟩
set_option maxRecDepth 100000 in
theorem fl_RX11_266 : Cond.fieldLink RX11 266 "ProtocolBench$Graph" "faultStep" "I" ∈ hp_tbl := hp_in (List.mem_append_right _ (List.mem_append_right _ (List.mem_append_left _ (List.mem_of_getElem? (i := 4) (by decide +kernel))))) rfl
set_option maxRecDepth 100000 in
theorem g_RX11_266 : hp_Fg RX11 266 2 7 := ⟨_, _, _, _, vcl_2, in_2, by decide, rfl, fl_RX11_266⟩
set_option maxRecDepth 100000 in
theorem fl_RX11_283 : Cond.fieldLink RX11 283 "ProtocolBench$Division" "observed" "I" ∈ hp_tbl := hp_in (List.mem_append_right _ (List.mem_append_right _ (List.mem_append_left _ (List.mem_of_getElem? (i := 181) (by decide +kernel))))) rfl
set_option maxRecDepth 100000 in
theorem g_RX11_283 : hp_Fg RX11 283 0 0 := ⟨_, _, _, _, vcl_0, in_0, by decide, rfl, fl_RX11_283⟩
set_option maxRecDepth 100000 in
theorem fl_RX11_292 : Cond.fieldLink RX11 292 "ProtocolBench$Division" "parts" "I" ∈ hp_tbl := hp_in (List.mem_append_right _ (List.mem_append_right _ (List.mem_append_left _ (List.mem_of_getElem? (i := 183) (by decide +kernel))))) rfl
set_option maxRecDepth 100000 in
theorem g_RX11_292 : hp_Fg RX11 292 0 1 := ⟨_, _, _, _, vcl_0, in_0, by decide, rfl, fl_RX11_292⟩
set_option maxRecDepth 100000 in
theorem fl_RX11_295 : Cond.fieldLink RX11 295 "ProtocolBench$Division" "partOf" "[I" ∈ hp_tbl := hp_in (List.mem_append_right _ (List.mem_append_right _ (List.mem_append_left _ (List.mem_of_getElem? (i := 185) (by decide +kernel))))) rfl
set_option maxRecDepth 100000 in
theorem g_RX11_295 : hp_Fg RX11 295 0 2 := ⟨_, _, _, _, vcl_0, in_0, by decide, rfl, fl_RX11_295⟩
set_option maxRecDepth 100000 in
theorem fl_RX11_298 : Cond.fieldLink RX11 298 "ProtocolBench$Variables" "told" "[I" ∈ hp_tbl := hp_in (List.mem_append_right _ (List.mem_append_left _ (List.mem_of_getElem? (i := 39) (by decide +kernel)))) rfl
set_option maxRecDepth 100000 in
theorem g_RX11_298 : hp_Fg RX11 298 10 0 := ⟨_, _, _, _, vcl_10, in_10, by decide, rfl, fl_RX11_298⟩
set_option maxRecDepth 100000 in
theorem fl_RX12_7 : Cond.fieldLink RX12 7 "ProtocolBenchModel" "sharedLow" "[I" ∈ hp_tbl := hp_in (List.mem_append_right _ (List.mem_append_right _ (List.mem_append_right _ (List.mem_append_right _ (List.mem_append_right _ (List.mem_append_left _ (List.mem_of_getElem? (i := 133) (by decide +kernel)))))))) rfl
set_option maxRecDepth 100000 in
theorem g_RX12_7 : hp_Fg RX12 7 12 1 := ⟨_, _, _, _, vcl_12, in_12, by decide, rfl, fl_RX12_7⟩
set_option maxRecDepth 100000 in
theorem fl_RX12_13 : Cond.fieldLink RX12 13 "ProtocolBenchModel" "sharedHigh" "[I" ∈ hp_tbl := hp_in (List.mem_append_right _ (List.mem_append_right _ (List.mem_append_right _ (List.mem_append_right _ (List.mem_append_right _ (List.mem_append_left _ (List.mem_of_getElem? (i := 134) (by decide +kernel)))))))) rfl
set_option maxRecDepth 100000 in
theorem g_RX12_13 : hp_Fg RX12 13 12 2 := ⟨_, _, _, _, vcl_12, in_12, by decide, rfl, fl_RX12_13⟩
set_option maxRecDepth 100000 in
theorem fl_RX12_16 : Cond.fieldLink RX12 16 "ProtocolBenchModel" "sharedFirst" "[I" ∈ hp_tbl := hp_in (List.mem_append_right _ (List.mem_append_right _ (List.mem_append_right _ (List.mem_append_right _ (List.mem_append_right _ (List.mem_append_left _ (List.mem_of_getElem? (i := 135) (by decide +kernel)))))))) rfl
set_option maxRecDepth 100000 in
theorem g_RX12_16 : hp_Fg RX12 16 12 3 := ⟨_, _, _, _, vcl_12, in_12, by decide, rfl, fl_RX12_16⟩
set_option maxRecDepth 100000 in
theorem fl_RX12_19 : Cond.fieldLink RX12 19 "ProtocolBenchModel" "members" "[I" ∈ hp_tbl := hp_in (List.mem_append_right _ (List.mem_append_right _ (List.mem_append_right _ (List.mem_append_right _ (List.mem_append_right _ (List.mem_append_left _ (List.mem_of_getElem? (i := 137) (by decide +kernel)))))))) rfl
set_option maxRecDepth 100000 in
theorem g_RX12_19 : hp_Fg RX12 19 12 5 := ⟨_, _, _, _, vcl_12, in_12, by decide, rfl, fl_RX12_19⟩
set_option maxRecDepth 100000 in
theorem fl_RX12_22 : Cond.fieldLink RX12 22 "ProtocolBenchModel" "owns" "[I" ∈ hp_tbl := hp_in (List.mem_append_right _ (List.mem_append_right _ (List.mem_append_right _ (List.mem_append_right _ (List.mem_append_right _ (List.mem_append_left _ (List.mem_of_getElem? (i := 138) (by decide +kernel)))))))) rfl
set_option maxRecDepth 100000 in
theorem g_RX12_22 : hp_Fg RX12 22 12 6 := ⟨_, _, _, _, vcl_12, in_12, by decide, rfl, fl_RX12_22⟩
set_option maxRecDepth 100000 in
theorem fl_RX12_25 : Cond.fieldLink RX12 25 "ProtocolBenchModel" "ownLow" "[I" ∈ hp_tbl := hp_in (List.mem_append_right _ (List.mem_append_right _ (List.mem_append_right _ (List.mem_append_right _ (List.mem_append_right _ (List.mem_append_left _ (List.mem_of_getElem? (i := 139) (by decide +kernel)))))))) rfl
set_option maxRecDepth 100000 in
theorem g_RX12_25 : hp_Fg RX12 25 12 7 := ⟨_, _, _, _, vcl_12, in_12, by decide, rfl, fl_RX12_25⟩
set_option maxRecDepth 100000 in
theorem fl_RX12_28 : Cond.fieldLink RX12 28 "ProtocolBenchModel" "ownHigh" "[I" ∈ hp_tbl := hp_in (List.mem_append_right _ (List.mem_append_right _ (List.mem_append_right _ (List.mem_append_right _ (List.mem_append_right _ (List.mem_append_left _ (List.mem_of_getElem? (i := 140) (by decide +kernel)))))))) rfl
set_option maxRecDepth 100000 in
theorem g_RX12_28 : hp_Fg RX12 28 12 8 := ⟨_, _, _, _, vcl_12, in_12, by decide, rfl, fl_RX12_28⟩
set_option maxRecDepth 100000 in
theorem fl_RX12_31 : Cond.fieldLink RX12 31 "ProtocolBenchModel" "ownFirst" "[I" ∈ hp_tbl := hp_in (List.mem_append_right _ (List.mem_append_right _ (List.mem_append_right _ (List.mem_append_right _ (List.mem_append_right _ (List.mem_append_left _ (List.mem_of_getElem? (i := 141) (by decide +kernel)))))))) rfl
set_option maxRecDepth 100000 in
theorem g_RX12_31 : hp_Fg RX12 31 12 9 := ⟨_, _, _, _, vcl_12, in_12, by decide, rfl, fl_RX12_31⟩
set_option maxRecDepth 100000 in
theorem fl_RX12_34 : Cond.fieldLink RX12 34 "ProtocolBenchModel" "isEnd" "[Z" ∈ hp_tbl := hp_in (List.mem_append_right _ (List.mem_append_right _ (List.mem_append_right _ (List.mem_append_right _ (List.mem_append_right _ (List.mem_append_left _ (List.mem_of_getElem? (i := 142) (by decide +kernel)))))))) rfl
set_option maxRecDepth 100000 in
theorem g_RX12_34 : hp_Fg RX12 34 12 10 := ⟨_, _, _, _, vcl_12, in_12, by decide, rfl, fl_RX12_34⟩
set_option maxRecDepth 100000 in
theorem fl_RX12_38 : Cond.fieldLink RX12 38 "ProtocolBenchModel" "roomOf" "[I" ∈ hp_tbl := hp_in (List.mem_append_right _ (List.mem_append_right _ (List.mem_append_right _ (List.mem_append_right _ (List.mem_append_right _ (List.mem_append_left _ (List.mem_of_getElem? (i := 144) (by decide +kernel)))))))) rfl
set_option maxRecDepth 100000 in
theorem g_RX12_38 : hp_Fg RX12 38 12 12 := ⟨_, _, _, _, vcl_12, in_12, by decide, rfl, fl_RX12_38⟩
set_option maxRecDepth 100000 in
theorem fl_RX12_41 : Cond.fieldLink RX12 41 "ProtocolBenchModel" "isLoose" "[Z" ∈ hp_tbl := hp_in (List.mem_append_right _ (List.mem_append_right _ (List.mem_append_right _ (List.mem_append_right _ (List.mem_append_right _ (List.mem_append_left _ (List.mem_of_getElem? (i := 145) (by decide +kernel)))))))) rfl
set_option maxRecDepth 100000 in
theorem g_RX12_41 : hp_Fg RX12 41 12 13 := ⟨_, _, _, _, vcl_12, in_12, by decide, rfl, fl_RX12_41⟩
set_option maxRecDepth 100000 in
theorem fl_RX12_44 : Cond.fieldLink RX12 44 "ProtocolBenchModel" "loses" "[Z" ∈ hp_tbl := hp_in (List.mem_append_right _ (List.mem_append_right _ (List.mem_append_right _ (List.mem_append_right _ (List.mem_append_right _ (List.mem_append_left _ (List.mem_of_getElem? (i := 146) (by decide +kernel)))))))) rfl
set_option maxRecDepth 100000 in
theorem g_RX12_44 : hp_Fg RX12 44 12 14 := ⟨_, _, _, _, vcl_12, in_12, by decide, rfl, fl_RX12_44⟩
set_option maxRecDepth 100000 in
theorem fl_RX12_47 : Cond.fieldLink RX12 47 "ProtocolBenchModel" "kindOf" "[I" ∈ hp_tbl := hp_in (List.mem_append_right _ (List.mem_append_right _ (List.mem_append_right _ (List.mem_append_right _ (List.mem_append_right _ (List.mem_append_left _ (List.mem_of_getElem? (i := 148) (by decide +kernel)))))))) rfl
set_option maxRecDepth 100000 in
theorem g_RX12_47 : hp_Fg RX12 47 12 16 := ⟨_, _, _, _, vcl_12, in_12, by decide, rfl, fl_RX12_47⟩
set_option maxRecDepth 100000 in
theorem fl_RX12_50 : Cond.fieldLink RX12 50 "ProtocolBenchModel" "aOf" "[I" ∈ hp_tbl := hp_in (List.mem_append_right _ (List.mem_append_right _ (List.mem_append_right _ (List.mem_append_right _ (List.mem_append_right _ (List.mem_append_left _ (List.mem_of_getElem? (i := 149) (by decide +kernel)))))))) rfl
set_option maxRecDepth 100000 in
theorem g_RX12_50 : hp_Fg RX12 50 12 17 := ⟨_, _, _, _, vcl_12, in_12, by decide, rfl, fl_RX12_50⟩
set_option maxRecDepth 100000 in
theorem fl_RX12_53 : Cond.fieldLink RX12 53 "ProtocolBenchModel" "bOf" "[I" ∈ hp_tbl := hp_in (List.mem_append_right _ (List.mem_append_right _ (List.mem_append_right _ (List.mem_append_right _ (List.mem_append_right _ (List.mem_append_left _ (List.mem_of_getElem? (i := 150) (by decide +kernel)))))))) rfl
set_option maxRecDepth 100000 in
theorem g_RX12_53 : hp_Fg RX12 53 12 18 := ⟨_, _, _, _, vcl_12, in_12, by decide, rfl, fl_RX12_53⟩
set_option maxRecDepth 100000 in
theorem fl_RX12_56 : Cond.fieldLink RX12 56 "ProtocolBenchModel" "cOf" "[I" ∈ hp_tbl := hp_in (List.mem_append_right _ (List.mem_append_right _ (List.mem_append_right _ (List.mem_append_right _ (List.mem_append_right _ (List.mem_append_left _ (List.mem_of_getElem? (i := 151) (by decide +kernel)))))))) rfl
set_option maxRecDepth 100000 in
theorem g_RX12_56 : hp_Fg RX12 56 12 19 := ⟨_, _, _, _, vcl_12, in_12, by decide, rfl, fl_RX12_56⟩
set_option maxRecDepth 100000 in
theorem fl_RX12_59 : Cond.fieldLink RX12 59 "ProtocolBenchModel" "isOwned" "[Z" ∈ hp_tbl := hp_in (List.mem_append_right _ (List.mem_append_right _ (List.mem_append_right _ (List.mem_append_right _ (List.mem_append_right _ (List.mem_append_left _ (List.mem_of_getElem? (i := 152) (by decide +kernel)))))))) rfl
set_option maxRecDepth 100000 in
theorem g_RX12_59 : hp_Fg RX12 59 12 20 := ⟨_, _, _, _, vcl_12, in_12, by decide, rfl, fl_RX12_59⟩
set_option maxRecDepth 100000 in
theorem fl_RX12_62 : Cond.fieldLink RX12 62 "ProtocolBenchModel" "stepRole" "[I" ∈ hp_tbl := hp_in (List.mem_append_right _ (List.mem_append_right _ (List.mem_append_right _ (List.mem_append_right _ (List.mem_append_right _ (List.mem_append_left _ (List.mem_of_getElem? (i := 154) (by decide +kernel)))))))) rfl
set_option maxRecDepth 100000 in
theorem g_RX12_62 : hp_Fg RX12 62 12 22 := ⟨_, _, _, _, vcl_12, in_12, by decide, rfl, fl_RX12_62⟩
set_option maxRecDepth 100000 in
theorem fl_RX12_65 : Cond.fieldLink RX12 65 "ProtocolBenchModel" "stepFrom" "[I" ∈ hp_tbl := hp_in (List.mem_append_right _ (List.mem_append_right _ (List.mem_append_right _ (List.mem_append_right _ (List.mem_append_right _ (List.mem_append_left _ (List.mem_of_getElem? (i := 155) (by decide +kernel)))))))) rfl
set_option maxRecDepth 100000 in
theorem g_RX12_65 : hp_Fg RX12 65 12 23 := ⟨_, _, _, _, vcl_12, in_12, by decide, rfl, fl_RX12_65⟩
set_option maxRecDepth 100000 in
theorem fl_RX12_68 : Cond.fieldLink RX12 68 "ProtocolBenchModel" "stepTo" "[I" ∈ hp_tbl := hp_in (List.mem_append_right _ (List.mem_append_right _ (List.mem_append_right _ (List.mem_append_right _ (List.mem_append_right _ (List.mem_append_left _ (List.mem_of_getElem? (i := 156) (by decide +kernel)))))))) rfl
set_option maxRecDepth 100000 in
theorem g_RX12_68 : hp_Fg RX12 68 12 24 := ⟨_, _, _, _, vcl_12, in_12, by decide, rfl, fl_RX12_68⟩
set_option maxRecDepth 100000 in
theorem fl_RX12_71 : Cond.fieldLink RX12 71 "ProtocolBenchModel" "stepGuard" "[I" ∈ hp_tbl := hp_in (List.mem_append_right _ (List.mem_append_right _ (List.mem_append_right _ (List.mem_append_right _ (List.mem_append_right _ (List.mem_append_left _ (List.mem_of_getElem? (i := 157) (by decide +kernel)))))))) rfl
set_option maxRecDepth 100000 in
theorem g_RX12_71 : hp_Fg RX12 71 12 25 := ⟨_, _, _, _, vcl_12, in_12, by decide, rfl, fl_RX12_71⟩
set_option maxRecDepth 100000 in
theorem fl_RX12_74 : Cond.fieldLink RX12 74 "ProtocolBenchModel" "actsOf" "[I" ∈ hp_tbl := hp_in (List.mem_append_right _ (List.mem_append_right _ (List.mem_append_right _ (List.mem_append_right _ (List.mem_append_right _ (List.mem_append_left _ (List.mem_of_getElem? (i := 158) (by decide +kernel)))))))) rfl
set_option maxRecDepth 100000 in
theorem g_RX12_74 : hp_Fg RX12 74 12 26 := ⟨_, _, _, _, vcl_12, in_12, by decide, rfl, fl_RX12_74⟩
set_option maxRecDepth 100000 in
theorem fl_RX12_77 : Cond.fieldLink RX12 77 "ProtocolBenchModel" "actKind" "[I" ∈ hp_tbl := hp_in (List.mem_append_right _ (List.mem_append_right _ (List.mem_append_right _ (List.mem_append_right _ (List.mem_append_right _ (List.mem_append_left _ (List.mem_of_getElem? (i := 159) (by decide +kernel)))))))) rfl
set_option maxRecDepth 100000 in
theorem g_RX12_77 : hp_Fg RX12 77 12 27 := ⟨_, _, _, _, vcl_12, in_12, by decide, rfl, fl_RX12_77⟩
set_option maxRecDepth 100000 in
theorem fl_RX12_80 : Cond.fieldLink RX12 80 "ProtocolBenchModel" "actA" "[I" ∈ hp_tbl := hp_in (List.mem_append_right _ (List.mem_append_right _ (List.mem_append_right _ (List.mem_append_right _ (List.mem_append_right _ (List.mem_append_left _ (List.mem_of_getElem? (i := 160) (by decide +kernel)))))))) rfl
set_option maxRecDepth 100000 in
theorem g_RX12_80 : hp_Fg RX12 80 12 28 := ⟨_, _, _, _, vcl_12, in_12, by decide, rfl, fl_RX12_80⟩
set_option maxRecDepth 100000 in
theorem fl_RX12_83 : Cond.fieldLink RX12 83 "ProtocolBenchModel" "actB" "[I" ∈ hp_tbl := hp_in (List.mem_append_right _ (List.mem_append_right _ (List.mem_append_right _ (List.mem_append_right _ (List.mem_append_right _ (List.mem_append_left _ (List.mem_of_getElem? (i := 161) (by decide +kernel)))))))) rfl
set_option maxRecDepth 100000 in
theorem g_RX12_83 : hp_Fg RX12 83 12 29 := ⟨_, _, _, _, vcl_12, in_12, by decide, rfl, fl_RX12_83⟩
set_option maxRecDepth 100000 in
theorem fl_RX12_86 : Cond.fieldLink RX12 86 "ProtocolBenchModel" "observedOf" "[I" ∈ hp_tbl := hp_in (List.mem_append_right _ (List.mem_append_right _ (List.mem_append_right _ (List.mem_append_right _ (List.mem_append_right _ (List.mem_append_left _ (List.mem_of_getElem? (i := 164) (by decide +kernel)))))))) rfl
set_option maxRecDepth 100000 in
theorem g_RX12_86 : hp_Fg RX12 86 12 32 := ⟨_, _, _, _, vcl_12, in_12, by decide, rfl, fl_RX12_86⟩
set_option maxRecDepth 100000 in
theorem fl_RX12_89 : Cond.fieldLink RX12 89 "ProtocolBenchModel" "cells" "[I" ∈ hp_tbl := hp_in (List.mem_append_right _ (List.mem_append_right _ (List.mem_append_right _ (List.mem_append_right _ (List.mem_append_right _ (List.mem_append_left _ (List.mem_of_getElem? (i := 168) (by decide +kernel)))))))) rfl
set_option maxRecDepth 100000 in
theorem g_RX12_89 : hp_Fg RX12 89 12 36 := ⟨_, _, _, _, vcl_12, in_12, by decide, rfl, fl_RX12_89⟩
set_option maxRecDepth 100000 in
theorem fl_RX12_92 : Cond.fieldLink RX12 92 "ProtocolBenchModel" "cameFrom" "[I" ∈ hp_tbl := hp_in (List.mem_append_right _ (List.mem_append_right _ (List.mem_append_right _ (List.mem_append_right _ (List.mem_append_right _ (List.mem_append_left _ (List.mem_of_getElem? (i := 169) (by decide +kernel)))))))) rfl
set_option maxRecDepth 100000 in
theorem g_RX12_92 : hp_Fg RX12 92 12 37 := ⟨_, _, _, _, vcl_12, in_12, by decide, rfl, fl_RX12_92⟩
set_option maxRecDepth 100000 in
theorem fl_RX12_95 : Cond.fieldLink RX12 95 "ProtocolBenchModel" "cameBy" "[I" ∈ hp_tbl := hp_in (List.mem_append_right _ (List.mem_append_right _ (List.mem_append_right _ (List.mem_append_right _ (List.mem_append_right _ (List.mem_append_left _ (List.mem_of_getElem? (i := 170) (by decide +kernel)))))))) rfl
set_option maxRecDepth 100000 in
theorem g_RX12_95 : hp_Fg RX12 95 12 38 := ⟨_, _, _, _, vcl_12, in_12, by decide, rfl, fl_RX12_95⟩
set_option maxRecDepth 100000 in
theorem fl_RX12_98 : Cond.fieldLink RX12 98 "ProtocolBenchModel" "depthOf" "[I" ∈ hp_tbl := hp_in (List.mem_append_right _ (List.mem_append_right _ (List.mem_append_right _ (List.mem_append_right _ (List.mem_append_right _ (List.mem_append_left _ (List.mem_of_getElem? (i := 171) (by decide +kernel)))))))) rfl
set_option maxRecDepth 100000 in
theorem g_RX12_98 : hp_Fg RX12 98 12 39 := ⟨_, _, _, _, vcl_12, in_12, by decide, rfl, fl_RX12_98⟩
set_option maxRecDepth 100000 in
theorem fl_RX12_101 : Cond.fieldLink RX12 101 "ProtocolBenchModel" "firstMove" "[I" ∈ hp_tbl := hp_in (List.mem_append_right _ (List.mem_append_right _ (List.mem_append_right _ (List.mem_append_right _ (List.mem_append_right _ (List.mem_append_left _ (List.mem_of_getElem? (i := 173) (by decide +kernel)))))))) rfl
set_option maxRecDepth 100000 in
theorem g_RX12_101 : hp_Fg RX12 101 12 41 := ⟨_, _, _, _, vcl_12, in_12, by decide, rfl, fl_RX12_101⟩
set_option maxRecDepth 100000 in
theorem fl_RX12_104 : Cond.fieldLink RX12 104 "ProtocolBenchModel" "moveTo" "[I" ∈ hp_tbl := hp_in (List.mem_append_right _ (List.mem_append_right _ (List.mem_append_right _ (List.mem_append_right _ (List.mem_append_right _ (List.mem_append_left _ (List.mem_of_getElem? (i := 174) (by decide +kernel)))))))) rfl
set_option maxRecDepth 100000 in
theorem g_RX12_104 : hp_Fg RX12 104 12 42 := ⟨_, _, _, _, vcl_12, in_12, by decide, rfl, fl_RX12_104⟩
set_option maxRecDepth 100000 in
theorem fl_RX12_107 : Cond.fieldLink RX12 107 "ProtocolBenchModel" "moveRole" "[I" ∈ hp_tbl := hp_in (List.mem_append_right _ (List.mem_append_right _ (List.mem_append_right _ (List.mem_append_right _ (List.mem_append_right _ (List.mem_append_left _ (List.mem_of_getElem? (i := 175) (by decide +kernel)))))))) rfl
set_option maxRecDepth 100000 in
theorem g_RX12_107 : hp_Fg RX12 107 12 43 := ⟨_, _, _, _, vcl_12, in_12, by decide, rfl, fl_RX12_107⟩
set_option maxRecDepth 100000 in
theorem fl_RX12_110 : Cond.fieldLink RX12 110 "ProtocolBenchModel" "moveMember" "[I" ∈ hp_tbl := hp_in (List.mem_append_right _ (List.mem_append_right _ (List.mem_append_right _ (List.mem_append_right _ (List.mem_append_right _ (List.mem_append_left _ (List.mem_of_getElem? (i := 176) (by decide +kernel)))))))) rfl
set_option maxRecDepth 100000 in
theorem g_RX12_110 : hp_Fg RX12 110 12 44 := ⟨_, _, _, _, vcl_12, in_12, by decide, rfl, fl_RX12_110⟩
set_option maxRecDepth 100000 in
theorem fl_RX12_113 : Cond.fieldLink RX12 113 "ProtocolBenchModel" "moveStep" "[I" ∈ hp_tbl := hp_in (List.mem_append_right _ (List.mem_append_right _ (List.mem_append_right _ (List.mem_append_right _ (List.mem_append_right _ (List.mem_append_left _ (List.mem_of_getElem? (i := 177) (by decide +kernel)))))))) rfl
set_option maxRecDepth 100000 in
theorem g_RX12_113 : hp_Fg RX12 113 12 45 := ⟨_, _, _, _, vcl_12, in_12, by decide, rfl, fl_RX12_113⟩
set_option maxRecDepth 100000 in
theorem fl_RX12_116 : Cond.fieldLink RX12 116 "ProtocolBenchModel" "next" "[I" ∈ hp_tbl := hp_in (List.mem_append_right _ (List.mem_append_right _ (List.mem_append_right _ (List.mem_append_right _ (List.mem_append_right _ (List.mem_append_left _ (List.mem_of_getElem? (i := 183) (by decide +kernel)))))))) rfl
set_option maxRecDepth 100000 in
theorem g_RX12_116 : hp_Fg RX12 116 12 51 := ⟨_, _, _, _, vcl_12, in_12, by decide, rfl, fl_RX12_116⟩
set_option maxRecDepth 100000 in
theorem fl_RX12_119 : Cond.fieldLink RX12 119 "ProtocolBenchModel" "told" "[I" ∈ hp_tbl := hp_in (List.mem_append_right _ (List.mem_append_right _ (List.mem_append_right _ (List.mem_append_right _ (List.mem_append_right _ (List.mem_append_left _ (List.mem_of_getElem? (i := 184) (by decide +kernel)))))))) rfl
set_option maxRecDepth 100000 in
theorem g_RX12_119 : hp_Fg RX12 119 12 52 := ⟨_, _, _, _, vcl_12, in_12, by decide, rfl, fl_RX12_119⟩
set_option maxRecDepth 100000 in
theorem fl_RX12_122 : Cond.fieldLink RX12 122 "ProtocolBenchModel" "choice" "[I" ∈ hp_tbl := hp_in (List.mem_append_right _ (List.mem_append_right _ (List.mem_append_right _ (List.mem_append_right _ (List.mem_append_right _ (List.mem_append_left _ (List.mem_of_getElem? (i := 185) (by decide +kernel)))))))) rfl
set_option maxRecDepth 100000 in
theorem g_RX12_122 : hp_Fg RX12 122 12 53 := ⟨_, _, _, _, vcl_12, in_12, by decide, rfl, fl_RX12_122⟩
set_option maxRecDepth 100000 in
theorem fl_RX12_125 : Cond.fieldLink RX12 125 "ProtocolBenchModel" "isUsed" "[Z" ∈ hp_tbl := hp_in (List.mem_append_right _ (List.mem_append_right _ (List.mem_append_right _ (List.mem_append_right _ (List.mem_append_right _ (List.mem_append_left _ (List.mem_of_getElem? (i := 186) (by decide +kernel)))))))) rfl
set_option maxRecDepth 100000 in
theorem g_RX12_125 : hp_Fg RX12 125 12 54 := ⟨_, _, _, _, vcl_12, in_12, by decide, rfl, fl_RX12_125⟩
set_option maxRecDepth 100000 in
theorem fl_RX12_128 : Cond.fieldLink RX12 128 "ProtocolBenchModel" "isIn" "[Z" ∈ hp_tbl := hp_in (List.mem_append_right _ (List.mem_append_right _ (List.mem_append_right _ (List.mem_append_right _ (List.mem_append_right _ (List.mem_append_left _ (List.mem_of_getElem? (i := 187) (by decide +kernel)))))))) rfl
set_option maxRecDepth 100000 in
theorem g_RX12_128 : hp_Fg RX12 128 12 55 := ⟨_, _, _, _, vcl_12, in_12, by decide, rfl, fl_RX12_128⟩
set_option maxRecDepth 100000 in
theorem fl_RX12_131 : Cond.fieldLink RX12 131 "ProtocolBenchModel" "ahead" "[Z" ∈ hp_tbl := hp_in (List.mem_append_right _ (List.mem_append_right _ (List.mem_append_right _ (List.mem_append_right _ (List.mem_append_right _ (List.mem_append_left _ (List.mem_of_getElem? (i := 188) (by decide +kernel)))))))) rfl
set_option maxRecDepth 100000 in
theorem g_RX12_131 : hp_Fg RX12 131 12 56 := ⟨_, _, _, _, vcl_12, in_12, by decide, rfl, fl_RX12_131⟩
set_option maxRecDepth 100000 in
theorem fl_RX12_134 : Cond.fieldLink RX12 134 "ProtocolBenchModel" "behind" "[Z" ∈ hp_tbl := hp_in (List.mem_append_right _ (List.mem_append_right _ (List.mem_append_right _ (List.mem_append_right _ (List.mem_append_right _ (List.mem_append_left _ (List.mem_of_getElem? (i := 189) (by decide +kernel)))))))) rfl
set_option maxRecDepth 100000 in
theorem g_RX12_134 : hp_Fg RX12 134 12 57 := ⟨_, _, _, _, vcl_12, in_12, by decide, rfl, fl_RX12_134⟩
set_option maxRecDepth 100000 in
theorem fl_RX12_137 : Cond.fieldLink RX12 137 "ProtocolBenchModel" "isKnot" "[Z" ∈ hp_tbl := hp_in (List.mem_append_right _ (List.mem_append_right _ (List.mem_append_right _ (List.mem_append_right _ (List.mem_append_right _ (List.mem_append_left _ (List.mem_of_getElem? (i := 190) (by decide +kernel)))))))) rfl
set_option maxRecDepth 100000 in
theorem g_RX12_137 : hp_Fg RX12 137 12 58 := ⟨_, _, _, _, vcl_12, in_12, by decide, rfl, fl_RX12_137⟩
set_option maxRecDepth 100000 in
theorem fl_RX12_140 : Cond.fieldLink RX12 140 "ProtocolBenchModel" "isSeen" "[Z" ∈ hp_tbl := hp_in (List.mem_append_right _ (List.mem_append_right _ (List.mem_append_right _ (List.mem_append_right _ (List.mem_append_right _ (List.mem_append_left _ (List.mem_of_getElem? (i := 191) (by decide +kernel)))))))) rfl
set_option maxRecDepth 100000 in
theorem g_RX12_140 : hp_Fg RX12 140 12 59 := ⟨_, _, _, _, vcl_12, in_12, by decide, rfl, fl_RX12_140⟩
set_option maxRecDepth 100000 in
theorem fl_RX12_143 : Cond.fieldLink RX12 143 "ProtocolBenchModel" "classAt" "[I" ∈ hp_tbl := hp_in (List.mem_append_right _ (List.mem_append_right _ (List.mem_append_right _ (List.mem_append_right _ (List.mem_append_right _ (List.mem_append_left _ (List.mem_of_getElem? (i := 192) (by decide +kernel)))))))) rfl
set_option maxRecDepth 100000 in
theorem g_RX12_143 : hp_Fg RX12 143 12 60 := ⟨_, _, _, _, vcl_12, in_12, by decide, rfl, fl_RX12_143⟩
set_option maxRecDepth 100000 in
theorem fl_RX12_146 : Cond.fieldLink RX12 146 "ProtocolBenchModel" "newClass" "[I" ∈ hp_tbl := hp_in (List.mem_append_right _ (List.mem_append_right _ (List.mem_append_right _ (List.mem_append_right _ (List.mem_append_right _ (List.mem_append_left _ (List.mem_of_getElem? (i := 193) (by decide +kernel)))))))) rfl
set_option maxRecDepth 100000 in
theorem g_RX12_146 : hp_Fg RX12 146 12 61 := ⟨_, _, _, _, vcl_12, in_12, by decide, rfl, fl_RX12_146⟩
set_option maxRecDepth 100000 in
theorem fl_RX12_149 : Cond.fieldLink RX12 149 "ProtocolBenchModel" "signs" "[J" ∈ hp_tbl := hp_in (List.mem_append_right _ (List.mem_append_right _ (List.mem_append_right _ (List.mem_append_right _ (List.mem_append_right _ (List.mem_append_left _ (List.mem_of_getElem? (i := 194) (by decide +kernel)))))))) rfl
set_option maxRecDepth 100000 in
theorem g_RX12_149 : hp_Fg RX12 149 12 62 := ⟨_, _, _, _, vcl_12, in_12, by decide, rfl, fl_RX12_149⟩
set_option maxRecDepth 100000 in
theorem fl_RX12_153 : Cond.fieldLink RX12 153 "ProtocolBenchModel" "seen" "[I" ∈ hp_tbl := hp_in (List.mem_append_right _ (List.mem_append_right _ (List.mem_append_right _ (List.mem_append_right _ (List.mem_append_right _ (List.mem_append_left _ (List.mem_of_getElem? (i := 195) (by decide +kernel)))))))) rfl
set_option maxRecDepth 100000 in
theorem g_RX12_153 : hp_Fg RX12 153 12 63 := ⟨_, _, _, _, vcl_12, in_12, by decide, rfl, fl_RX12_153⟩
set_option maxRecDepth 100000 in
theorem fl_RX12_160 : Cond.fieldLink RX12 160 "ProtocolBenchModel" "hasSearch" "Z" ∈ hp_tbl := hp_in (List.mem_append_right _ (List.mem_append_right _ (List.mem_append_right _ (List.mem_append_right _ (List.mem_append_right _ (List.mem_append_left _ (List.mem_of_getElem? (i := 165) (by decide +kernel)))))))) rfl
set_option maxRecDepth 100000 in
theorem g_RX12_160 : hp_Fg RX12 160 12 33 := ⟨_, _, _, _, vcl_12, in_12, by decide, rfl, fl_RX12_160⟩
set_option maxRecDepth 100000 in
theorem p_RX12_160 : hp_Fp RX12 160 12 33 .boolean := ⟨_, _, _, _, tyX12, vcl_12, in_12, by decide, rfl, fl_RX12_160, tyX12_ok, nmX12, rfl, rfl⟩
set_option maxRecDepth 100000 in
theorem fl_RX12_164 : Cond.fieldLink RX12 164 "ProtocolBenchModel" "isSpent" "Z" ∈ hp_tbl := hp_in (List.mem_append_right _ (List.mem_append_right _ (List.mem_append_right _ (List.mem_append_right _ (List.mem_append_right _ (List.mem_append_left _ (List.mem_of_getElem? (i := 166) (by decide +kernel)))))))) rfl
set_option maxRecDepth 100000 in
theorem g_RX12_164 : hp_Fg RX12 164 12 34 := ⟨_, _, _, _, vcl_12, in_12, by decide, rfl, fl_RX12_164⟩
set_option maxRecDepth 100000 in
theorem p_RX12_164 : hp_Fp RX12 164 12 34 .boolean := ⟨_, _, _, _, tyX12, vcl_12, in_12, by decide, rfl, fl_RX12_164, tyX12_ok, nmX12, rfl, rfl⟩
set_option maxRecDepth 100000 in
theorem fl_RX12_167 : Cond.fieldLink RX12 167 "ProtocolBenchModel" "states" "I" ∈ hp_tbl := hp_in (List.mem_append_right _ (List.mem_append_right _ (List.mem_append_right _ (List.mem_append_right _ (List.mem_append_right _ (List.mem_append_left _ (List.mem_of_getElem? (i := 167) (by decide +kernel)))))))) rfl
set_option maxRecDepth 100000 in
theorem g_RX12_167 : hp_Fg RX12 167 12 35 := ⟨_, _, _, _, vcl_12, in_12, by decide, rfl, fl_RX12_167⟩
set_option maxRecDepth 100000 in
theorem p_RX12_167 : hp_Fp RX12 167 12 35 .int := ⟨_, _, _, _, tyX12, vcl_12, in_12, by decide, rfl, fl_RX12_167, tyX12_ok, nmX12, rfl, rfl⟩
set_option maxRecDepth 100000 in
theorem fl_RX12_171 : Cond.fieldLink RX12 171 "ProtocolBenchModel" "moves" "I" ∈ hp_tbl := hp_in (List.mem_append_right _ (List.mem_append_right _ (List.mem_append_right _ (List.mem_append_right _ (List.mem_append_right _ (List.mem_append_left _ (List.mem_of_getElem? (i := 172) (by decide +kernel)))))))) rfl
set_option maxRecDepth 100000 in
theorem g_RX12_171 : hp_Fg RX12 171 12 40 := ⟨_, _, _, _, vcl_12, in_12, by decide, rfl, fl_RX12_171⟩
set_option maxRecDepth 100000 in
theorem p_RX12_171 : hp_Fp RX12 171 12 40 .int := ⟨_, _, _, _, tyX12, vcl_12, in_12, by decide, rfl, fl_RX12_171, tyX12_ok, nmX12, rfl, rfl⟩
set_option maxRecDepth 100000 in
theorem fl_RX12_177 : Cond.fieldLink RX12 177 "ProtocolBenchModel" "sharedMany" "I" ∈ hp_tbl := hp_in (List.mem_append_right _ (List.mem_append_right _ (List.mem_append_right _ (List.mem_append_right _ (List.mem_append_right _ (List.mem_append_left _ (List.mem_of_getElem? (i := 132) (by decide +kernel)))))))) rfl
set_option maxRecDepth 100000 in
theorem g_RX12_177 : hp_Fg RX12 177 12 0 := ⟨_, _, _, _, vcl_12, in_12, by decide, rfl, fl_RX12_177⟩
set_option maxRecDepth 100000 in
theorem p_RX12_177 : hp_Fp RX12 177 12 0 .int := ⟨_, _, _, _, tyX12, vcl_12, in_12, by decide, rfl, fl_RX12_177, tyX12_ok, nmX12, rfl, rfl⟩
set_option maxRecDepth 100000 in
theorem fl_RX12_183 : Cond.fieldLink RX12 183 "ProtocolBenchModel" "roles" "I" ∈ hp_tbl := hp_in (List.mem_append_right _ (List.mem_append_right _ (List.mem_append_right _ (List.mem_append_right _ (List.mem_append_right _ (List.mem_append_left _ (List.mem_of_getElem? (i := 136) (by decide +kernel)))))))) rfl
set_option maxRecDepth 100000 in
theorem g_RX12_183 : hp_Fg RX12 183 12 4 := ⟨_, _, _, _, vcl_12, in_12, by decide, rfl, fl_RX12_183⟩
set_option maxRecDepth 100000 in
theorem p_RX12_183 : hp_Fp RX12 183 12 4 .int := ⟨_, _, _, _, tyX12, vcl_12, in_12, by decide, rfl, fl_RX12_183, tyX12_ok, nmX12, rfl, rfl⟩
set_option maxRecDepth 100000 in
theorem fl_RX12_190 : Cond.fieldLink RX12 190 "ProtocolBenchModel" "channels" "I" ∈ hp_tbl := hp_in (List.mem_append_right _ (List.mem_append_right _ (List.mem_append_right _ (List.mem_append_right _ (List.mem_append_right _ (List.mem_append_left _ (List.mem_of_getElem? (i := 143) (by decide +kernel)))))))) rfl
set_option maxRecDepth 100000 in
theorem g_RX12_190 : hp_Fg RX12 190 12 11 := ⟨_, _, _, _, vcl_12, in_12, by decide, rfl, fl_RX12_190⟩
set_option maxRecDepth 100000 in
theorem p_RX12_190 : hp_Fp RX12 190 12 11 .int := ⟨_, _, _, _, tyX12, vcl_12, in_12, by decide, rfl, fl_RX12_190, tyX12_ok, nmX12, rfl, rfl⟩
set_option maxRecDepth 100000 in
theorem fl_RX12_193 : Cond.fieldLink RX12 193 "ProtocolBenchModel" "exprs" "I" ∈ hp_tbl := hp_in (List.mem_append_right _ (List.mem_append_right _ (List.mem_append_right _ (List.mem_append_right _ (List.mem_append_right _ (List.mem_append_left _ (List.mem_of_getElem? (i := 147) (by decide +kernel)))))))) rfl
set_option maxRecDepth 100000 in
theorem g_RX12_193 : hp_Fg RX12 193 12 15 := ⟨_, _, _, _, vcl_12, in_12, by decide, rfl, fl_RX12_193⟩
set_option maxRecDepth 100000 in
theorem p_RX12_193 : hp_Fp RX12 193 12 15 .int := ⟨_, _, _, _, tyX12, vcl_12, in_12, by decide, rfl, fl_RX12_193, tyX12_ok, nmX12, rfl, rfl⟩
set_option maxRecDepth 100000 in
theorem fl_RX12_206 : Cond.fieldLink RX12 206 "ProtocolBenchModel" "steps" "I" ∈ hp_tbl := hp_in (List.mem_append_right _ (List.mem_append_right _ (List.mem_append_right _ (List.mem_append_right _ (List.mem_append_right _ (List.mem_append_left _ (List.mem_of_getElem? (i := 153) (by decide +kernel)))))))) rfl
set_option maxRecDepth 100000 in
theorem g_RX12_206 : hp_Fg RX12 206 12 21 := ⟨_, _, _, _, vcl_12, in_12, by decide, rfl, fl_RX12_206⟩
set_option maxRecDepth 100000 in
theorem p_RX12_206 : hp_Fp RX12 206 12 21 .int := ⟨_, _, _, _, tyX12, vcl_12, in_12, by decide, rfl, fl_RX12_206, tyX12_ok, nmX12, rfl, rfl⟩
set_option maxRecDepth 100000 in
theorem fl_RX12_209 : Cond.fieldLink RX12 209 "ProtocolBenchModel" "isAlike" "Z" ∈ hp_tbl := hp_in (List.mem_append_right _ (List.mem_append_right _ (List.mem_append_right _ (List.mem_append_right _ (List.mem_append_right _ (List.mem_append_left _ (List.mem_of_getElem? (i := 162) (by decide +kernel)))))))) rfl
set_option maxRecDepth 100000 in
theorem g_RX12_209 : hp_Fg RX12 209 12 30 := ⟨_, _, _, _, vcl_12, in_12, by decide, rfl, fl_RX12_209⟩
set_option maxRecDepth 100000 in
theorem p_RX12_209 : hp_Fp RX12 209 12 30 .boolean := ⟨_, _, _, _, tyX12, vcl_12, in_12, by decide, rfl, fl_RX12_209, tyX12_ok, nmX12, rfl, rfl⟩
set_option maxRecDepth 100000 in
theorem fl_RX12_247 : Cond.fieldLink RX12 247 "ProtocolBenchModel" "hasFault" "Z" ∈ hp_tbl := hp_in (List.mem_append_right _ (List.mem_append_right _ (List.mem_append_right _ (List.mem_append_right _ (List.mem_append_right _ (List.mem_append_left _ (List.mem_of_getElem? (i := 178) (by decide +kernel)))))))) rfl
set_option maxRecDepth 100000 in
theorem g_RX12_247 : hp_Fg RX12 247 12 46 := ⟨_, _, _, _, vcl_12, in_12, by decide, rfl, fl_RX12_247⟩
set_option maxRecDepth 100000 in
theorem p_RX12_247 : hp_Fp RX12 247 12 46 .boolean := ⟨_, _, _, _, tyX12, vcl_12, in_12, by decide, rfl, fl_RX12_247, tyX12_ok, nmX12, rfl, rfl⟩
set_option maxRecDepth 100000 in
theorem fl_RX12_250 : Cond.fieldLink RX12 250 "ProtocolBenchModel" "faultState" "I" ∈ hp_tbl := hp_in (List.mem_append_right _ (List.mem_append_right _ (List.mem_append_right _ (List.mem_append_right _ (List.mem_append_right _ (List.mem_append_left _ (List.mem_of_getElem? (i := 179) (by decide +kernel)))))))) rfl
set_option maxRecDepth 100000 in
theorem g_RX12_250 : hp_Fg RX12 250 12 47 := ⟨_, _, _, _, vcl_12, in_12, by decide, rfl, fl_RX12_250⟩
set_option maxRecDepth 100000 in
theorem p_RX12_250 : hp_Fp RX12 250 12 47 .int := ⟨_, _, _, _, tyX12, vcl_12, in_12, by decide, rfl, fl_RX12_250, tyX12_ok, nmX12, rfl, rfl⟩
set_option maxRecDepth 100000 in
theorem fl_RX12_253 : Cond.fieldLink RX12 253 "ProtocolBenchModel" "faultRole" "I" ∈ hp_tbl := hp_in (List.mem_append_right _ (List.mem_append_right _ (List.mem_append_right _ (List.mem_append_right _ (List.mem_append_right _ (List.mem_append_left _ (List.mem_of_getElem? (i := 180) (by decide +kernel)))))))) rfl
set_option maxRecDepth 100000 in
theorem g_RX12_253 : hp_Fg RX12 253 12 48 := ⟨_, _, _, _, vcl_12, in_12, by decide, rfl, fl_RX12_253⟩
set_option maxRecDepth 100000 in
theorem p_RX12_253 : hp_Fp RX12 253 12 48 .int := ⟨_, _, _, _, tyX12, vcl_12, in_12, by decide, rfl, fl_RX12_253, tyX12_ok, nmX12, rfl, rfl⟩
set_option maxRecDepth 100000 in
theorem fl_RX12_256 : Cond.fieldLink RX12 256 "ProtocolBenchModel" "faultMember" "I" ∈ hp_tbl := hp_in (List.mem_append_right _ (List.mem_append_right _ (List.mem_append_right _ (List.mem_append_right _ (List.mem_append_right _ (List.mem_append_left _ (List.mem_of_getElem? (i := 181) (by decide +kernel)))))))) rfl
set_option maxRecDepth 100000 in
theorem g_RX12_256 : hp_Fg RX12 256 12 49 := ⟨_, _, _, _, vcl_12, in_12, by decide, rfl, fl_RX12_256⟩
set_option maxRecDepth 100000 in
theorem p_RX12_256 : hp_Fp RX12 256 12 49 .int := ⟨_, _, _, _, tyX12, vcl_12, in_12, by decide, rfl, fl_RX12_256, tyX12_ok, nmX12, rfl, rfl⟩
set_option maxRecDepth 100000 in
theorem fl_RX12_259 : Cond.fieldLink RX12 259 "ProtocolBenchModel" "faultStep" "I" ∈ hp_tbl := hp_in (List.mem_append_right _ (List.mem_append_right _ (List.mem_append_right _ (List.mem_append_right _ (List.mem_append_right _ (List.mem_append_left _ (List.mem_of_getElem? (i := 182) (by decide +kernel)))))))) rfl
set_option maxRecDepth 100000 in
theorem g_RX12_259 : hp_Fg RX12 259 12 50 := ⟨_, _, _, _, vcl_12, in_12, by decide, rfl, fl_RX12_259⟩
set_option maxRecDepth 100000 in
theorem p_RX12_259 : hp_Fp RX12 259 12 50 .int := ⟨_, _, _, _, tyX12, vcl_12, in_12, by decide, rfl, fl_RX12_259, tyX12_ok, nmX12, rfl, rfl⟩
set_option maxRecDepth 100000 in
theorem fl_RX12_342 : Cond.fieldLink RX12 342 "ProtocolBenchModel" "observed" "I" ∈ hp_tbl := hp_in (List.mem_append_right _ (List.mem_append_right _ (List.mem_append_right _ (List.mem_append_right _ (List.mem_append_right _ (List.mem_append_left _ (List.mem_of_getElem? (i := 163) (by decide +kernel)))))))) rfl
set_option maxRecDepth 100000 in
theorem g_RX12_342 : hp_Fg RX12 342 12 31 := ⟨_, _, _, _, vcl_12, in_12, by decide, rfl, fl_RX12_342⟩
set_option maxRecDepth 100000 in
theorem p_RX12_342 : hp_Fp RX12 342 12 31 .int := ⟨_, _, _, _, tyX12, vcl_12, in_12, by decide, rfl, fl_RX12_342, tyX12_ok, nmX12, rfl, rfl⟩
set_option maxRecDepth 100000 in
theorem fl_RX2_9 : Cond.fieldLink RX2 9 "ProtocolBench$Graph" "faultState" "I" ∈ hp_tbl := hp_in (List.mem_append_right _ (List.mem_append_left _ (List.mem_of_getElem? (i := 237) (by decide +kernel)))) rfl
set_option maxRecDepth 100000 in
theorem g_RX2_9 : hp_Fg RX2 9 2 4 := ⟨_, _, _, _, vcl_2, in_2, by decide, rfl, fl_RX2_9⟩
set_option maxRecDepth 100000 in
theorem p_RX2_9 : hp_Fp RX2 9 2 4 .int := ⟨_, _, _, _, tyX2, vcl_2, in_2, by decide, rfl, fl_RX2_9, tyX2_ok, nmX2, rfl, rfl⟩
set_option maxRecDepth 100000 in
theorem fl_RX2_15 : Cond.fieldLink RX2 15 "ProtocolBench$Graph" "faultRole" "I" ∈ hp_tbl := hp_in (List.mem_append_right _ (List.mem_append_left _ (List.mem_of_getElem? (i := 239) (by decide +kernel)))) rfl
set_option maxRecDepth 100000 in
theorem p_RX2_15 : hp_Fp RX2 15 2 5 .int := ⟨_, _, _, _, tyX2, vcl_2, in_2, by decide, rfl, fl_RX2_15, tyX2_ok, nmX2, rfl, rfl⟩
set_option maxRecDepth 100000 in
theorem fl_RX2_18 : Cond.fieldLink RX2 18 "ProtocolBench$Graph" "faultMember" "I" ∈ hp_tbl := hp_in (List.mem_append_right _ (List.mem_append_right _ (List.mem_append_left _ (List.mem_of_getElem? (i := 1) (by decide +kernel))))) rfl
set_option maxRecDepth 100000 in
theorem p_RX2_18 : hp_Fp RX2 18 2 6 .int := ⟨_, _, _, _, tyX2, vcl_2, in_2, by decide, rfl, fl_RX2_18, tyX2_ok, nmX2, rfl, rfl⟩
set_option maxRecDepth 100000 in
theorem fl_RX2_21 : Cond.fieldLink RX2 21 "ProtocolBench$Graph" "faultStep" "I" ∈ hp_tbl := hp_in (List.mem_append_right _ (List.mem_append_right _ (List.mem_append_left _ (List.mem_of_getElem? (i := 3) (by decide +kernel))))) rfl
set_option maxRecDepth 100000 in
theorem p_RX2_21 : hp_Fp RX2 21 2 7 .int := ⟨_, _, _, _, tyX2, vcl_2, in_2, by decide, rfl, fl_RX2_21, tyX2_ok, nmX2, rfl, rfl⟩
set_option maxRecDepth 100000 in
theorem fl_RX2_24 : Cond.fieldLink RX2 24 "ProtocolBench$Graph" "firstMove" "[I" ∈ hp_tbl := hp_in (List.mem_append_right _ (List.mem_append_right _ (List.mem_append_left _ (List.mem_of_getElem? (i := 5) (by decide +kernel))))) rfl
set_option maxRecDepth 100000 in
theorem g_RX2_24 : hp_Fg RX2 24 2 8 := ⟨_, _, _, _, vcl_2, in_2, by decide, rfl, fl_RX2_24⟩
set_option maxRecDepth 100000 in
theorem fl_RX2_28 : Cond.fieldLink RX2 28 "ProtocolBench$Graph" "moveTo" "[I" ∈ hp_tbl := hp_in (List.mem_append_right _ (List.mem_append_right _ (List.mem_append_left _ (List.mem_of_getElem? (i := 10) (by decide +kernel))))) rfl
set_option maxRecDepth 100000 in
theorem g_RX2_28 : hp_Fg RX2 28 2 9 := ⟨_, _, _, _, vcl_2, in_2, by decide, rfl, fl_RX2_28⟩
set_option maxRecDepth 100000 in
theorem fl_RX2_31 : Cond.fieldLink RX2 31 "ProtocolBench$Graph" "wayLength" "[I" ∈ hp_tbl := hp_in (List.mem_append_right _ (List.mem_append_right _ (List.mem_append_left _ (List.mem_of_getElem? (i := 14) (by decide +kernel))))) rfl
set_option maxRecDepth 100000 in
theorem g_RX2_31 : hp_Fg RX2 31 2 10 := ⟨_, _, _, _, vcl_2, in_2, by decide, rfl, fl_RX2_31⟩
set_option maxRecDepth 100000 in
theorem fl_RX2_34 : Cond.fieldLink RX2 34 "ProtocolBench$Graph" "cameFrom" "[I" ∈ hp_tbl := hp_in (List.mem_append_right _ (List.mem_append_right _ (List.mem_append_left _ (List.mem_of_getElem? (i := 16) (by decide +kernel))))) rfl
set_option maxRecDepth 100000 in
theorem g_RX2_34 : hp_Fg RX2 34 2 11 := ⟨_, _, _, _, vcl_2, in_2, by decide, rfl, fl_RX2_34⟩
set_option maxRecDepth 100000 in
theorem fl_RX2_37 : Cond.fieldLink RX2 37 "ProtocolBench$Graph" "cameBy" "[I" ∈ hp_tbl := hp_in (List.mem_append_right _ (List.mem_append_right _ (List.mem_append_left _ (List.mem_of_getElem? (i := 18) (by decide +kernel))))) rfl
set_option maxRecDepth 100000 in
theorem g_RX2_37 : hp_Fg RX2 37 2 12 := ⟨_, _, _, _, vcl_2, in_2, by decide, rfl, fl_RX2_37⟩
set_option maxRecDepth 100000 in
theorem fl_RX2_40 : Cond.fieldLink RX2 40 "ProtocolBench$Graph" "moveBy" "[I" ∈ hp_tbl := hp_in (List.mem_append_right _ (List.mem_append_right _ (List.mem_append_left _ (List.mem_of_getElem? (i := 20) (by decide +kernel))))) rfl
set_option maxRecDepth 100000 in
theorem g_RX2_40 : hp_Fg RX2 40 2 13 := ⟨_, _, _, _, vcl_2, in_2, by decide, rfl, fl_RX2_40⟩
set_option maxRecDepth 100000 in
theorem fl_RX2_45 : Cond.fieldLink RX2 45 "ProtocolBench$Graph" "words" "[I" ∈ hp_tbl := hp_in (List.mem_append_right _ (List.mem_append_right _ (List.mem_append_left _ (List.mem_of_getElem? (i := 21) (by decide +kernel))))) rfl
set_option maxRecDepth 100000 in
theorem g_RX2_45 : hp_Fg RX2 45 2 14 := ⟨_, _, _, _, vcl_2, in_2, by decide, rfl, fl_RX2_45⟩
set_option maxRecDepth 100000 in
theorem fl_RX2_48 : Cond.fieldLink RX2 48 "ProtocolBench$Graph" "slots" "[I" ∈ hp_tbl := hp_in (List.mem_append_right _ (List.mem_append_right _ (List.mem_append_left _ (List.mem_of_getElem? (i := 22) (by decide +kernel))))) rfl
set_option maxRecDepth 100000 in
theorem g_RX2_48 : hp_Fg RX2 48 2 15 := ⟨_, _, _, _, vcl_2, in_2, by decide, rfl, fl_RX2_48⟩
set_option maxRecDepth 100000 in
theorem fl_RX2_51 : Cond.fieldLink RX2 51 "ProtocolBench$Graph" "isThere" "Z" ∈ hp_tbl := hp_in (List.mem_append_right _ (List.mem_append_left _ (List.mem_of_getElem? (i := 226) (by decide +kernel)))) rfl
set_option maxRecDepth 100000 in
theorem g_RX2_51 : hp_Fg RX2 51 2 0 := ⟨_, _, _, _, vcl_2, in_2, by decide, rfl, fl_RX2_51⟩
set_option maxRecDepth 100000 in
theorem p_RX2_51 : hp_Fp RX2 51 2 0 .boolean := ⟨_, _, _, _, tyX2, vcl_2, in_2, by decide, rfl, fl_RX2_51, tyX2_ok, nmX2, rfl, rfl⟩
set_option maxRecDepth 100000 in
theorem fl_RX2_55 : Cond.fieldLink RX2 55 "ProtocolBench$Graph" "isSpent" "Z" ∈ hp_tbl := hp_in (List.mem_append_right _ (List.mem_append_left _ (List.mem_of_getElem? (i := 228) (by decide +kernel)))) rfl
set_option maxRecDepth 100000 in
theorem g_RX2_55 : hp_Fg RX2 55 2 1 := ⟨_, _, _, _, vcl_2, in_2, by decide, rfl, fl_RX2_55⟩
set_option maxRecDepth 100000 in
theorem p_RX2_55 : hp_Fp RX2 55 2 1 .boolean := ⟨_, _, _, _, tyX2, vcl_2, in_2, by decide, rfl, fl_RX2_55, tyX2_ok, nmX2, rfl, rfl⟩
set_option maxRecDepth 100000 in
theorem fl_RX2_58 : Cond.fieldLink RX2 58 "ProtocolBench$Graph" "states" "I" ∈ hp_tbl := hp_in (List.mem_append_right _ (List.mem_append_left _ (List.mem_of_getElem? (i := 231) (by decide +kernel)))) rfl
set_option maxRecDepth 100000 in
theorem g_RX2_58 : hp_Fg RX2 58 2 2 := ⟨_, _, _, _, vcl_2, in_2, by decide, rfl, fl_RX2_58⟩
set_option maxRecDepth 100000 in
theorem p_RX2_58 : hp_Fp RX2 58 2 2 .int := ⟨_, _, _, _, tyX2, vcl_2, in_2, by decide, rfl, fl_RX2_58, tyX2_ok, nmX2, rfl, rfl⟩
set_option maxRecDepth 100000 in
theorem fl_RX2_61 : Cond.fieldLink RX2 61 "ProtocolBench$Graph" "moveCount" "I" ∈ hp_tbl := hp_in (List.mem_append_right _ (List.mem_append_left _ (List.mem_of_getElem? (i := 235) (by decide +kernel)))) rfl
set_option maxRecDepth 100000 in
theorem g_RX2_61 : hp_Fg RX2 61 2 3 := ⟨_, _, _, _, vcl_2, in_2, by decide, rfl, fl_RX2_61⟩
set_option maxRecDepth 100000 in
theorem p_RX2_61 : hp_Fp RX2 61 2 3 .int := ⟨_, _, _, _, tyX2, vcl_2, in_2, by decide, rfl, fl_RX2_61, tyX2_ok, nmX2, rfl, rfl⟩
set_option maxRecDepth 100000 in
theorem fl_RX2_85 : Cond.fieldLink RX2 85 "ProtocolBench$Row" "words" "[I" ∈ hp_tbl := hp_in (List.mem_append_right _ (List.mem_append_right _ (List.mem_append_left _ (List.mem_of_getElem? (i := 69) (by decide +kernel))))) rfl
set_option maxRecDepth 100000 in
theorem g_RX2_85 : hp_Fg RX2 85 7 0 := ⟨_, _, _, _, vcl_7, in_7, by decide, rfl, fl_RX2_85⟩
set_option maxRecDepth 100000 in
theorem fl_RX3_9 : Cond.fieldLink RX3 9 "ProtocolBench$Knots" "isWithin" "[Z" ∈ hp_tbl := hp_in (List.mem_append_right _ (List.mem_append_right _ (List.mem_append_left _ (List.mem_of_getElem? (i := 116) (by decide +kernel))))) rfl
set_option maxRecDepth 100000 in
theorem g_RX3_9 : hp_Fg RX3 9 3 3 := ⟨_, _, _, _, vcl_3, in_3, by decide, rfl, fl_RX3_9⟩
set_option maxRecDepth 100000 in
theorem fl_RX3_15 : Cond.fieldLink RX3 15 "ProtocolBench$Knots" "isStart" "[Z" ∈ hp_tbl := hp_in (List.mem_append_right _ (List.mem_append_right _ (List.mem_append_left _ (List.mem_of_getElem? (i := 117) (by decide +kernel))))) rfl
set_option maxRecDepth 100000 in
theorem g_RX3_15 : hp_Fg RX3 15 3 4 := ⟨_, _, _, _, vcl_3, in_3, by decide, rfl, fl_RX3_15⟩
set_option maxRecDepth 100000 in
theorem fl_RX3_18 : Cond.fieldLink RX3 18 "ProtocolBench$Knots" "isTied" "[Z" ∈ hp_tbl := hp_in (List.mem_append_right _ (List.mem_append_right _ (List.mem_append_left _ (List.mem_of_getElem? (i := 118) (by decide +kernel))))) rfl
set_option maxRecDepth 100000 in
theorem g_RX3_18 : hp_Fg RX3 18 3 5 := ⟨_, _, _, _, vcl_3, in_3, by decide, rfl, fl_RX3_18⟩
set_option maxRecDepth 100000 in
theorem fl_RX3_21 : Cond.fieldLink RX3 21 "ProtocolBench$Knots" "leadsToKnot" "[Z" ∈ hp_tbl := hp_in (List.mem_append_right _ (List.mem_append_right _ (List.mem_append_left _ (List.mem_of_getElem? (i := 119) (by decide +kernel))))) rfl
set_option maxRecDepth 100000 in
theorem g_RX3_21 : hp_Fg RX3 21 3 6 := ⟨_, _, _, _, vcl_3, in_3, by decide, rfl, fl_RX3_21⟩
set_option maxRecDepth 100000 in
theorem fl_RX3_24 : Cond.fieldLink RX3 24 "ProtocolBench$Knots" "entered" "[I" ∈ hp_tbl := hp_in (List.mem_append_right _ (List.mem_append_right _ (List.mem_append_left _ (List.mem_of_getElem? (i := 120) (by decide +kernel))))) rfl
set_option maxRecDepth 100000 in
theorem g_RX3_24 : hp_Fg RX3 24 3 7 := ⟨_, _, _, _, vcl_3, in_3, by decide, rfl, fl_RX3_24⟩
set_option maxRecDepth 100000 in
theorem fl_RX3_28 : Cond.fieldLink RX3 28 "ProtocolBench$Knots" "lowest" "[I" ∈ hp_tbl := hp_in (List.mem_append_right _ (List.mem_append_right _ (List.mem_append_left _ (List.mem_of_getElem? (i := 121) (by decide +kernel))))) rfl
set_option maxRecDepth 100000 in
theorem g_RX3_28 : hp_Fg RX3 28 3 8 := ⟨_, _, _, _, vcl_3, in_3, by decide, rfl, fl_RX3_28⟩
set_option maxRecDepth 100000 in
theorem fl_RX3_31 : Cond.fieldLink RX3 31 "ProtocolBench$Knots" "nextMove" "[I" ∈ hp_tbl := hp_in (List.mem_append_right _ (List.mem_append_right _ (List.mem_append_left _ (List.mem_of_getElem? (i := 122) (by decide +kernel))))) rfl
set_option maxRecDepth 100000 in
theorem g_RX3_31 : hp_Fg RX3 31 3 9 := ⟨_, _, _, _, vcl_3, in_3, by decide, rfl, fl_RX3_31⟩
set_option maxRecDepth 100000 in
theorem fl_RX3_34 : Cond.fieldLink RX3 34 "ProtocolBench$Knots" "closedBy" "[I" ∈ hp_tbl := hp_in (List.mem_append_right _ (List.mem_append_right _ (List.mem_append_left _ (List.mem_of_getElem? (i := 123) (by decide +kernel))))) rfl
set_option maxRecDepth 100000 in
theorem g_RX3_34 : hp_Fg RX3 34 3 10 := ⟨_, _, _, _, vcl_3, in_3, by decide, rfl, fl_RX3_34⟩
set_option maxRecDepth 100000 in
theorem fl_RX3_37 : Cond.fieldLink RX3 37 "ProtocolBench$Knots" "path" "[I" ∈ hp_tbl := hp_in (List.mem_append_right _ (List.mem_append_right _ (List.mem_append_left _ (List.mem_of_getElem? (i := 124) (by decide +kernel))))) rfl
set_option maxRecDepth 100000 in
theorem g_RX3_37 : hp_Fg RX3 37 3 11 := ⟨_, _, _, _, vcl_3, in_3, by decide, rfl, fl_RX3_37⟩
set_option maxRecDepth 100000 in
theorem fl_RX3_40 : Cond.fieldLink RX3 40 "ProtocolBench$Knots" "open" "[I" ∈ hp_tbl := hp_in (List.mem_append_right _ (List.mem_append_right _ (List.mem_append_left _ (List.mem_of_getElem? (i := 125) (by decide +kernel))))) rfl
set_option maxRecDepth 100000 in
theorem g_RX3_40 : hp_Fg RX3 40 3 12 := ⟨_, _, _, _, vcl_3, in_3, by decide, rfl, fl_RX3_40⟩
set_option maxRecDepth 100000 in
theorem fl_RX3_43 : Cond.fieldLink RX3 43 "ProtocolBench$Knots" "protocol" "LProtocolBench$Protocol;" ∈ hp_tbl := hp_in (List.mem_append_right _ (List.mem_append_right _ (List.mem_append_left _ (List.mem_of_getElem? (i := 113) (by decide +kernel))))) rfl
set_option maxRecDepth 100000 in
theorem g_RX3_43 : hp_Fg RX3 43 3 0 := ⟨_, _, _, _, vcl_3, in_3, by decide, rfl, fl_RX3_43⟩
set_option maxRecDepth 100000 in
theorem fl_RX3_47 : Cond.fieldLink RX3 47 "ProtocolBench$Knots" "graph" "LProtocolBench$Graph;" ∈ hp_tbl := hp_in (List.mem_append_right _ (List.mem_append_right _ (List.mem_append_left _ (List.mem_of_getElem? (i := 114) (by decide +kernel))))) rfl
set_option maxRecDepth 100000 in
theorem g_RX3_47 : hp_Fg RX3 47 3 1 := ⟨_, _, _, _, vcl_3, in_3, by decide, rfl, fl_RX3_47⟩
set_option maxRecDepth 100000 in
theorem fl_RX3_51 : Cond.fieldLink RX3 51 "ProtocolBench$Knots" "reckoner" "LProtocolBench$Reckoner;" ∈ hp_tbl := hp_in (List.mem_append_right _ (List.mem_append_right _ (List.mem_append_left _ (List.mem_of_getElem? (i := 115) (by decide +kernel))))) rfl
set_option maxRecDepth 100000 in
theorem g_RX3_51 : hp_Fg RX3 51 3 2 := ⟨_, _, _, _, vcl_3, in_3, by decide, rfl, fl_RX3_51⟩
set_option maxRecDepth 100000 in
theorem fl_RX3_61 : Cond.fieldLink RX3 61 "ProtocolBench$Graph" "states" "I" ∈ hp_tbl := hp_in (List.mem_append_right _ (List.mem_append_left _ (List.mem_of_getElem? (i := 232) (by decide +kernel)))) rfl
set_option maxRecDepth 100000 in
theorem g_RX3_61 : hp_Fg RX3 61 2 2 := ⟨_, _, _, _, vcl_2, in_2, by decide, rfl, fl_RX3_61⟩
set_option maxRecDepth 100000 in
theorem fl_RX3_85 : Cond.fieldLink RX3 85 "ProtocolBench$Knots" "isFairAsked" "Z" ∈ hp_tbl := hp_in (List.mem_append_right _ (List.mem_append_right _ (List.mem_append_left _ (List.mem_of_getElem? (i := 132) (by decide +kernel))))) rfl
set_option maxRecDepth 100000 in
theorem g_RX3_85 : hp_Fg RX3 85 3 19 := ⟨_, _, _, _, vcl_3, in_3, by decide, rfl, fl_RX3_85⟩
set_option maxRecDepth 100000 in
theorem p_RX3_85 : hp_Fp RX3 85 3 19 .boolean := ⟨_, _, _, _, tyX3, vcl_3, in_3, by decide, rfl, fl_RX3_85, tyX3_ok, nmX3, rfl, rfl⟩
set_option maxRecDepth 100000 in
theorem fl_RX3_89 : Cond.fieldLink RX3 89 "ProtocolBench$Protocol" "roles" "LProtocolBench$Roles;" ∈ hp_tbl := hp_in (List.mem_append_right _ (List.mem_append_left _ (List.mem_of_getElem? (i := 179) (by decide +kernel)))) rfl
set_option maxRecDepth 100000 in
theorem g_RX3_89 : hp_Fg RX3 89 4 2 := ⟨_, _, _, _, vcl_4, in_4, by decide, rfl, fl_RX3_89⟩
set_option maxRecDepth 100000 in
theorem fl_RX3_101 : Cond.fieldLink RX3 101 "ProtocolBench$Knots" "everyone" "I" ∈ hp_tbl := hp_in (List.mem_append_right _ (List.mem_append_right _ (List.mem_append_left _ (List.mem_of_getElem? (i := 129) (by decide +kernel))))) rfl
set_option maxRecDepth 100000 in
theorem g_RX3_101 : hp_Fg RX3 101 3 16 := ⟨_, _, _, _, vcl_3, in_3, by decide, rfl, fl_RX3_101⟩
set_option maxRecDepth 100000 in
theorem p_RX3_101 : hp_Fp RX3 101 3 16 .int := ⟨_, _, _, _, tyX3, vcl_3, in_3, by decide, rfl, fl_RX3_101, tyX3_ok, nmX3, rfl, rfl⟩
set_option maxRecDepth 100000 in
theorem fl_RX3_104 : Cond.fieldLink RX3 104 "ProtocolBench$Knots" "pathLength" "I" ∈ hp_tbl := hp_in (List.mem_append_right _ (List.mem_append_right _ (List.mem_append_left _ (List.mem_of_getElem? (i := 126) (by decide +kernel))))) rfl
set_option maxRecDepth 100000 in
theorem g_RX3_104 : hp_Fg RX3 104 3 13 := ⟨_, _, _, _, vcl_3, in_3, by decide, rfl, fl_RX3_104⟩
set_option maxRecDepth 100000 in
theorem p_RX3_104 : hp_Fp RX3 104 3 13 .int := ⟨_, _, _, _, tyX3, vcl_3, in_3, by decide, rfl, fl_RX3_104, tyX3_ok, nmX3, rfl, rfl⟩
set_option maxRecDepth 100000 in
theorem fl_RX3_107 : Cond.fieldLink RX3 107 "ProtocolBench$Knots" "openCount" "I" ∈ hp_tbl := hp_in (List.mem_append_right _ (List.mem_append_right _ (List.mem_append_left _ (List.mem_of_getElem? (i := 127) (by decide +kernel))))) rfl
set_option maxRecDepth 100000 in
theorem g_RX3_107 : hp_Fg RX3 107 3 14 := ⟨_, _, _, _, vcl_3, in_3, by decide, rfl, fl_RX3_107⟩
set_option maxRecDepth 100000 in
theorem p_RX3_107 : hp_Fp RX3 107 3 14 .int := ⟨_, _, _, _, tyX3, vcl_3, in_3, by decide, rfl, fl_RX3_107, tyX3_ok, nmX3, rfl, rfl⟩
set_option maxRecDepth 100000 in
theorem fl_RX3_110 : Cond.fieldLink RX3 110 "ProtocolBench$Knots" "enteredCount" "I" ∈ hp_tbl := hp_in (List.mem_append_right _ (List.mem_append_right _ (List.mem_append_left _ (List.mem_of_getElem? (i := 128) (by decide +kernel))))) rfl
set_option maxRecDepth 100000 in
theorem g_RX3_110 : hp_Fg RX3 110 3 15 := ⟨_, _, _, _, vcl_3, in_3, by decide, rfl, fl_RX3_110⟩
set_option maxRecDepth 100000 in
theorem p_RX3_110 : hp_Fp RX3 110 3 15 .int := ⟨_, _, _, _, tyX3, vcl_3, in_3, by decide, rfl, fl_RX3_110, tyX3_ok, nmX3, rfl, rfl⟩
set_option maxRecDepth 100000 in
theorem fl_RX3_119 : Cond.fieldLink RX3 119 "ProtocolBench$Graph" "firstMove" "[I" ∈ hp_tbl := hp_in (List.mem_append_right _ (List.mem_append_right _ (List.mem_append_left _ (List.mem_of_getElem? (i := 7) (by decide +kernel))))) rfl
set_option maxRecDepth 100000 in
theorem g_RX3_119 : hp_Fg RX3 119 2 8 := ⟨_, _, _, _, vcl_2, in_2, by decide, rfl, fl_RX3_119⟩
set_option maxRecDepth 100000 in
theorem fl_RX3_122 : Cond.fieldLink RX3 122 "ProtocolBench$Graph" "moveTo" "[I" ∈ hp_tbl := hp_in (List.mem_append_right _ (List.mem_append_right _ (List.mem_append_left _ (List.mem_of_getElem? (i := 11) (by decide +kernel))))) rfl
set_option maxRecDepth 100000 in
theorem g_RX3_122 : hp_Fg RX3 122 2 9 := ⟨_, _, _, _, vcl_2, in_2, by decide, rfl, fl_RX3_122⟩
set_option maxRecDepth 100000 in
theorem fl_RX3_141 : Cond.fieldLink RX3 141 "ProtocolBench$Knots" "movedWithin" "I" ∈ hp_tbl := hp_in (List.mem_append_right _ (List.mem_append_right _ (List.mem_append_left _ (List.mem_of_getElem? (i := 130) (by decide +kernel))))) rfl
set_option maxRecDepth 100000 in
theorem g_RX3_141 : hp_Fg RX3 141 3 17 := ⟨_, _, _, _, vcl_3, in_3, by decide, rfl, fl_RX3_141⟩
set_option maxRecDepth 100000 in
theorem p_RX3_141 : hp_Fp RX3 141 3 17 .int := ⟨_, _, _, _, tyX3, vcl_3, in_3, by decide, rfl, fl_RX3_141, tyX3_ok, nmX3, rfl, rfl⟩
set_option maxRecDepth 100000 in
theorem fl_RX3_144 : Cond.fieldLink RX3 144 "ProtocolBench$Knots" "idleSomewhere" "I" ∈ hp_tbl := hp_in (List.mem_append_right _ (List.mem_append_right _ (List.mem_append_left _ (List.mem_of_getElem? (i := 131) (by decide +kernel))))) rfl
set_option maxRecDepth 100000 in
theorem g_RX3_144 : hp_Fg RX3 144 3 18 := ⟨_, _, _, _, vcl_3, in_3, by decide, rfl, fl_RX3_144⟩
set_option maxRecDepth 100000 in
theorem p_RX3_144 : hp_Fp RX3 144 3 18 .int := ⟨_, _, _, _, tyX3, vcl_3, in_3, by decide, rfl, fl_RX3_144, tyX3_ok, nmX3, rfl, rfl⟩
set_option maxRecDepth 100000 in
theorem fl_RX4_14 : Cond.fieldLink RX4 14 "ProtocolBench$Protocol" "shared" "LProtocolBench$Variables;" ∈ hp_tbl := hp_in (List.mem_append_right _ (List.mem_append_left _ (List.mem_of_getElem? (i := 170) (by decide +kernel)))) rfl
set_option maxRecDepth 100000 in
theorem g_RX4_14 : hp_Fg RX4 14 4 0 := ⟨_, _, _, _, vcl_4, in_4, by decide, rfl, fl_RX4_14⟩
set_option maxRecDepth 100000 in
theorem fl_RX4_20 : Cond.fieldLink RX4 20 "ProtocolBench$Protocol" "owns" "LProtocolBench$Variables;" ∈ hp_tbl := hp_in (List.mem_append_right _ (List.mem_append_left _ (List.mem_of_getElem? (i := 173) (by decide +kernel)))) rfl
set_option maxRecDepth 100000 in
theorem g_RX4_20 : hp_Fg RX4 20 4 1 := ⟨_, _, _, _, vcl_4, in_4, by decide, rfl, fl_RX4_20⟩
set_option maxRecDepth 100000 in
theorem fl_RX4_26 : Cond.fieldLink RX4 26 "ProtocolBench$Protocol" "roles" "LProtocolBench$Roles;" ∈ hp_tbl := hp_in (List.mem_append_right _ (List.mem_append_left _ (List.mem_of_getElem? (i := 176) (by decide +kernel)))) rfl
set_option maxRecDepth 100000 in
theorem g_RX4_26 : hp_Fg RX4 26 4 2 := ⟨_, _, _, _, vcl_4, in_4, by decide, rfl, fl_RX4_26⟩
set_option maxRecDepth 100000 in
theorem fl_RX4_35 : Cond.fieldLink RX4 35 "ProtocolBench$Protocol" "exprs" "LProtocolBench$Exprs;" ∈ hp_tbl := hp_in (List.mem_append_right _ (List.mem_append_left _ (List.mem_of_getElem? (i := 180) (by decide +kernel)))) rfl
set_option maxRecDepth 100000 in
theorem g_RX4_35 : hp_Fg RX4 35 4 3 := ⟨_, _, _, _, vcl_4, in_4, by decide, rfl, fl_RX4_35⟩
set_option maxRecDepth 100000 in
theorem fl_RX4_42 : Cond.fieldLink RX4 42 "ProtocolBench$Protocol" "steps" "LProtocolBench$Steps;" ∈ hp_tbl := hp_in (List.mem_append_right _ (List.mem_append_left _ (List.mem_of_getElem? (i := 184) (by decide +kernel)))) rfl
set_option maxRecDepth 100000 in
theorem g_RX4_42 : hp_Fg RX4 42 4 4 := ⟨_, _, _, _, vcl_4, in_4, by decide, rfl, fl_RX4_42⟩
set_option maxRecDepth 100000 in
theorem fl_RX4_46 : Cond.fieldLink RX4 46 "ProtocolBench$Protocol" "room" "[I" ∈ hp_tbl := hp_in (List.mem_append_right _ (List.mem_append_left _ (List.mem_of_getElem? (i := 187) (by decide +kernel)))) rfl
set_option maxRecDepth 100000 in
theorem g_RX4_46 : hp_Fg RX4 46 4 5 := ⟨_, _, _, _, vcl_4, in_4, by decide, rfl, fl_RX4_46⟩
set_option maxRecDepth 100000 in
theorem fl_RX4_50 : Cond.fieldLink RX4 50 "ProtocolBench$Protocol" "isLoose" "[Z" ∈ hp_tbl := hp_in (List.mem_append_right _ (List.mem_append_left _ (List.mem_of_getElem? (i := 189) (by decide +kernel)))) rfl
set_option maxRecDepth 100000 in
theorem g_RX4_50 : hp_Fg RX4 50 4 6 := ⟨_, _, _, _, vcl_4, in_4, by decide, rfl, fl_RX4_50⟩
set_option maxRecDepth 100000 in
theorem fl_RX4_54 : Cond.fieldLink RX4 54 "ProtocolBench$Protocol" "losesLetters" "[Z" ∈ hp_tbl := hp_in (List.mem_append_right _ (List.mem_append_left _ (List.mem_of_getElem? (i := 191) (by decide +kernel)))) rfl
set_option maxRecDepth 100000 in
theorem g_RX4_54 : hp_Fg RX4 54 4 7 := ⟨_, _, _, _, vcl_4, in_4, by decide, rfl, fl_RX4_54⟩
set_option maxRecDepth 100000 in
theorem fl_RX4_57 : Cond.fieldLink RX4 57 "ProtocolBench$Protocol" "channels" "I" ∈ hp_tbl := hp_in (List.mem_append_right _ (List.mem_append_left _ (List.mem_of_getElem? (i := 193) (by decide +kernel)))) rfl
set_option maxRecDepth 100000 in
theorem g_RX4_57 : hp_Fg RX4 57 4 8 := ⟨_, _, _, _, vcl_4, in_4, by decide, rfl, fl_RX4_57⟩
set_option maxRecDepth 100000 in
theorem p_RX4_57 : hp_Fp RX4 57 4 8 .int := ⟨_, _, _, _, tyX4, vcl_4, in_4, by decide, rfl, fl_RX4_57, tyX4_ok, nmX4, rfl, rfl⟩
set_option maxRecDepth 100000 in
theorem fl_RX4_81 : Cond.fieldLink RX4 81 "ProtocolBench$Steps" "roleOf" "[I" ∈ hp_tbl := hp_in (List.mem_append_right _ (List.mem_append_left _ (List.mem_of_getElem? (i := 127) (by decide +kernel)))) rfl
set_option maxRecDepth 100000 in
theorem g_RX4_81 : hp_Fg RX4 81 9 0 := ⟨_, _, _, _, vcl_9, in_9, by decide, rfl, fl_RX4_81⟩
set_option maxRecDepth 100000 in
theorem fl_RX4_84 : Cond.fieldLink RX4 84 "ProtocolBench$Protocol" "takesAlike" "Z" ∈ hp_tbl := hp_in (List.mem_append_right _ (List.mem_append_left _ (List.mem_of_getElem? (i := 196) (by decide +kernel)))) rfl
set_option maxRecDepth 100000 in
theorem g_RX4_84 : hp_Fg RX4 84 4 9 := ⟨_, _, _, _, vcl_4, in_4, by decide, rfl, fl_RX4_84⟩
set_option maxRecDepth 100000 in
theorem fl_RX4_95 : Cond.fieldLink RX4 95 "ProtocolBench$Roles" "told" "I" ∈ hp_tbl := hp_in (List.mem_append_right _ (List.mem_append_left _ (List.mem_of_getElem? (i := 69) (by decide +kernel)))) rfl
set_option maxRecDepth 100000 in
theorem g_RX4_95 : hp_Fg RX4 95 6 1 := ⟨_, _, _, _, vcl_6, in_6, by decide, rfl, fl_RX4_95⟩
set_option maxRecDepth 100000 in
theorem fl_RX4_98 : Cond.fieldLink RX4 98 "ProtocolBench$Variables" "told" "[I" ∈ hp_tbl := hp_in (List.mem_append_right _ (List.mem_append_left _ (List.mem_of_getElem? (i := 38) (by decide +kernel)))) rfl
set_option maxRecDepth 100000 in
theorem g_RX4_98 : hp_Fg RX4 98 10 0 := ⟨_, _, _, _, vcl_10, in_10, by decide, rfl, fl_RX4_98⟩
set_option maxRecDepth 100000 in
theorem fl_RX4_107 : Cond.fieldLink RX4 107 "ProtocolBench$Steps" "told" "I" ∈ hp_tbl := hp_in (List.mem_append_right _ (List.mem_append_left _ (List.mem_of_getElem? (i := 149) (by decide +kernel)))) rfl
set_option maxRecDepth 100000 in
theorem g_RX4_107 : hp_Fg RX4 107 9 8 := ⟨_, _, _, _, vcl_9, in_9, by decide, rfl, fl_RX4_107⟩
set_option maxRecDepth 100000 in
theorem fl_RX4_108 : Cond.fieldLink RX4 108 "ProtocolBench$Steps" "guard" "[I" ∈ hp_tbl := hp_in (List.mem_append_right _ (List.mem_append_left _ (List.mem_of_getElem? (i := 134) (by decide +kernel)))) rfl
set_option maxRecDepth 100000 in
theorem g_RX4_108 : hp_Fg RX4 108 9 3 := ⟨_, _, _, _, vcl_9, in_9, by decide, rfl, fl_RX4_108⟩
set_option maxRecDepth 100000 in
theorem fl_RX4_114 : Cond.fieldLink RX4 114 "ProtocolBench$Steps" "acts" "[I" ∈ hp_tbl := hp_in (List.mem_append_right _ (List.mem_append_left _ (List.mem_of_getElem? (i := 137) (by decide +kernel)))) rfl
set_option maxRecDepth 100000 in
theorem g_RX4_114 : hp_Fg RX4 114 9 4 := ⟨_, _, _, _, vcl_9, in_9, by decide, rfl, fl_RX4_114⟩
set_option maxRecDepth 100000 in
theorem fl_RX4_117 : Cond.fieldLink RX4 117 "ProtocolBench$Steps" "actKind" "[I" ∈ hp_tbl := hp_in (List.mem_append_right _ (List.mem_append_left _ (List.mem_of_getElem? (i := 141) (by decide +kernel)))) rfl
set_option maxRecDepth 100000 in
theorem g_RX4_117 : hp_Fg RX4 117 9 5 := ⟨_, _, _, _, vcl_9, in_9, by decide, rfl, fl_RX4_117⟩
set_option maxRecDepth 100000 in
theorem fl_RX4_120 : Cond.fieldLink RX4 120 "ProtocolBench$Steps" "actB" "[I" ∈ hp_tbl := hp_in (List.mem_append_right _ (List.mem_append_left _ (List.mem_of_getElem? (i := 146) (by decide +kernel)))) rfl
set_option maxRecDepth 100000 in
theorem g_RX4_120 : hp_Fg RX4 120 9 7 := ⟨_, _, _, _, vcl_9, in_9, by decide, rfl, fl_RX4_120⟩
set_option maxRecDepth 100000 in
theorem fl_RX4_138 : Cond.fieldLink RX4 138 "ProtocolBench$Roles" "members" "[I" ∈ hp_tbl := hp_in (List.mem_append_right _ (List.mem_append_left _ (List.mem_of_getElem? (i := 64) (by decide +kernel)))) rfl
set_option maxRecDepth 100000 in
theorem g_RX4_138 : hp_Fg RX4 138 6 0 := ⟨_, _, _, _, vcl_6, in_6, by decide, rfl, fl_RX4_138⟩
set_option maxRecDepth 100000 in
theorem fl_RX5_12 : Cond.fieldLink RX5 12 "ProtocolBench$Reckoner" "row" "LProtocolBench$Row;" ∈ hp_tbl := hp_in (List.mem_append_right _ (List.mem_append_right _ (List.mem_append_left _ (List.mem_of_getElem? (i := 99) (by decide +kernel))))) rfl
set_option maxRecDepth 100000 in
theorem g_RX5_12 : hp_Fg RX5 12 5 2 := ⟨_, _, _, _, vcl_5, in_5, by decide, rfl, fl_RX5_12⟩
set_option maxRecDepth 100000 in
theorem fl_RX5_18 : Cond.fieldLink RX5 18 "ProtocolBench$Reckoner" "protocol" "LProtocolBench$Protocol;" ∈ hp_tbl := hp_in (List.mem_append_right _ (List.mem_append_right _ (List.mem_append_left _ (List.mem_of_getElem? (i := 97) (by decide +kernel))))) rfl
set_option maxRecDepth 100000 in
theorem g_RX5_18 : hp_Fg RX5 18 5 0 := ⟨_, _, _, _, vcl_5, in_5, by decide, rfl, fl_RX5_18⟩
set_option maxRecDepth 100000 in
theorem fl_RX5_22 : Cond.fieldLink RX5 22 "ProtocolBench$Reckoner" "graph" "LProtocolBench$Graph;" ∈ hp_tbl := hp_in (List.mem_append_right _ (List.mem_append_right _ (List.mem_append_left _ (List.mem_of_getElem? (i := 98) (by decide +kernel))))) rfl
set_option maxRecDepth 100000 in
theorem g_RX5_22 : hp_Fg RX5 22 5 1 := ⟨_, _, _, _, vcl_5, in_5, by decide, rfl, fl_RX5_22⟩
set_option maxRecDepth 100000 in
theorem fl_RX5_32 : Cond.fieldLink RX5 32 "ProtocolBench$Protocol" "exprs" "LProtocolBench$Exprs;" ∈ hp_tbl := hp_in (List.mem_append_right _ (List.mem_append_left _ (List.mem_of_getElem? (i := 181) (by decide +kernel)))) rfl
set_option maxRecDepth 100000 in
theorem g_RX5_32 : hp_Fg RX5 32 4 3 := ⟨_, _, _, _, vcl_4, in_4, by decide, rfl, fl_RX5_32⟩
set_option maxRecDepth 100000 in
theorem fl_RX5_65 : Cond.fieldLink RX5 65 "ProtocolBench$Exprs" "value" "[I" ∈ hp_tbl := hp_in (List.mem_append_right _ (List.mem_append_left _ (List.mem_of_getElem? (i := 86) (by decide +kernel)))) rfl
set_option maxRecDepth 100000 in
theorem g_RX5_65 : hp_Fg RX5 65 1 0 := ⟨_, _, _, _, vcl_1, in_1, by decide, rfl, fl_RX5_65⟩
set_option maxRecDepth 100000 in
theorem fl_RX6_9 : Cond.fieldLink RX6 9 "ProtocolBench$Roles" "members" "[I" ∈ hp_tbl := hp_in (List.mem_append_right _ (List.mem_append_left _ (List.mem_of_getElem? (i := 62) (by decide +kernel)))) rfl
set_option maxRecDepth 100000 in
theorem g_RX6_9 : hp_Fg RX6 9 6 0 := ⟨_, _, _, _, vcl_6, in_6, by decide, rfl, fl_RX6_9⟩
set_option maxRecDepth 100000 in
theorem fl_RX6_15 : Cond.fieldLink RX6 15 "ProtocolBench$Roles" "endBits" "[I" ∈ hp_tbl := hp_in (List.mem_append_right _ (List.mem_append_left _ (List.mem_of_getElem? (i := 70) (by decide +kernel)))) rfl
set_option maxRecDepth 100000 in
theorem g_RX6_15 : hp_Fg RX6 15 6 2 := ⟨_, _, _, _, vcl_6, in_6, by decide, rfl, fl_RX6_15⟩
set_option maxRecDepth 100000 in
theorem fl_RX6_18 : Cond.fieldLink RX6 18 "ProtocolBench$Roles" "told" "I" ∈ hp_tbl := hp_in (List.mem_append_right _ (List.mem_append_left _ (List.mem_of_getElem? (i := 66) (by decide +kernel)))) rfl
set_option maxRecDepth 100000 in
theorem g_RX6_18 : hp_Fg RX6 18 6 1 := ⟨_, _, _, _, vcl_6, in_6, by decide, rfl, fl_RX6_18⟩
set_option maxRecDepth 100000 in
theorem p_RX6_18 : hp_Fp RX6 18 6 1 .int := ⟨_, _, _, _, tyX6, vcl_6, in_6, by decide, rfl, fl_RX6_18, tyX6_ok, nmX6, rfl, rfl⟩
set_option maxRecDepth 100000 in
theorem fl_RX7_11 : Cond.fieldLink RX7 11 "ProtocolBench$Row" "words" "[I" ∈ hp_tbl := hp_in (List.mem_append_right _ (List.mem_append_right _ (List.mem_append_left _ (List.mem_of_getElem? (i := 68) (by decide +kernel))))) rfl
set_option maxRecDepth 100000 in
theorem g_RX7_11 : hp_Fg RX7 11 7 0 := ⟨_, _, _, _, vcl_7, in_7, by decide, rfl, fl_RX7_11⟩
set_option maxRecDepth 100000 in
theorem fl_RX8_12 : Cond.fieldLink RX8 12 "ProtocolBench$Searcher" "now" "LProtocolBench$Row;" ∈ hp_tbl := hp_in (List.mem_append_right _ (List.mem_append_right _ (List.mem_append_left _ (List.mem_of_getElem? (i := 75) (by decide +kernel))))) rfl
set_option maxRecDepth 100000 in
theorem g_RX8_12 : hp_Fg RX8 12 8 2 := ⟨_, _, _, _, vcl_8, in_8, by decide, rfl, fl_RX8_12⟩
set_option maxRecDepth 100000 in
theorem fl_RX8_18 : Cond.fieldLink RX8 18 "ProtocolBench$Searcher" "then" "LProtocolBench$Row;" ∈ hp_tbl := hp_in (List.mem_append_right _ (List.mem_append_right _ (List.mem_append_left _ (List.mem_of_getElem? (i := 76) (by decide +kernel))))) rfl
set_option maxRecDepth 100000 in
theorem g_RX8_18 : hp_Fg RX8 18 8 3 := ⟨_, _, _, _, vcl_8, in_8, by decide, rfl, fl_RX8_18⟩
set_option maxRecDepth 100000 in
theorem fl_RX8_21 : Cond.fieldLink RX8 21 "ProtocolBench$Searcher" "picked" "[I" ∈ hp_tbl := hp_in (List.mem_append_right _ (List.mem_append_right _ (List.mem_append_left _ (List.mem_of_getElem? (i := 77) (by decide +kernel))))) rfl
set_option maxRecDepth 100000 in
theorem g_RX8_21 : hp_Fg RX8 21 8 4 := ⟨_, _, _, _, vcl_8, in_8, by decide, rfl, fl_RX8_21⟩
set_option maxRecDepth 100000 in
theorem fl_RX8_25 : Cond.fieldLink RX8 25 "ProtocolBench$Searcher" "protocol" "LProtocolBench$Protocol;" ∈ hp_tbl := hp_in (List.mem_append_right _ (List.mem_append_right _ (List.mem_append_left _ (List.mem_of_getElem? (i := 73) (by decide +kernel))))) rfl
set_option maxRecDepth 100000 in
theorem g_RX8_25 : hp_Fg RX8 25 8 0 := ⟨_, _, _, _, vcl_8, in_8, by decide, rfl, fl_RX8_25⟩
set_option maxRecDepth 100000 in
theorem fl_RX8_29 : Cond.fieldLink RX8 29 "ProtocolBench$Searcher" "graph" "LProtocolBench$Graph;" ∈ hp_tbl := hp_in (List.mem_append_right _ (List.mem_append_right _ (List.mem_append_left _ (List.mem_of_getElem? (i := 74) (by decide +kernel))))) rfl
set_option maxRecDepth 100000 in
theorem g_RX8_29 : hp_Fg RX8 29 8 1 := ⟨_, _, _, _, vcl_8, in_8, by decide, rfl, fl_RX8_29⟩
set_option maxRecDepth 100000 in
theorem fl_RX8_48 : Cond.fieldLink RX8 48 "ProtocolBench$Graph" "firstMove" "[I" ∈ hp_tbl := hp_in (List.mem_append_right _ (List.mem_append_right _ (List.mem_append_left _ (List.mem_of_getElem? (i := 6) (by decide +kernel))))) rfl
set_option maxRecDepth 100000 in
theorem g_RX8_48 : hp_Fg RX8 48 2 8 := ⟨_, _, _, _, vcl_2, in_2, by decide, rfl, fl_RX8_48⟩
set_option maxRecDepth 100000 in
theorem fl_RX8_51 : Cond.fieldLink RX8 51 "ProtocolBench$Graph" "moveCount" "I" ∈ hp_tbl := hp_in (List.mem_append_right _ (List.mem_append_left _ (List.mem_of_getElem? (i := 236) (by decide +kernel)))) rfl
set_option maxRecDepth 100000 in
theorem g_RX8_51 : hp_Fg RX8 51 2 3 := ⟨_, _, _, _, vcl_2, in_2, by decide, rfl, fl_RX8_51⟩
set_option maxRecDepth 100000 in
theorem fl_RX8_55 : Cond.fieldLink RX8 55 "ProtocolBench$Protocol" "roles" "LProtocolBench$Roles;" ∈ hp_tbl := hp_in (List.mem_append_right _ (List.mem_append_left _ (List.mem_of_getElem? (i := 178) (by decide +kernel)))) rfl
set_option maxRecDepth 100000 in
theorem g_RX8_55 : hp_Fg RX8 55 4 2 := ⟨_, _, _, _, vcl_4, in_4, by decide, rfl, fl_RX8_55⟩
set_option maxRecDepth 100000 in
theorem fl_RX8_59 : Cond.fieldLink RX8 59 "ProtocolBench$Roles" "told" "I" ∈ hp_tbl := hp_in (List.mem_append_right _ (List.mem_append_left _ (List.mem_of_getElem? (i := 68) (by decide +kernel)))) rfl
set_option maxRecDepth 100000 in
theorem g_RX8_59 : hp_Fg RX8 59 6 1 := ⟨_, _, _, _, vcl_6, in_6, by decide, rfl, fl_RX8_59⟩
set_option maxRecDepth 100000 in
theorem fl_RX8_64 : Cond.fieldLink RX8 64 "ProtocolBench$Roles" "members" "[I" ∈ hp_tbl := hp_in (List.mem_append_right _ (List.mem_append_left _ (List.mem_of_getElem? (i := 63) (by decide +kernel)))) rfl
set_option maxRecDepth 100000 in
theorem g_RX8_64 : hp_Fg RX8 64 6 0 := ⟨_, _, _, _, vcl_6, in_6, by decide, rfl, fl_RX8_64⟩
set_option maxRecDepth 100000 in
theorem fl_RX8_67 : Cond.fieldLink RX8 67 "ProtocolBench$Graph" "isSpent" "Z" ∈ hp_tbl := hp_in (List.mem_append_right _ (List.mem_append_left _ (List.mem_of_getElem? (i := 229) (by decide +kernel)))) rfl
set_option maxRecDepth 100000 in
theorem g_RX8_67 : hp_Fg RX8 67 2 1 := ⟨_, _, _, _, vcl_2, in_2, by decide, rfl, fl_RX8_67⟩
set_option maxRecDepth 100000 in
theorem fl_RX8_75 : Cond.fieldLink RX8 75 "ProtocolBench$Protocol" "channels" "I" ∈ hp_tbl := hp_in (List.mem_append_right _ (List.mem_append_left _ (List.mem_of_getElem? (i := 194) (by decide +kernel)))) rfl
set_option maxRecDepth 100000 in
theorem g_RX8_75 : hp_Fg RX8 75 4 8 := ⟨_, _, _, _, vcl_4, in_4, by decide, rfl, fl_RX8_75⟩
set_option maxRecDepth 100000 in
theorem fl_RX8_78 : Cond.fieldLink RX8 78 "ProtocolBench$Protocol" "losesLetters" "[Z" ∈ hp_tbl := hp_in (List.mem_append_right _ (List.mem_append_left _ (List.mem_of_getElem? (i := 192) (by decide +kernel)))) rfl
set_option maxRecDepth 100000 in
theorem g_RX8_78 : hp_Fg RX8 78 4 7 := ⟨_, _, _, _, vcl_4, in_4, by decide, rfl, fl_RX8_78⟩
set_option maxRecDepth 100000 in
theorem fl_RX8_86 : Cond.fieldLink RX8 86 "ProtocolBench$Protocol" "steps" "LProtocolBench$Steps;" ∈ hp_tbl := hp_in (List.mem_append_right _ (List.mem_append_left _ (List.mem_of_getElem? (i := 185) (by decide +kernel)))) rfl
set_option maxRecDepth 100000 in
theorem g_RX8_86 : hp_Fg RX8 86 4 4 := ⟨_, _, _, _, vcl_4, in_4, by decide, rfl, fl_RX8_86⟩
set_option maxRecDepth 100000 in
theorem fl_RX8_94 : Cond.fieldLink RX8 94 "ProtocolBench$Steps" "told" "I" ∈ hp_tbl := hp_in (List.mem_append_right _ (List.mem_append_left _ (List.mem_of_getElem? (i := 148) (by decide +kernel)))) rfl
set_option maxRecDepth 100000 in
theorem g_RX8_94 : hp_Fg RX8 94 9 8 := ⟨_, _, _, _, vcl_9, in_9, by decide, rfl, fl_RX8_94⟩
set_option maxRecDepth 100000 in
theorem fl_RX8_97 : Cond.fieldLink RX8 97 "ProtocolBench$Steps" "roleOf" "[I" ∈ hp_tbl := hp_in (List.mem_append_right _ (List.mem_append_left _ (List.mem_of_getElem? (i := 126) (by decide +kernel)))) rfl
set_option maxRecDepth 100000 in
theorem g_RX8_97 : hp_Fg RX8 97 9 0 := ⟨_, _, _, _, vcl_9, in_9, by decide, rfl, fl_RX8_97⟩
set_option maxRecDepth 100000 in
theorem fl_RX8_100 : Cond.fieldLink RX8 100 "ProtocolBench$Steps" "from" "[I" ∈ hp_tbl := hp_in (List.mem_append_right _ (List.mem_append_left _ (List.mem_of_getElem? (i := 129) (by decide +kernel)))) rfl
set_option maxRecDepth 100000 in
theorem g_RX8_100 : hp_Fg RX8 100 9 1 := ⟨_, _, _, _, vcl_9, in_9, by decide, rfl, fl_RX8_100⟩
set_option maxRecDepth 100000 in
theorem fl_RX8_103 : Cond.fieldLink RX8 103 "ProtocolBench$Protocol" "exprs" "LProtocolBench$Exprs;" ∈ hp_tbl := hp_in (List.mem_append_right _ (List.mem_append_left _ (List.mem_of_getElem? (i := 182) (by decide +kernel)))) rfl
set_option maxRecDepth 100000 in
theorem g_RX8_103 : hp_Fg RX8 103 4 3 := ⟨_, _, _, _, vcl_4, in_4, by decide, rfl, fl_RX8_103⟩
set_option maxRecDepth 100000 in
theorem fl_RX8_120 : Cond.fieldLink RX8 120 "ProtocolBench$Steps" "guard" "[I" ∈ hp_tbl := hp_in (List.mem_append_right _ (List.mem_append_left _ (List.mem_of_getElem? (i := 133) (by decide +kernel)))) rfl
set_option maxRecDepth 100000 in
theorem g_RX8_120 : hp_Fg RX8 120 9 3 := ⟨_, _, _, _, vcl_9, in_9, by decide, rfl, fl_RX8_120⟩
set_option maxRecDepth 100000 in
theorem fl_RX8_123 : Cond.fieldLink RX8 123 "ProtocolBench$Exprs" "value" "[I" ∈ hp_tbl := hp_in (List.mem_append_right _ (List.mem_append_left _ (List.mem_of_getElem? (i := 85) (by decide +kernel)))) rfl
set_option maxRecDepth 100000 in
theorem g_RX8_123 : hp_Fg RX8 123 1 0 := ⟨_, _, _, _, vcl_1, in_1, by decide, rfl, fl_RX8_123⟩
set_option maxRecDepth 100000 in
theorem fl_RX8_126 : Cond.fieldLink RX8 126 "ProtocolBench$Steps" "acts" "[I" ∈ hp_tbl := hp_in (List.mem_append_right _ (List.mem_append_left _ (List.mem_of_getElem? (i := 136) (by decide +kernel)))) rfl
set_option maxRecDepth 100000 in
theorem g_RX8_126 : hp_Fg RX8 126 9 4 := ⟨_, _, _, _, vcl_9, in_9, by decide, rfl, fl_RX8_126⟩
set_option maxRecDepth 100000 in
theorem fl_RX8_129 : Cond.fieldLink RX8 129 "ProtocolBench$Steps" "actA" "[I" ∈ hp_tbl := hp_in (List.mem_append_right _ (List.mem_append_left _ (List.mem_of_getElem? (i := 143) (by decide +kernel)))) rfl
set_option maxRecDepth 100000 in
theorem g_RX8_129 : hp_Fg RX8 129 9 6 := ⟨_, _, _, _, vcl_9, in_9, by decide, rfl, fl_RX8_129⟩
set_option maxRecDepth 100000 in
theorem fl_RX8_132 : Cond.fieldLink RX8 132 "ProtocolBench$Steps" "actKind" "[I" ∈ hp_tbl := hp_in (List.mem_append_right _ (List.mem_append_left _ (List.mem_of_getElem? (i := 140) (by decide +kernel)))) rfl
set_option maxRecDepth 100000 in
theorem g_RX8_132 : hp_Fg RX8 132 9 5 := ⟨_, _, _, _, vcl_9, in_9, by decide, rfl, fl_RX8_132⟩
set_option maxRecDepth 100000 in
theorem fl_RX8_139 : Cond.fieldLink RX8 139 "ProtocolBench$Protocol" "room" "[I" ∈ hp_tbl := hp_in (List.mem_append_right _ (List.mem_append_left _ (List.mem_of_getElem? (i := 188) (by decide +kernel)))) rfl
set_option maxRecDepth 100000 in
theorem g_RX8_139 : hp_Fg RX8 139 4 5 := ⟨_, _, _, _, vcl_4, in_4, by decide, rfl, fl_RX8_139⟩
set_option maxRecDepth 100000 in
theorem fl_RX8_155 : Cond.fieldLink RX8 155 "ProtocolBench$Steps" "to" "[I" ∈ hp_tbl := hp_in (List.mem_append_right _ (List.mem_append_left _ (List.mem_of_getElem? (i := 131) (by decide +kernel)))) rfl
set_option maxRecDepth 100000 in
theorem g_RX8_155 : hp_Fg RX8 155 9 2 := ⟨_, _, _, _, vcl_9, in_9, by decide, rfl, fl_RX8_155⟩
set_option maxRecDepth 100000 in
theorem fl_RX8_180 : Cond.fieldLink RX8 180 "ProtocolBench$Steps" "actB" "[I" ∈ hp_tbl := hp_in (List.mem_append_right _ (List.mem_append_left _ (List.mem_of_getElem? (i := 145) (by decide +kernel)))) rfl
set_option maxRecDepth 100000 in
theorem g_RX8_180 : hp_Fg RX8 180 9 7 := ⟨_, _, _, _, vcl_9, in_9, by decide, rfl, fl_RX8_180⟩
set_option maxRecDepth 100000 in
theorem fl_RX8_200 : Cond.fieldLink RX8 200 "ProtocolBench$Protocol" "shared" "LProtocolBench$Variables;" ∈ hp_tbl := hp_in (List.mem_append_right _ (List.mem_append_left _ (List.mem_of_getElem? (i := 172) (by decide +kernel)))) rfl
set_option maxRecDepth 100000 in
theorem g_RX8_200 : hp_Fg RX8 200 4 0 := ⟨_, _, _, _, vcl_4, in_4, by decide, rfl, fl_RX8_200⟩
set_option maxRecDepth 100000 in
theorem fl_RX8_212 : Cond.fieldLink RX8 212 "ProtocolBench$Protocol" "owns" "LProtocolBench$Variables;" ∈ hp_tbl := hp_in (List.mem_append_right _ (List.mem_append_left _ (List.mem_of_getElem? (i := 175) (by decide +kernel)))) rfl
set_option maxRecDepth 100000 in
theorem g_RX8_212 : hp_Fg RX8 212 4 1 := ⟨_, _, _, _, vcl_4, in_4, by decide, rfl, fl_RX8_212⟩
set_option maxRecDepth 100000 in
theorem fl_RX8_224 : Cond.fieldLink RX8 224 "ProtocolBench$Protocol" "isLoose" "[Z" ∈ hp_tbl := hp_in (List.mem_append_right _ (List.mem_append_left _ (List.mem_of_getElem? (i := 190) (by decide +kernel)))) rfl
set_option maxRecDepth 100000 in
theorem g_RX8_224 : hp_Fg RX8 224 4 6 := ⟨_, _, _, _, vcl_4, in_4, by decide, rfl, fl_RX8_224⟩
set_option maxRecDepth 100000 in
theorem fl_RX8_230 : Cond.fieldLink RX8 230 "ProtocolBench$Protocol" "takesAlike" "Z" ∈ hp_tbl := hp_in (List.mem_append_right _ (List.mem_append_left _ (List.mem_of_getElem? (i := 198) (by decide +kernel)))) rfl
set_option maxRecDepth 100000 in
theorem g_RX8_230 : hp_Fg RX8 230 4 9 := ⟨_, _, _, _, vcl_4, in_4, by decide, rfl, fl_RX8_230⟩
set_option maxRecDepth 100000 in
theorem fl_RX9_9 : Cond.fieldLink RX9 9 "ProtocolBench$Steps" "roleOf" "[I" ∈ hp_tbl := hp_in (List.mem_append_right _ (List.mem_append_left _ (List.mem_of_getElem? (i := 125) (by decide +kernel)))) rfl
set_option maxRecDepth 100000 in
theorem g_RX9_9 : hp_Fg RX9 9 9 0 := ⟨_, _, _, _, vcl_9, in_9, by decide, rfl, fl_RX9_9⟩
set_option maxRecDepth 100000 in
theorem fl_RX9_15 : Cond.fieldLink RX9 15 "ProtocolBench$Steps" "from" "[I" ∈ hp_tbl := hp_in (List.mem_append_right _ (List.mem_append_left _ (List.mem_of_getElem? (i := 128) (by decide +kernel)))) rfl
set_option maxRecDepth 100000 in
theorem g_RX9_15 : hp_Fg RX9 15 9 1 := ⟨_, _, _, _, vcl_9, in_9, by decide, rfl, fl_RX9_15⟩
set_option maxRecDepth 100000 in
theorem fl_RX9_18 : Cond.fieldLink RX9 18 "ProtocolBench$Steps" "to" "[I" ∈ hp_tbl := hp_in (List.mem_append_right _ (List.mem_append_left _ (List.mem_of_getElem? (i := 130) (by decide +kernel)))) rfl
set_option maxRecDepth 100000 in
theorem g_RX9_18 : hp_Fg RX9 18 9 2 := ⟨_, _, _, _, vcl_9, in_9, by decide, rfl, fl_RX9_18⟩
set_option maxRecDepth 100000 in
theorem fl_RX9_21 : Cond.fieldLink RX9 21 "ProtocolBench$Steps" "guard" "[I" ∈ hp_tbl := hp_in (List.mem_append_right _ (List.mem_append_left _ (List.mem_of_getElem? (i := 132) (by decide +kernel)))) rfl
set_option maxRecDepth 100000 in
theorem g_RX9_21 : hp_Fg RX9 21 9 3 := ⟨_, _, _, _, vcl_9, in_9, by decide, rfl, fl_RX9_21⟩
set_option maxRecDepth 100000 in
theorem fl_RX9_24 : Cond.fieldLink RX9 24 "ProtocolBench$Steps" "acts" "[I" ∈ hp_tbl := hp_in (List.mem_append_right _ (List.mem_append_left _ (List.mem_of_getElem? (i := 135) (by decide +kernel)))) rfl
set_option maxRecDepth 100000 in
theorem g_RX9_24 : hp_Fg RX9 24 9 4 := ⟨_, _, _, _, vcl_9, in_9, by decide, rfl, fl_RX9_24⟩
set_option maxRecDepth 100000 in
theorem fl_RX9_27 : Cond.fieldLink RX9 27 "ProtocolBench$Steps" "actKind" "[I" ∈ hp_tbl := hp_in (List.mem_append_right _ (List.mem_append_left _ (List.mem_of_getElem? (i := 139) (by decide +kernel)))) rfl
set_option maxRecDepth 100000 in
theorem g_RX9_27 : hp_Fg RX9 27 9 5 := ⟨_, _, _, _, vcl_9, in_9, by decide, rfl, fl_RX9_27⟩
set_option maxRecDepth 100000 in
theorem fl_RX9_30 : Cond.fieldLink RX9 30 "ProtocolBench$Steps" "actA" "[I" ∈ hp_tbl := hp_in (List.mem_append_right _ (List.mem_append_left _ (List.mem_of_getElem? (i := 142) (by decide +kernel)))) rfl
set_option maxRecDepth 100000 in
theorem g_RX9_30 : hp_Fg RX9 30 9 6 := ⟨_, _, _, _, vcl_9, in_9, by decide, rfl, fl_RX9_30⟩
set_option maxRecDepth 100000 in
theorem fl_RX9_33 : Cond.fieldLink RX9 33 "ProtocolBench$Steps" "actB" "[I" ∈ hp_tbl := hp_in (List.mem_append_right _ (List.mem_append_left _ (List.mem_of_getElem? (i := 144) (by decide +kernel)))) rfl
set_option maxRecDepth 100000 in
theorem g_RX9_33 : hp_Fg RX9 33 9 7 := ⟨_, _, _, _, vcl_9, in_9, by decide, rfl, fl_RX9_33⟩
set_option maxRecDepth 100000 in
theorem fl_RX9_36 : Cond.fieldLink RX9 36 "ProtocolBench$Steps" "told" "I" ∈ hp_tbl := hp_in (List.mem_append_right _ (List.mem_append_left _ (List.mem_of_getElem? (i := 147) (by decide +kernel)))) rfl
set_option maxRecDepth 100000 in
theorem g_RX9_36 : hp_Fg RX9 36 9 8 := ⟨_, _, _, _, vcl_9, in_9, by decide, rfl, fl_RX9_36⟩
set_option maxRecDepth 100000 in
theorem p_RX9_36 : hp_Fp RX9 36 9 8 .int := ⟨_, _, _, _, tyX9, vcl_9, in_9, by decide, rfl, fl_RX9_36, tyX9_ok, nmX9, rfl, rfl⟩
set_option maxRecDepth 100000 in
theorem mm_copy : Cond.native arraycopyName ∈ hp_tbl ∧ Cond.static arraycopyName ∈ hp_tbl ∧ Cond.initialized "java/lang/System" ∈ hp_tbl := ⟨hp_in (List.mem_append_right _ (List.mem_append_right _ (List.mem_append_right _ (List.mem_append_left _ (List.mem_of_getElem? (i := 218) (by decide +kernel)))))) rfl, hp_in (List.mem_append_right _ (List.mem_append_right _ (List.mem_append_right _ (List.mem_append_left _ (List.mem_of_getElem? (i := 217) (by decide +kernel)))))) rfl, hp_in (List.mem_append_right _ (List.mem_append_left _ (List.mem_of_getElem? (i := 15) (by decide +kernel)))) rfl⟩
set_option maxRecDepth 100000 in
theorem mm_min : Cond.static Lib.Math.min.name ∈ hp_tbl ∧ Cond.initialized "java/lang/Math" ∈ hp_tbl ∧ Cond.code Lib.Math.min.name Lib.Math.min.code 2 (some .int) ∈ hp_tbl := ⟨hp_in (List.mem_append_right _ (List.mem_append_right _ (List.mem_append_right _ (List.mem_append_right _ (List.mem_append_right _ (List.mem_append_left _ (List.mem_of_getElem? (i := 35) (by decide +kernel)))))))) rfl, hp_in (List.mem_append_right _ (List.mem_append_left _ (List.mem_of_getElem? (i := 16) (by decide +kernel)))) rfl, hp_in (List.mem_append_right _ (List.mem_append_right _ (List.mem_append_right _ (List.mem_append_right _ (List.mem_append_right _ (List.mem_append_left _ (List.mem_of_getElem? (i := 36) rfl))))))) rfl⟩
set_option maxRecDepth 100000 in
theorem F_X0_observes : hp_Fv RX0 yX0_observes cX0_observes 3 (some .boolean) 1 := ⟨hp_in (List.mem_append_right _ (List.mem_append_right _ (List.mem_append_right _ (List.mem_append_right _ (List.mem_append_right _ (List.mem_append_left _ (List.mem_of_getElem? (i := 68) (by decide +kernel)))))))) rfl, hp_in (List.mem_append_right _ (List.mem_append_right _ (List.mem_append_right _ (List.mem_append_right _ (List.mem_append_right _ (List.mem_append_left _ (List.mem_of_getElem? (i := 69) (by decide +kernel)))))))) rfl, hp_in (List.mem_append_right _ (List.mem_append_left _ (List.mem_of_getElem? (i := 12) (by decide +kernel)))) rfl, hp_in (List.mem_append_right _ (List.mem_append_right _ (List.mem_append_right _ (List.mem_append_right _ (List.mem_append_right _ (List.mem_append_left _ (List.mem_of_getElem? (i := 70) rfl))))))) rfl, by decide +kernel, by decide +kernel, by decide +kernel⟩
abbrev rm_X0_observes : Room := { frames := 0, cells := 0, slots := 0, locals := 0 }
set_option maxRecDepth 100000 in
theorem F_X0_addObserved : hp_Fv RX0 yX0_addObserved cX0_addObserved 2 (some .int) 1 := ⟨hp_in (List.mem_append_right _ (List.mem_append_right _ (List.mem_append_right _ (List.mem_append_right _ (List.mem_append_right _ (List.mem_append_left _ (List.mem_of_getElem? (i := 72) (by decide +kernel)))))))) rfl, hp_in (List.mem_append_right _ (List.mem_append_right _ (List.mem_append_right _ (List.mem_append_right _ (List.mem_append_right _ (List.mem_append_left _ (List.mem_of_getElem? (i := 73) (by decide +kernel)))))))) rfl, hp_in (List.mem_append_right _ (List.mem_append_left _ (List.mem_of_getElem? (i := 12) (by decide +kernel)))) rfl, hp_in (List.mem_append_right _ (List.mem_append_right _ (List.mem_append_right _ (List.mem_append_right _ (List.mem_append_right _ (List.mem_append_left _ (List.mem_of_getElem? (i := 74) rfl))))))) rfl, by decide +kernel, by decide +kernel, by decide +kernel⟩
abbrev rm_X0_addObserved : Room := { frames := 0, cells := 0, slots := 0, locals := 0 }
set_option maxRecDepth 100000 in
theorem F_X0_forget : hp_Fv RX0 yX0_forget cX0_forget 1 none 0 := ⟨hp_in (List.mem_append_right _ (List.mem_append_right _ (List.mem_append_right _ (List.mem_append_left _ (List.mem_of_getElem? (i := 19) (by decide +kernel)))))) rfl, hp_in (List.mem_append_right _ (List.mem_append_right _ (List.mem_append_right _ (List.mem_append_left _ (List.mem_of_getElem? (i := 20) (by decide +kernel)))))) rfl, hp_in (List.mem_append_right _ (List.mem_append_left _ (List.mem_of_getElem? (i := 12) (by decide +kernel)))) rfl, hp_in (List.mem_append_right _ (List.mem_append_right _ (List.mem_append_right _ (List.mem_append_left _ (List.mem_of_getElem? (i := 21) rfl))))) rfl, by decide +kernel, by decide +kernel, by decide +kernel⟩
abbrev rm_X0_forget : Room := { frames := 0, cells := 0, slots := 0, locals := 0 }
set_option maxRecDepth 100000 in
theorem F_J7_fill_53178 : hp_Fs yJ7_fill_53178 cJ7_fill_53178 4 none 2 := ⟨hp_in (List.mem_append_right _ (List.mem_append_right _ (List.mem_append_right _ (List.mem_append_left _ (List.mem_of_getElem? (i := 184) (by decide +kernel)))))) rfl, hp_in (List.mem_append_right _ (List.mem_append_left _ (List.mem_of_getElem? (i := 14) (by decide +kernel)))) rfl, hp_in (List.mem_append_right _ (List.mem_append_right _ (List.mem_append_right _ (List.mem_append_left _ (List.mem_of_getElem? (i := 185) rfl))))) rfl, by decide +kernel, by decide +kernel, by decide +kernel⟩
abbrev rm_J7_fill_53178 : Room := { frames := 0, cells := 0, slots := 0, locals := 0 }
set_option maxRecDepth 100000 in
theorem F_X1_dropUse : hp_Fv RX1 yX1_dropUse cX1_dropUse 3 none 1 := ⟨hp_in (List.mem_append_right _ (List.mem_append_right _ (List.mem_append_right _ (List.mem_append_left _ (List.mem_of_getElem? (i := 156) (by decide +kernel)))))) rfl, hp_in (List.mem_append_right _ (List.mem_append_right _ (List.mem_append_right _ (List.mem_append_left _ (List.mem_of_getElem? (i := 157) (by decide +kernel)))))) rfl, hp_in (List.mem_append_right _ (List.mem_append_left _ (List.mem_of_getElem? (i := 5) (by decide +kernel)))) rfl, hp_in (List.mem_append_right _ (List.mem_append_right _ (List.mem_append_right _ (List.mem_append_left _ (List.mem_of_getElem? (i := 158) rfl))))) rfl, by decide +kernel, by decide +kernel, by decide +kernel⟩
abbrev rm_X1_dropUse : Room := { frames := 0, cells := 0, slots := 0, locals := 0 }
set_option maxRecDepth 100000 in
theorem F_X5_askNothing : hp_Fv RX5 yX5_askNothing cX5_askNothing 1 none 0 := ⟨hp_in (List.mem_append_right _ (List.mem_append_right _ (List.mem_append_right _ (List.mem_append_right _ (List.mem_append_left _ (List.mem_of_getElem? (i := 135) (by decide +kernel))))))) rfl, hp_in (List.mem_append_right _ (List.mem_append_right _ (List.mem_append_right _ (List.mem_append_right _ (List.mem_append_left _ (List.mem_of_getElem? (i := 136) (by decide +kernel))))))) rfl, hp_in (List.mem_append_right _ (List.mem_append_left _ (List.mem_of_getElem? (i := 10) (by decide +kernel)))) rfl, hp_in (List.mem_append_right _ (List.mem_append_right _ (List.mem_append_right _ (List.mem_append_right _ (List.mem_append_left _ (List.mem_of_getElem? (i := 137) rfl)))))) rfl, by decide +kernel, by decide +kernel, by decide +kernel⟩
abbrev rm_X5_askNothing : Room := { frames := 1, cells := 0, slots := 0, locals := 22 }
set_option maxRecDepth 100000 in
theorem F_X1_addUse : hp_Fv RX1 yX1_addUse cX1_addUse 3 none 2 := ⟨hp_in (List.mem_append_right _ (List.mem_append_right _ (List.mem_append_right _ (List.mem_append_left _ (List.mem_of_getElem? (i := 160) (by decide +kernel)))))) rfl, hp_in (List.mem_append_right _ (List.mem_append_right _ (List.mem_append_right _ (List.mem_append_left _ (List.mem_of_getElem? (i := 161) (by decide +kernel)))))) rfl, hp_in (List.mem_append_right _ (List.mem_append_left _ (List.mem_of_getElem? (i := 5) (by decide +kernel)))) rfl, hp_in (List.mem_append_right _ (List.mem_append_right _ (List.mem_append_right _ (List.mem_append_left _ (List.mem_of_getElem? (i := 162) rfl))))) rfl, by decide +kernel, by decide +kernel, by decide +kernel⟩
abbrev rm_X1_addUse : Room := { frames := 0, cells := 0, slots := 0, locals := 0 }
set_option maxRecDepth 100000 in
theorem F_X1_isMade : hp_Fs yX1_isMade cX1_isMade 1 (some .boolean) 1 := ⟨hp_in (List.mem_append_right _ (List.mem_append_right _ (List.mem_append_right _ (List.mem_append_left _ (List.mem_of_getElem? (i := 91) (by decide +kernel)))))) rfl, hp_in (List.mem_append_right _ (List.mem_append_left _ (List.mem_of_getElem? (i := 5) (by decide +kernel)))) rfl, hp_in (List.mem_append_right _ (List.mem_append_right _ (List.mem_append_right _ (List.mem_append_left _ (List.mem_of_getElem? (i := 92) rfl))))) rfl, by decide +kernel, by decide +kernel, by decide +kernel⟩
abbrev rm_X1_isMade : Room := { frames := 0, cells := 0, slots := 0, locals := 0 }
set_option maxRecDepth 100000 in
theorem F_X1_isMadeOfTwo : hp_Fs yX1_isMadeOfTwo cX1_isMadeOfTwo 1 (some .boolean) 1 := ⟨hp_in (List.mem_append_right _ (List.mem_append_right _ (List.mem_append_right _ (List.mem_append_left _ (List.mem_of_getElem? (i := 98) (by decide +kernel)))))) rfl, hp_in (List.mem_append_right _ (List.mem_append_left _ (List.mem_of_getElem? (i := 5) (by decide +kernel)))) rfl, hp_in (List.mem_append_right _ (List.mem_append_right _ (List.mem_append_right _ (List.mem_append_left _ (List.mem_of_getElem? (i := 99) rfl))))) rfl, by decide +kernel, by decide +kernel, by decide +kernel⟩
abbrev rm_X1_isMadeOfTwo : Room := { frames := 0, cells := 0, slots := 0, locals := 0 }
set_option maxRecDepth 100000 in
theorem F_X1_spreadUses : hp_Fv RX1 yX1_spreadUses cX1_spreadUses 2 none 0 := ⟨hp_in (List.mem_append_right _ (List.mem_append_right _ (List.mem_append_right _ (List.mem_append_left _ (List.mem_of_getElem? (i := 164) (by decide +kernel)))))) rfl, hp_in (List.mem_append_right _ (List.mem_append_right _ (List.mem_append_right _ (List.mem_append_left _ (List.mem_of_getElem? (i := 165) (by decide +kernel)))))) rfl, hp_in (List.mem_append_right _ (List.mem_append_left _ (List.mem_of_getElem? (i := 5) (by decide +kernel)))) rfl, hp_in (List.mem_append_right _ (List.mem_append_right _ (List.mem_append_right _ (List.mem_append_left _ (List.mem_of_getElem? (i := 166) rfl))))) rfl, by decide +kernel, by decide +kernel, by decide +kernel⟩
abbrev rm_X1_spreadUses : Room := { frames := 1, cells := 0, slots := 0, locals := 20 }
set_option maxRecDepth 100000 in
theorem F_X5_askToo : hp_Fv RX5 yX5_askToo cX5_askToo 2 none 1 := ⟨hp_in (List.mem_append_right _ (List.mem_append_right _ (List.mem_append_right _ (List.mem_append_right _ (List.mem_append_left _ (List.mem_of_getElem? (i := 140) (by decide +kernel))))))) rfl, hp_in (List.mem_append_right _ (List.mem_append_right _ (List.mem_append_right _ (List.mem_append_right _ (List.mem_append_left _ (List.mem_of_getElem? (i := 141) (by decide +kernel))))))) rfl, hp_in (List.mem_append_right _ (List.mem_append_left _ (List.mem_of_getElem? (i := 10) (by decide +kernel)))) rfl, hp_in (List.mem_append_right _ (List.mem_append_right _ (List.mem_append_right _ (List.mem_append_right _ (List.mem_append_left _ (List.mem_of_getElem? (i := 142) rfl)))))) rfl, by decide +kernel, by decide +kernel, by decide +kernel⟩
abbrev rm_X5_askToo : Room := { frames := 2, cells := 0, slots := 0, locals := 41 }
set_option maxRecDepth 100000 in
theorem F_X2_load : hp_Fv RX2 yX2_load cX2_load 3 none 2 := ⟨hp_in (List.mem_append_right _ (List.mem_append_right _ (List.mem_append_right _ (List.mem_append_left _ (List.mem_of_getElem? (i := 224) (by decide +kernel)))))) rfl, hp_in (List.mem_append_right _ (List.mem_append_right _ (List.mem_append_right _ (List.mem_append_left _ (List.mem_of_getElem? (i := 225) (by decide +kernel)))))) rfl, hp_in (List.mem_append_right _ (List.mem_append_left _ (List.mem_of_getElem? (i := 7) (by decide +kernel)))) rfl, hp_in (List.mem_append_right _ (List.mem_append_right _ (List.mem_append_right _ (List.mem_append_left _ (List.mem_of_getElem? (i := 226) rfl))))) rfl, by decide +kernel, by decide +kernel, by decide +kernel⟩
abbrev rm_X2_load : Room := { frames := 1, cells := 0, slots := 0, locals := 40 }
set_option maxRecDepth 100000 in
theorem F_X5_rowOf : hp_Fv RX5 yX5_rowOf cX5_rowOf 2 (some (.object "ProtocolBench$Row")) 1 := ⟨hp_in (List.mem_append_right _ (List.mem_append_right _ (List.mem_append_right _ (List.mem_append_right _ (List.mem_append_left _ (List.mem_of_getElem? (i := 150) (by decide +kernel))))))) rfl, hp_in (List.mem_append_right _ (List.mem_append_right _ (List.mem_append_right _ (List.mem_append_right _ (List.mem_append_left _ (List.mem_of_getElem? (i := 151) (by decide +kernel))))))) rfl, hp_in (List.mem_append_right _ (List.mem_append_left _ (List.mem_of_getElem? (i := 10) (by decide +kernel)))) rfl, hp_in (List.mem_append_right _ (List.mem_append_right _ (List.mem_append_right _ (List.mem_append_right _ (List.mem_append_left _ (List.mem_of_getElem? (i := 152) rfl)))))) rfl, by decide +kernel, by decide +kernel, by decide +kernel⟩
abbrev rm_X5_rowOf : Room := { frames := 2, cells := 0, slots := 0, locals := 62 }
set_option maxRecDepth 100000 in
theorem F_X1_ofParts : hp_Fs yX1_ofParts cX1_ofParts 3 (some .int) 3 := ⟨hp_in (List.mem_append_right _ (List.mem_append_right _ (List.mem_append_right _ (List.mem_append_right _ (List.mem_append_left _ (List.mem_of_getElem? (i := 0) (by decide +kernel))))))) rfl, hp_in (List.mem_append_right _ (List.mem_append_left _ (List.mem_of_getElem? (i := 5) (by decide +kernel)))) rfl, hp_in (List.mem_append_right _ (List.mem_append_right _ (List.mem_append_right _ (List.mem_append_right _ (List.mem_append_left _ (List.mem_of_getElem? (i := 1) rfl)))))) rfl, by decide +kernel, by decide +kernel, by decide +kernel⟩
abbrev rm_X1_ofParts : Room := { frames := 0, cells := 0, slots := 0, locals := 0 }
set_option maxRecDepth 100000 in
theorem F_X7_sharedValue : hp_Fv RX7 yX7_sharedValue cX7_sharedValue 2 (some .int) 1 := ⟨hp_in (List.mem_append_right _ (List.mem_append_right _ (List.mem_append_right _ (List.mem_append_right _ (List.mem_append_left _ (List.mem_of_getElem? (i := 7) (by decide +kernel))))))) rfl, hp_in (List.mem_append_right _ (List.mem_append_right _ (List.mem_append_right _ (List.mem_append_right _ (List.mem_append_left _ (List.mem_of_getElem? (i := 8) (by decide +kernel))))))) rfl, hp_in (List.mem_append_right _ (List.mem_append_left _ (List.mem_of_getElem? (i := 9) (by decide +kernel)))) rfl, hp_in (List.mem_append_right _ (List.mem_append_right _ (List.mem_append_right _ (List.mem_append_right _ (List.mem_append_left _ (List.mem_of_getElem? (i := 9) rfl)))))) rfl, by decide +kernel, by decide +kernel, by decide +kernel⟩
abbrev rm_X7_sharedValue : Room := { frames := 0, cells := 0, slots := 0, locals := 0 }
set_option maxRecDepth 100000 in
theorem F_X7_ownValue : hp_Fv RX7 yX7_ownValue cX7_ownValue 5 (some .int) 3 := ⟨hp_in (List.mem_append_right _ (List.mem_append_right _ (List.mem_append_right _ (List.mem_append_right _ (List.mem_append_left _ (List.mem_of_getElem? (i := 11) (by decide +kernel))))))) rfl, hp_in (List.mem_append_right _ (List.mem_append_right _ (List.mem_append_right _ (List.mem_append_right _ (List.mem_append_left _ (List.mem_of_getElem? (i := 12) (by decide +kernel))))))) rfl, hp_in (List.mem_append_right _ (List.mem_append_left _ (List.mem_of_getElem? (i := 9) (by decide +kernel)))) rfl, hp_in (List.mem_append_right _ (List.mem_append_right _ (List.mem_append_right _ (List.mem_append_right _ (List.mem_append_left _ (List.mem_of_getElem? (i := 13) rfl)))))) rfl, by decide +kernel, by decide +kernel, by decide +kernel⟩
abbrev rm_X7_ownValue : Room := { frames := 0, cells := 0, slots := 0, locals := 0 }
set_option maxRecDepth 100000 in
theorem F_X7_howManyAt : hp_Fv RX7 yX7_howManyAt cX7_howManyAt 7 (some .int) 3 := ⟨hp_in (List.mem_append_right _ (List.mem_append_right _ (List.mem_append_right _ (List.mem_append_right _ (List.mem_append_left _ (List.mem_of_getElem? (i := 15) (by decide +kernel))))))) rfl, hp_in (List.mem_append_right _ (List.mem_append_right _ (List.mem_append_right _ (List.mem_append_right _ (List.mem_append_left _ (List.mem_of_getElem? (i := 16) (by decide +kernel))))))) rfl, hp_in (List.mem_append_right _ (List.mem_append_left _ (List.mem_of_getElem? (i := 9) (by decide +kernel)))) rfl, hp_in (List.mem_append_right _ (List.mem_append_right _ (List.mem_append_right _ (List.mem_append_right _ (List.mem_append_left _ (List.mem_of_getElem? (i := 17) rfl)))))) rfl, by decide +kernel, by decide +kernel, by decide +kernel⟩
abbrev rm_X7_howManyAt : Room := { frames := 0, cells := 0, slots := 0, locals := 0 }
set_option maxRecDepth 100000 in
theorem F_X7_held : hp_Fv RX7 yX7_held cX7_held 2 (some .int) 1 := ⟨hp_in (List.mem_append_right _ (List.mem_append_right _ (List.mem_append_right _ (List.mem_append_right _ (List.mem_append_left _ (List.mem_of_getElem? (i := 19) (by decide +kernel))))))) rfl, hp_in (List.mem_append_right _ (List.mem_append_right _ (List.mem_append_right _ (List.mem_append_right _ (List.mem_append_left _ (List.mem_of_getElem? (i := 20) (by decide +kernel))))))) rfl, hp_in (List.mem_append_right _ (List.mem_append_left _ (List.mem_of_getElem? (i := 9) (by decide +kernel)))) rfl, hp_in (List.mem_append_right _ (List.mem_append_right _ (List.mem_append_right _ (List.mem_append_right _ (List.mem_append_left _ (List.mem_of_getElem? (i := 21) rfl)))))) rfl, by decide +kernel, by decide +kernel, by decide +kernel⟩
abbrev rm_X7_held : Room := { frames := 0, cells := 0, slots := 0, locals := 0 }
set_option maxRecDepth 100000 in
theorem F_X1_ofRow : hp_Fv RX1 yX1_ofRow cX1_ofRow 5 (some .int) 4 := ⟨hp_in (List.mem_append_right _ (List.mem_append_right _ (List.mem_append_right _ (List.mem_append_right _ (List.mem_append_left _ (List.mem_of_getElem? (i := 4) (by decide +kernel))))))) rfl, hp_in (List.mem_append_left _ (List.mem_of_getElem? (i := 6) (by decide +kernel))) rfl, hp_in (List.mem_append_right _ (List.mem_append_left _ (List.mem_of_getElem? (i := 5) (by decide +kernel)))) rfl, hp_in (List.mem_append_right _ (List.mem_append_right _ (List.mem_append_right _ (List.mem_append_right _ (List.mem_append_left _ (List.mem_of_getElem? (i := 5) rfl)))))) rfl, by decide +kernel, by decide +kernel, by decide +kernel⟩
abbrev rm_X1_ofRow : Room := { frames := 1, cells := 0, slots := 0, locals := 26 }
set_option maxRecDepth 100000 in
theorem F_X1_reckon : hp_Fv RX1 yX1_reckon cX1_reckon 6 none 4 := ⟨hp_in (List.mem_append_right _ (List.mem_append_right _ (List.mem_append_right _ (List.mem_append_left _ (List.mem_of_getElem? (i := 236) (by decide +kernel)))))) rfl, hp_in (List.mem_append_right _ (List.mem_append_right _ (List.mem_append_right _ (List.mem_append_left _ (List.mem_of_getElem? (i := 237) (by decide +kernel)))))) rfl, hp_in (List.mem_append_right _ (List.mem_append_left _ (List.mem_of_getElem? (i := 5) (by decide +kernel)))) rfl, hp_in (List.mem_append_right _ (List.mem_append_right _ (List.mem_append_right _ (List.mem_append_left _ (List.mem_of_getElem? (i := 238) rfl))))) rfl, by decide +kernel, by decide +kernel, by decide +kernel⟩
abbrev rm_X1_reckon : Room := { frames := 2, cells := 0, slots := 0, locals := 50 }
set_option maxRecDepth 100000 in
theorem F_X5_lookAt : hp_Fv RX5 yX5_lookAt cX5_lookAt 2 none 1 := ⟨hp_in (List.mem_append_right _ (List.mem_append_right _ (List.mem_append_right _ (List.mem_append_right _ (List.mem_append_left _ (List.mem_of_getElem? (i := 146) (by decide +kernel))))))) rfl, hp_in (List.mem_append_right _ (List.mem_append_right _ (List.mem_append_right _ (List.mem_append_right _ (List.mem_append_left _ (List.mem_of_getElem? (i := 147) (by decide +kernel))))))) rfl, hp_in (List.mem_append_right _ (List.mem_append_left _ (List.mem_of_getElem? (i := 10) (by decide +kernel)))) rfl, hp_in (List.mem_append_right _ (List.mem_append_right _ (List.mem_append_right _ (List.mem_append_right _ (List.mem_append_left _ (List.mem_of_getElem? (i := 148) rfl)))))) rfl, by decide +kernel, by decide +kernel, by decide +kernel⟩
abbrev rm_X5_lookAt : Room := { frames := 3, cells := 0, slots := 0, locals := 83 }
set_option maxRecDepth 100000 in
theorem F_X5_answer : hp_Fv RX5 yX5_answer cX5_answer 2 (some .int) 1 := ⟨hp_in (List.mem_append_right _ (List.mem_append_right _ (List.mem_append_right _ (List.mem_append_right _ (List.mem_append_left _ (List.mem_of_getElem? (i := 156) (by decide +kernel))))))) rfl, hp_in (List.mem_append_right _ (List.mem_append_right _ (List.mem_append_right _ (List.mem_append_right _ (List.mem_append_left _ (List.mem_of_getElem? (i := 157) (by decide +kernel))))))) rfl, hp_in (List.mem_append_right _ (List.mem_append_left _ (List.mem_of_getElem? (i := 10) (by decide +kernel)))) rfl, hp_in (List.mem_append_right _ (List.mem_append_right _ (List.mem_append_right _ (List.mem_append_right _ (List.mem_append_left _ (List.mem_of_getElem? (i := 158) rfl)))))) rfl, by decide +kernel, by decide +kernel, by decide +kernel⟩
abbrev rm_X5_answer : Room := { frames := 0, cells := 0, slots := 0, locals := 0 }
set_option maxRecDepth 100000 in
theorem F_X0_keyByObserved : hp_Fv RX0 yX0_keyByObserved cX0_keyByObserved 3 none 0 := ⟨hp_in (List.mem_append_right _ (List.mem_append_right _ (List.mem_append_right _ (List.mem_append_right _ (List.mem_append_right _ (List.mem_append_left _ (List.mem_of_getElem? (i := 86) (by decide +kernel)))))))) rfl, hp_in (List.mem_append_left _ (List.mem_of_getElem? (i := 26) (by decide +kernel))) rfl, hp_in (List.mem_append_right _ (List.mem_append_left _ (List.mem_of_getElem? (i := 12) (by decide +kernel)))) rfl, hp_in (List.mem_append_right _ (List.mem_append_right _ (List.mem_append_right _ (List.mem_append_right _ (List.mem_append_right _ (List.mem_append_left _ (List.mem_of_getElem? (i := 87) rfl))))))) rfl, by decide +kernel, by decide +kernel, by decide +kernel⟩
abbrev rm_X0_keyByObserved : Room := { frames := 4, cells := 0, slots := 0, locals := 104 }
set_option maxRecDepth 100000 in
theorem F_X0_haveSameKeys : hp_Fv RX0 yX0_haveSameKeys cX0_haveSameKeys 5 (some .boolean) 3 := ⟨hp_in (List.mem_append_right _ (List.mem_append_right _ (List.mem_append_right _ (List.mem_append_right _ (List.mem_append_right _ (List.mem_append_left _ (List.mem_of_getElem? (i := 102) (by decide +kernel)))))))) rfl, hp_in (List.mem_append_left _ (List.mem_of_getElem? (i := 29) (by decide +kernel))) rfl, hp_in (List.mem_append_right _ (List.mem_append_left _ (List.mem_of_getElem? (i := 12) (by decide +kernel)))) rfl, hp_in (List.mem_append_right _ (List.mem_append_right _ (List.mem_append_right _ (List.mem_append_right _ (List.mem_append_right _ (List.mem_append_left _ (List.mem_of_getElem? (i := 103) rfl))))))) rfl, by decide +kernel, by decide +kernel, by decide +kernel⟩
abbrev rm_X0_haveSameKeys : Room := { frames := 0, cells := 0, slots := 0, locals := 0 }
set_option maxRecDepth 100000 in
theorem F_X0_newPartLike : hp_Fv RX0 yX0_newPartLike cX0_newPartLike 5 (some .int) 2 := ⟨hp_in (List.mem_append_right _ (List.mem_append_right _ (List.mem_append_right _ (List.mem_append_right _ (List.mem_append_right _ (List.mem_append_left _ (List.mem_of_getElem? (i := 98) (by decide +kernel)))))))) rfl, hp_in (List.mem_append_left _ (List.mem_of_getElem? (i := 28) (by decide +kernel))) rfl, hp_in (List.mem_append_right _ (List.mem_append_left _ (List.mem_of_getElem? (i := 12) (by decide +kernel)))) rfl, hp_in (List.mem_append_right _ (List.mem_append_right _ (List.mem_append_right _ (List.mem_append_right _ (List.mem_append_right _ (List.mem_append_left _ (List.mem_of_getElem? (i := 99) rfl))))))) rfl, by decide +kernel, by decide +kernel, by decide +kernel⟩
abbrev rm_X0_newPartLike : Room := { frames := 1, cells := 0, slots := 0, locals := 24 }
set_option maxRecDepth 100000 in
theorem F_X0_openPart : hp_Fv RX0 yX0_openPart cX0_openPart 3 (some .int) 1 := ⟨hp_in (List.mem_append_right _ (List.mem_append_right _ (List.mem_append_right _ (List.mem_append_right _ (List.mem_append_right _ (List.mem_append_left _ (List.mem_of_getElem? (i := 106) (by decide +kernel)))))))) rfl, hp_in (List.mem_append_left _ (List.mem_of_getElem? (i := 30) (by decide +kernel))) rfl, hp_in (List.mem_append_right _ (List.mem_append_left _ (List.mem_of_getElem? (i := 12) (by decide +kernel)))) rfl, hp_in (List.mem_append_right _ (List.mem_append_right _ (List.mem_append_right _ (List.mem_append_right _ (List.mem_append_right _ (List.mem_append_left _ (List.mem_of_getElem? (i := 107) rfl))))))) rfl, by decide +kernel, by decide +kernel, by decide +kernel⟩
abbrev rm_X0_openPart : Room := { frames := 0, cells := 0, slots := 0, locals := 0 }
set_option maxRecDepth 100000 in
theorem F_X0_split : hp_Fv RX0 yX0_split cX0_split 4 none 1 := ⟨hp_in (List.mem_append_right _ (List.mem_append_right _ (List.mem_append_right _ (List.mem_append_right _ (List.mem_append_right _ (List.mem_append_left _ (List.mem_of_getElem? (i := 94) (by decide +kernel)))))))) rfl, hp_in (List.mem_append_left _ (List.mem_of_getElem? (i := 27) (by decide +kernel))) rfl, hp_in (List.mem_append_right _ (List.mem_append_left _ (List.mem_of_getElem? (i := 12) (by decide +kernel)))) rfl, hp_in (List.mem_append_right _ (List.mem_append_right _ (List.mem_append_right _ (List.mem_append_right _ (List.mem_append_right _ (List.mem_append_left _ (List.mem_of_getElem? (i := 95) rfl))))))) rfl, by decide +kernel, by decide +kernel, by decide +kernel⟩
abbrev rm_X0_split : Room := { frames := 2, cells := 0, slots := 0, locals := 48 }
set_option maxRecDepth 100000 in
theorem F_J7_rangeCheck_23922 : hp_Fs yJ7_rangeCheck_23922 cJ7_rangeCheck_23922 3 none 3 := ⟨hp_in (List.mem_append_right _ (List.mem_append_right _ (List.mem_append_right _ (List.mem_append_right _ (List.mem_append_right _ (List.mem_append_left _ (List.mem_of_getElem? (i := 116) (by decide +kernel)))))))) rfl, hp_in (List.mem_append_right _ (List.mem_append_left _ (List.mem_of_getElem? (i := 14) (by decide +kernel)))) rfl, hp_in (List.mem_append_right _ (List.mem_append_right _ (List.mem_append_right _ (List.mem_append_right _ (List.mem_append_right _ (List.mem_append_left _ (List.mem_of_getElem? (i := 117) rfl))))))) rfl, by decide +kernel, by decide +kernel, by decide +kernel⟩
abbrev rm_J7_rangeCheck_23922 : Room := { frames := 0, cells := 0, slots := 0, locals := 0 }
set_option maxRecDepth 100000 in
theorem F_J7_fill_fda19 : hp_Fs yJ7_fill_fda19 cJ7_fill_fda19 5 none 4 := ⟨hp_in (List.mem_append_right _ (List.mem_append_right _ (List.mem_append_right _ (List.mem_append_right _ (List.mem_append_right _ (List.mem_append_left _ (List.mem_of_getElem? (i := 113) (by decide +kernel)))))))) rfl, hp_in (List.mem_append_right _ (List.mem_append_left _ (List.mem_of_getElem? (i := 14) (by decide +kernel)))) rfl, hp_in (List.mem_append_right _ (List.mem_append_right _ (List.mem_append_right _ (List.mem_append_right _ (List.mem_append_right _ (List.mem_append_left _ (List.mem_of_getElem? (i := 114) rfl))))))) rfl, by decide +kernel, by decide +kernel, by decide +kernel⟩
abbrev rm_J7_fill_fda19 : Room := { frames := 1, cells := 0, slots := 0, locals := 22 }
set_option maxRecDepth 100000 in
theorem F_X0_keyByMoves : hp_Fv RX0 yX0_keyByMoves cX0_keyByMoves 6 none 1 := ⟨hp_in (List.mem_append_right _ (List.mem_append_right _ (List.mem_append_right _ (List.mem_append_right _ (List.mem_append_right _ (List.mem_append_left _ (List.mem_of_getElem? (i := 110) (by decide +kernel)))))))) rfl, hp_in (List.mem_append_left _ (List.mem_of_getElem? (i := 31) (by decide +kernel))) rfl, hp_in (List.mem_append_right _ (List.mem_append_left _ (List.mem_of_getElem? (i := 12) (by decide +kernel)))) rfl, hp_in (List.mem_append_right _ (List.mem_append_right _ (List.mem_append_right _ (List.mem_append_right _ (List.mem_append_right _ (List.mem_append_left _ (List.mem_of_getElem? (i := 111) rfl))))))) rfl, by decide +kernel, by decide +kernel, by decide +kernel⟩
abbrev rm_X0_keyByMoves : Room := { frames := 2, cells := 0, slots := 0, locals := 46 }
set_option maxRecDepth 100000 in
theorem F_X0_makeSure : hp_Fv RX0 yX0_makeSure cX0_makeSure 5 none 0 := ⟨hp_in (List.mem_append_right _ (List.mem_append_right _ (List.mem_append_right _ (List.mem_append_right _ (List.mem_append_right _ (List.mem_append_left _ (List.mem_of_getElem? (i := 80) (by decide +kernel)))))))) rfl, hp_in (List.mem_append_right _ (List.mem_append_right _ (List.mem_append_right _ (List.mem_append_right _ (List.mem_append_right _ (List.mem_append_left _ (List.mem_of_getElem? (i := 81) (by decide +kernel)))))))) rfl, hp_in (List.mem_append_right _ (List.mem_append_left _ (List.mem_of_getElem? (i := 12) (by decide +kernel)))) rfl, hp_in (List.mem_append_right _ (List.mem_append_right _ (List.mem_append_right _ (List.mem_append_right _ (List.mem_append_right _ (List.mem_append_left _ (List.mem_of_getElem? (i := 82) rfl))))))) rfl, by decide +kernel, by decide +kernel, by decide +kernel⟩
abbrev rm_X0_makeSure : Room := { frames := 5, cells := 0, slots := 0, locals := 126 }
set_option maxRecDepth 100000 in
theorem F_X1_has : hp_Fv RX1 yX1_has cX1_has 2 (some .boolean) 1 := ⟨hp_in (List.mem_append_right _ (List.mem_append_right _ (List.mem_append_right _ (List.mem_append_left _ (List.mem_of_getElem? (i := 94) (by decide +kernel)))))) rfl, hp_in (List.mem_append_right _ (List.mem_append_right _ (List.mem_append_right _ (List.mem_append_left _ (List.mem_of_getElem? (i := 95) (by decide +kernel)))))) rfl, hp_in (List.mem_append_right _ (List.mem_append_left _ (List.mem_of_getElem? (i := 5) (by decide +kernel)))) rfl, hp_in (List.mem_append_right _ (List.mem_append_right _ (List.mem_append_right _ (List.mem_append_left _ (List.mem_of_getElem? (i := 96) rfl))))) rfl, by decide +kernel, by decide +kernel, by decide +kernel⟩
abbrev rm_X1_has : Room := { frames := 0, cells := 0, slots := 0, locals := 0 }
set_option maxRecDepth 100000 in
theorem F_X1_isOwned : hp_Fv RX1 yX1_isOwned cX1_isOwned 2 (some .boolean) 1 := ⟨hp_in (List.mem_append_right _ (List.mem_append_right _ (List.mem_append_right _ (List.mem_append_right _ (List.mem_append_left _ (List.mem_of_getElem? (i := 126) (by decide +kernel))))))) rfl, hp_in (List.mem_append_right _ (List.mem_append_right _ (List.mem_append_right _ (List.mem_append_right _ (List.mem_append_left _ (List.mem_of_getElem? (i := 127) (by decide +kernel))))))) rfl, hp_in (List.mem_append_right _ (List.mem_append_left _ (List.mem_of_getElem? (i := 5) (by decide +kernel)))) rfl, hp_in (List.mem_append_right _ (List.mem_append_right _ (List.mem_append_right _ (List.mem_append_right _ (List.mem_append_left _ (List.mem_of_getElem? (i := 128) rfl)))))) rfl, by decide +kernel, by decide +kernel, by decide +kernel⟩
abbrev rm_X1_isOwned : Room := { frames := 0, cells := 0, slots := 0, locals := 0 }
set_option maxRecDepth 100000 in
theorem F_X1_tellsMembersApart : hp_Fv RX1 yX1_tellsMembersApart cX1_tellsMembersApart 1 (some .boolean) 0 := ⟨hp_in (List.mem_append_right _ (List.mem_append_right _ (List.mem_append_right _ (List.mem_append_left _ (List.mem_of_getElem? (i := 148) (by decide +kernel)))))) rfl, hp_in (List.mem_append_right _ (List.mem_append_right _ (List.mem_append_right _ (List.mem_append_left _ (List.mem_of_getElem? (i := 149) (by decide +kernel)))))) rfl, hp_in (List.mem_append_right _ (List.mem_append_left _ (List.mem_of_getElem? (i := 5) (by decide +kernel)))) rfl, hp_in (List.mem_append_right _ (List.mem_append_right _ (List.mem_append_right _ (List.mem_append_left _ (List.mem_of_getElem? (i := 150) rfl))))) rfl, by decide +kernel, by decide +kernel, by decide +kernel⟩
abbrev rm_X1_tellsMembersApart : Room := { frames := 0, cells := 0, slots := 0, locals := 0 }
set_option maxRecDepth 100000 in
theorem F_X1_add : hp_Fv RX1 yX1_add cX1_add 5 (some .int) 4 := ⟨hp_in (List.mem_append_right _ (List.mem_append_right _ (List.mem_append_right _ (List.mem_append_left _ (List.mem_of_getElem? (i := 101) (by decide +kernel)))))) rfl, hp_in (List.mem_append_right _ (List.mem_append_right _ (List.mem_append_right _ (List.mem_append_left _ (List.mem_of_getElem? (i := 102) (by decide +kernel)))))) rfl, hp_in (List.mem_append_right _ (List.mem_append_left _ (List.mem_of_getElem? (i := 5) (by decide +kernel)))) rfl, hp_in (List.mem_append_right _ (List.mem_append_right _ (List.mem_append_right _ (List.mem_append_left _ (List.mem_of_getElem? (i := 103) rfl))))) rfl, by decide +kernel, by decide +kernel, by decide +kernel⟩
abbrev rm_X1_add : Room := { frames := 1, cells := 0, slots := 0, locals := 20 }
set_option maxRecDepth 100000 in
theorem F_X1_namesBeyond : hp_Fv RX1 yX1_namesBeyond cX1_namesBeyond 4 (some .boolean) 2 := ⟨hp_in (List.mem_append_right _ (List.mem_append_right _ (List.mem_append_right _ (List.mem_append_left _ (List.mem_of_getElem? (i := 168) (by decide +kernel)))))) rfl, hp_in (List.mem_append_right _ (List.mem_append_right _ (List.mem_append_right _ (List.mem_append_left _ (List.mem_of_getElem? (i := 169) (by decide +kernel)))))) rfl, hp_in (List.mem_append_right _ (List.mem_append_left _ (List.mem_of_getElem? (i := 5) (by decide +kernel)))) rfl, hp_in (List.mem_append_right _ (List.mem_append_right _ (List.mem_append_right _ (List.mem_append_left _ (List.mem_of_getElem? (i := 170) rfl))))) rfl, by decide +kernel, by decide +kernel, by decide +kernel⟩
abbrev rm_X1_namesBeyond : Room := { frames := 0, cells := 0, slots := 0, locals := 0 }
set_option maxRecDepth 100000 in
theorem F_X2_clear : hp_Fv RX2 yX2_clear cX2_clear 1 none 0 := ⟨hp_in (List.mem_append_right _ (List.mem_append_right _ (List.mem_append_right _ (List.mem_append_left _ (List.mem_of_getElem? (i := 15) (by decide +kernel)))))) rfl, hp_in (List.mem_append_right _ (List.mem_append_right _ (List.mem_append_right _ (List.mem_append_left _ (List.mem_of_getElem? (i := 16) (by decide +kernel)))))) rfl, hp_in (List.mem_append_right _ (List.mem_append_left _ (List.mem_of_getElem? (i := 7) (by decide +kernel)))) rfl, hp_in (List.mem_append_right _ (List.mem_append_right _ (List.mem_append_right _ (List.mem_append_left _ (List.mem_of_getElem? (i := 17) rfl))))) rfl, by decide +kernel, by decide +kernel, by decide +kernel⟩
abbrev rm_X2_clear : Room := { frames := 0, cells := 0, slots := 0, locals := 0 }
set_option maxRecDepth 100000 in
theorem F_X2_isSame : hp_Fv RX2 yX2_isSame cX2_isSame 5 (some .boolean) 2 := ⟨hp_in (List.mem_append_right _ (List.mem_append_right _ (List.mem_append_right _ (List.mem_append_left _ (List.mem_of_getElem? (i := 210) (by decide +kernel)))))) rfl, hp_in (List.mem_append_left _ (List.mem_of_getElem? (i := 3) (by decide +kernel))) rfl, hp_in (List.mem_append_right _ (List.mem_append_left _ (List.mem_of_getElem? (i := 7) (by decide +kernel)))) rfl, hp_in (List.mem_append_right _ (List.mem_append_right _ (List.mem_append_right _ (List.mem_append_left _ (List.mem_of_getElem? (i := 211) rfl))))) rfl, by decide +kernel, by decide +kernel, by decide +kernel⟩
abbrev rm_X2_isSame : Room := { frames := 0, cells := 0, slots := 0, locals := 0 }
set_option maxRecDepth 100000 in
theorem F_X2_slotOf : hp_Fv RX2 yX2_slotOf cX2_slotOf 5 (some .int) 1 := ⟨hp_in (List.mem_append_right _ (List.mem_append_right _ (List.mem_append_right _ (List.mem_append_left _ (List.mem_of_getElem? (i := 206) (by decide +kernel)))))) rfl, hp_in (List.mem_append_left _ (List.mem_of_getElem? (i := 2) (by decide +kernel))) rfl, hp_in (List.mem_append_right _ (List.mem_append_left _ (List.mem_of_getElem? (i := 7) (by decide +kernel)))) rfl, hp_in (List.mem_append_right _ (List.mem_append_right _ (List.mem_append_right _ (List.mem_append_left _ (List.mem_of_getElem? (i := 207) rfl))))) rfl, by decide +kernel, by decide +kernel, by decide +kernel⟩
abbrev rm_X2_slotOf : Room := { frames := 1, cells := 0, slots := 0, locals := 24 }
set_option maxRecDepth 100000 in
theorem F_X2_addState : hp_Fv RX2 yX2_addState cX2_addState 5 none 4 := ⟨hp_in (List.mem_append_right _ (List.mem_append_right _ (List.mem_append_right _ (List.mem_append_left _ (List.mem_of_getElem? (i := 214) (by decide +kernel)))))) rfl, hp_in (List.mem_append_left _ (List.mem_of_getElem? (i := 4) (by decide +kernel))) rfl, hp_in (List.mem_append_right _ (List.mem_append_left _ (List.mem_of_getElem? (i := 7) (by decide +kernel)))) rfl, hp_in (List.mem_append_right _ (List.mem_append_right _ (List.mem_append_right _ (List.mem_append_left _ (List.mem_of_getElem? (i := 215) rfl))))) rfl, by decide +kernel, by decide +kernel, by decide +kernel⟩
abbrev rm_X2_addState : Room := { frames := 1, cells := 0, slots := 0, locals := 40 }
set_option maxRecDepth 100000 in
theorem F_X2_begin : hp_Fv RX2 yX2_begin cX2_begin 2 none 1 := ⟨hp_in (List.mem_append_right _ (List.mem_append_right _ (List.mem_append_right _ (List.mem_append_left _ (List.mem_of_getElem? (i := 199) (by decide +kernel)))))) rfl, hp_in (List.mem_append_right _ (List.mem_append_right _ (List.mem_append_right _ (List.mem_append_left _ (List.mem_of_getElem? (i := 200) (by decide +kernel)))))) rfl, hp_in (List.mem_append_right _ (List.mem_append_left _ (List.mem_of_getElem? (i := 7) (by decide +kernel)))) rfl, hp_in (List.mem_append_right _ (List.mem_append_right _ (List.mem_append_right _ (List.mem_append_left _ (List.mem_of_getElem? (i := 201) rfl))))) rfl, by decide +kernel, by decide +kernel, by decide +kernel⟩
abbrev rm_X2_begin : Room := { frames := 2, cells := 0, slots := 0, locals := 64 }
set_option maxRecDepth 100000 in
theorem F_X2_isUsable : hp_Fv RX2 yX2_isUsable cX2_isUsable 1 (some .boolean) 0 := ⟨hp_in (List.mem_append_right _ (List.mem_append_right _ (List.mem_append_right _ (List.mem_append_right _ (List.mem_append_left _ (List.mem_of_getElem? (i := 122) (by decide +kernel))))))) rfl, hp_in (List.mem_append_right _ (List.mem_append_right _ (List.mem_append_right _ (List.mem_append_right _ (List.mem_append_left _ (List.mem_of_getElem? (i := 123) (by decide +kernel))))))) rfl, hp_in (List.mem_append_right _ (List.mem_append_left _ (List.mem_of_getElem? (i := 7) (by decide +kernel)))) rfl, hp_in (List.mem_append_right _ (List.mem_append_right _ (List.mem_append_right _ (List.mem_append_right _ (List.mem_append_left _ (List.mem_of_getElem? (i := 124) rfl)))))) rfl, by decide +kernel, by decide +kernel, by decide +kernel⟩
abbrev rm_X2_isUsable : Room := { frames := 0, cells := 0, slots := 0, locals := 0 }
set_option maxRecDepth 100000 in
theorem F_X2_has : hp_Fv RX2 yX2_has cX2_has 2 (some .boolean) 1 := ⟨hp_in (List.mem_append_right _ (List.mem_append_right _ (List.mem_append_right _ (List.mem_append_right _ (List.mem_append_left _ (List.mem_of_getElem? (i := 118) (by decide +kernel))))))) rfl, hp_in (List.mem_append_right _ (List.mem_append_right _ (List.mem_append_right _ (List.mem_append_right _ (List.mem_append_left _ (List.mem_of_getElem? (i := 119) (by decide +kernel))))))) rfl, hp_in (List.mem_append_right _ (List.mem_append_left _ (List.mem_of_getElem? (i := 7) (by decide +kernel)))) rfl, hp_in (List.mem_append_right _ (List.mem_append_right _ (List.mem_append_right _ (List.mem_append_right _ (List.mem_append_left _ (List.mem_of_getElem? (i := 120) rfl)))))) rfl, by decide +kernel, by decide +kernel, by decide +kernel⟩
abbrev rm_X2_has : Room := { frames := 1, cells := 0, slots := 0, locals := 20 }
set_option maxRecDepth 100000 in
theorem F_X2_movesFrom : hp_Fv RX2 yX2_movesFrom cX2_movesFrom 2 (some .int) 1 := ⟨hp_in (List.mem_append_right _ (List.mem_append_right _ (List.mem_append_right _ (List.mem_append_right _ (List.mem_append_left _ (List.mem_of_getElem? (i := 185) (by decide +kernel))))))) rfl, hp_in (List.mem_append_right _ (List.mem_append_right _ (List.mem_append_right _ (List.mem_append_right _ (List.mem_append_left _ (List.mem_of_getElem? (i := 186) (by decide +kernel))))))) rfl, hp_in (List.mem_append_right _ (List.mem_append_left _ (List.mem_of_getElem? (i := 7) (by decide +kernel)))) rfl, hp_in (List.mem_append_right _ (List.mem_append_right _ (List.mem_append_right _ (List.mem_append_right _ (List.mem_append_left _ (List.mem_of_getElem? (i := 187) rfl)))))) rfl, by decide +kernel, by decide +kernel, by decide +kernel⟩
abbrev rm_X2_movesFrom : Room := { frames := 0, cells := 0, slots := 0, locals := 0 }
set_option maxRecDepth 100000 in
theorem F_X2_roleOfMove : hp_Fv RX2 yX2_roleOfMove cX2_roleOfMove 2 (some .int) 1 := ⟨hp_in (List.mem_append_right _ (List.mem_append_right _ (List.mem_append_right _ (List.mem_append_right _ (List.mem_append_left _ (List.mem_of_getElem? (i := 193) (by decide +kernel))))))) rfl, hp_in (List.mem_append_right _ (List.mem_append_right _ (List.mem_append_right _ (List.mem_append_right _ (List.mem_append_left _ (List.mem_of_getElem? (i := 194) (by decide +kernel))))))) rfl, hp_in (List.mem_append_right _ (List.mem_append_left _ (List.mem_of_getElem? (i := 7) (by decide +kernel)))) rfl, hp_in (List.mem_append_right _ (List.mem_append_right _ (List.mem_append_right _ (List.mem_append_right _ (List.mem_append_left _ (List.mem_of_getElem? (i := 195) rfl)))))) rfl, by decide +kernel, by decide +kernel, by decide +kernel⟩
abbrev rm_X2_roleOfMove : Room := { frames := 0, cells := 0, slots := 0, locals := 0 }
set_option maxRecDepth 100000 in
theorem F_X2_memberOfMove : hp_Fv RX2 yX2_memberOfMove cX2_memberOfMove 2 (some .int) 1 := ⟨hp_in (List.mem_append_right _ (List.mem_append_right _ (List.mem_append_right _ (List.mem_append_right _ (List.mem_append_left _ (List.mem_of_getElem? (i := 197) (by decide +kernel))))))) rfl, hp_in (List.mem_append_right _ (List.mem_append_right _ (List.mem_append_right _ (List.mem_append_right _ (List.mem_append_left _ (List.mem_of_getElem? (i := 198) (by decide +kernel))))))) rfl, hp_in (List.mem_append_right _ (List.mem_append_left _ (List.mem_of_getElem? (i := 7) (by decide +kernel)))) rfl, hp_in (List.mem_append_right _ (List.mem_append_right _ (List.mem_append_right _ (List.mem_append_right _ (List.mem_append_left _ (List.mem_of_getElem? (i := 199) rfl)))))) rfl, by decide +kernel, by decide +kernel, by decide +kernel⟩
abbrev rm_X2_memberOfMove : Room := { frames := 0, cells := 0, slots := 0, locals := 0 }
set_option maxRecDepth 100000 in
theorem F_X2_stepOfMove : hp_Fv RX2 yX2_stepOfMove cX2_stepOfMove 2 (some .int) 1 := ⟨hp_in (List.mem_append_right _ (List.mem_append_right _ (List.mem_append_right _ (List.mem_append_right _ (List.mem_append_left _ (List.mem_of_getElem? (i := 201) (by decide +kernel))))))) rfl, hp_in (List.mem_append_right _ (List.mem_append_right _ (List.mem_append_right _ (List.mem_append_right _ (List.mem_append_left _ (List.mem_of_getElem? (i := 202) (by decide +kernel))))))) rfl, hp_in (List.mem_append_right _ (List.mem_append_left _ (List.mem_of_getElem? (i := 7) (by decide +kernel)))) rfl, hp_in (List.mem_append_right _ (List.mem_append_right _ (List.mem_append_right _ (List.mem_append_right _ (List.mem_append_left _ (List.mem_of_getElem? (i := 203) rfl)))))) rfl, by decide +kernel, by decide +kernel, by decide +kernel⟩
abbrev rm_X2_stepOfMove : Room := { frames := 0, cells := 0, slots := 0, locals := 0 }
set_option maxRecDepth 100000 in
theorem F_X2_moverBit : hp_Fv RX2 yX2_moverBit cX2_moverBit 2 (some .int) 1 := ⟨hp_in (List.mem_append_right _ (List.mem_append_right _ (List.mem_append_right _ (List.mem_append_right _ (List.mem_append_left _ (List.mem_of_getElem? (i := 222) (by decide +kernel))))))) rfl, hp_in (List.mem_append_right _ (List.mem_append_right _ (List.mem_append_right _ (List.mem_append_right _ (List.mem_append_left _ (List.mem_of_getElem? (i := 223) (by decide +kernel))))))) rfl, hp_in (List.mem_append_right _ (List.mem_append_left _ (List.mem_of_getElem? (i := 7) (by decide +kernel)))) rfl, hp_in (List.mem_append_right _ (List.mem_append_right _ (List.mem_append_right _ (List.mem_append_right _ (List.mem_append_left _ (List.mem_of_getElem? (i := 224) rfl)))))) rfl, by decide +kernel, by decide +kernel, by decide +kernel⟩
abbrev rm_X2_moverBit : Room := { frames := 0, cells := 0, slots := 0, locals := 0 }
set_option maxRecDepth 100000 in
theorem F_X2_hasMemberMove : hp_Fv RX2 yX2_hasMemberMove cX2_hasMemberMove 2 (some .boolean) 1 := ⟨hp_in (List.mem_append_right _ (List.mem_append_right _ (List.mem_append_right _ (List.mem_append_right _ (List.mem_append_left _ (List.mem_of_getElem? (i := 217) (by decide +kernel))))))) rfl, hp_in (List.mem_append_right _ (List.mem_append_right _ (List.mem_append_right _ (List.mem_append_right _ (List.mem_append_left _ (List.mem_of_getElem? (i := 218) (by decide +kernel))))))) rfl, hp_in (List.mem_append_right _ (List.mem_append_left _ (List.mem_of_getElem? (i := 7) (by decide +kernel)))) rfl, hp_in (List.mem_append_right _ (List.mem_append_right _ (List.mem_append_right _ (List.mem_append_right _ (List.mem_append_left _ (List.mem_of_getElem? (i := 219) rfl)))))) rfl, by decide +kernel, by decide +kernel, by decide +kernel⟩
abbrev rm_X2_hasMemberMove : Room := { frames := 1, cells := 0, slots := 0, locals := 21 }
set_option maxRecDepth 100000 in
theorem F_X2_mover : hp_Fs yX2_mover cX2_mover 3 (some .int) 3 := ⟨hp_in (List.mem_append_right _ (List.mem_append_right _ (List.mem_append_right _ (List.mem_append_right _ (List.mem_append_left _ (List.mem_of_getElem? (i := 86) (by decide +kernel))))))) rfl, hp_in (List.mem_append_right _ (List.mem_append_left _ (List.mem_of_getElem? (i := 7) (by decide +kernel)))) rfl, hp_in (List.mem_append_right _ (List.mem_append_right _ (List.mem_append_right _ (List.mem_append_right _ (List.mem_append_left _ (List.mem_of_getElem? (i := 87) rfl)))))) rfl, by decide +kernel, by decide +kernel, by decide +kernel⟩
abbrev rm_X2_mover : Room := { frames := 0, cells := 0, slots := 0, locals := 0 }
set_option maxRecDepth 100000 in
theorem F_X2_noteFault : hp_Fv RX2 yX2_noteFault cX2_noteFault 5 none 4 := ⟨hp_in (List.mem_append_right _ (List.mem_append_right _ (List.mem_append_right _ (List.mem_append_right _ (List.mem_append_left _ (List.mem_of_getElem? (i := 93) (by decide +kernel))))))) rfl, hp_in (List.mem_append_right _ (List.mem_append_right _ (List.mem_append_right _ (List.mem_append_right _ (List.mem_append_left _ (List.mem_of_getElem? (i := 94) (by decide +kernel))))))) rfl, hp_in (List.mem_append_right _ (List.mem_append_left _ (List.mem_of_getElem? (i := 7) (by decide +kernel)))) rfl, hp_in (List.mem_append_right _ (List.mem_append_right _ (List.mem_append_right _ (List.mem_append_right _ (List.mem_append_left _ (List.mem_of_getElem? (i := 95) rfl)))))) rfl, by decide +kernel, by decide +kernel, by decide +kernel⟩
abbrev rm_X2_noteFault : Room := { frames := 0, cells := 0, slots := 0, locals := 0 }
set_option maxRecDepth 100000 in
theorem F_X2_addMove : hp_Fv RX2 yX2_addMove cX2_addMove 6 none 3 := ⟨hp_in (List.mem_append_right _ (List.mem_append_right _ (List.mem_append_right _ (List.mem_append_right _ (List.mem_append_left _ (List.mem_of_getElem? (i := 89) (by decide +kernel))))))) rfl, hp_in (List.mem_append_right _ (List.mem_append_right _ (List.mem_append_right _ (List.mem_append_right _ (List.mem_append_left _ (List.mem_of_getElem? (i := 90) (by decide +kernel))))))) rfl, hp_in (List.mem_append_right _ (List.mem_append_left _ (List.mem_of_getElem? (i := 7) (by decide +kernel)))) rfl, hp_in (List.mem_append_right _ (List.mem_append_right _ (List.mem_append_right _ (List.mem_append_right _ (List.mem_append_left _ (List.mem_of_getElem? (i := 91) rfl)))))) rfl, by decide +kernel, by decide +kernel, by decide +kernel⟩
abbrev rm_X2_addMove : Room := { frames := 2, cells := 0, slots := 0, locals := 64 }
set_option maxRecDepth 100000 in
theorem F_X5_ask : hp_Fv RX5 yX5_ask cX5_ask 2 none 1 := ⟨hp_in (List.mem_append_right _ (List.mem_append_right _ (List.mem_append_right _ (List.mem_append_right _ (List.mem_append_left _ (List.mem_of_getElem? (i := 131) (by decide +kernel))))))) rfl, hp_in (List.mem_append_right _ (List.mem_append_right _ (List.mem_append_right _ (List.mem_append_right _ (List.mem_append_left _ (List.mem_of_getElem? (i := 132) (by decide +kernel))))))) rfl, hp_in (List.mem_append_right _ (List.mem_append_left _ (List.mem_of_getElem? (i := 10) (by decide +kernel)))) rfl, hp_in (List.mem_append_right _ (List.mem_append_right _ (List.mem_append_right _ (List.mem_append_right _ (List.mem_append_left _ (List.mem_of_getElem? (i := 133) rfl)))))) rfl, by decide +kernel, by decide +kernel, by decide +kernel⟩
abbrev rm_X5_ask : Room := { frames := 3, cells := 0, slots := 0, locals := 62 }
set_option maxRecDepth 100000 in
theorem F_X6_everyoneBits : hp_Fv RX6 yX6_everyoneBits cX6_everyoneBits 3 (some .int) 0 := ⟨hp_in (List.mem_append_right _ (List.mem_append_right _ (List.mem_append_right _ (List.mem_append_right _ (List.mem_append_right _ (List.mem_append_left _ (List.mem_of_getElem? (i := 19) (by decide +kernel)))))))) rfl, hp_in (List.mem_append_right _ (List.mem_append_right _ (List.mem_append_right _ (List.mem_append_right _ (List.mem_append_right _ (List.mem_append_left _ (List.mem_of_getElem? (i := 20) (by decide +kernel)))))))) rfl, hp_in (List.mem_append_right _ (List.mem_append_left _ (List.mem_of_getElem? (i := 4) (by decide +kernel)))) rfl, hp_in (List.mem_append_right _ (List.mem_append_right _ (List.mem_append_right _ (List.mem_append_right _ (List.mem_append_right _ (List.mem_append_left _ (List.mem_of_getElem? (i := 21) rfl))))))) rfl, by decide +kernel, by decide +kernel, by decide +kernel⟩
abbrev rm_X6_everyoneBits : Room := { frames := 0, cells := 0, slots := 0, locals := 0 }
set_option maxRecDepth 100000 in
theorem F_X3_enter : hp_Fv RX3 yX3_enter cX3_enter 2 none 1 := ⟨hp_in (List.mem_append_right _ (List.mem_append_right _ (List.mem_append_right _ (List.mem_append_right _ (List.mem_append_right _ (List.mem_append_left _ (List.mem_of_getElem? (i := 28) (by decide +kernel)))))))) rfl, hp_in (List.mem_append_left _ (List.mem_of_getElem? (i := 20) (by decide +kernel))) rfl, hp_in (List.mem_append_right _ (List.mem_append_left _ (List.mem_of_getElem? (i := 11) (by decide +kernel)))) rfl, hp_in (List.mem_append_right _ (List.mem_append_right _ (List.mem_append_right _ (List.mem_append_right _ (List.mem_append_right _ (List.mem_append_left _ (List.mem_of_getElem? (i := 29) rfl))))))) rfl, by decide +kernel, by decide +kernel, by decide +kernel⟩
abbrev rm_X3_enter : Room := { frames := 0, cells := 0, slots := 0, locals := 0 }
set_option maxRecDepth 100000 in
theorem F_X3_follow : hp_Fv RX3 yX3_follow cX3_follow 3 none 2 := ⟨hp_in (List.mem_append_right _ (List.mem_append_right _ (List.mem_append_right _ (List.mem_append_right _ (List.mem_append_right _ (List.mem_append_left _ (List.mem_of_getElem? (i := 32) (by decide +kernel)))))))) rfl, hp_in (List.mem_append_left _ (List.mem_of_getElem? (i := 21) (by decide +kernel))) rfl, hp_in (List.mem_append_right _ (List.mem_append_left _ (List.mem_of_getElem? (i := 11) (by decide +kernel)))) rfl, hp_in (List.mem_append_right _ (List.mem_append_right _ (List.mem_append_right _ (List.mem_append_right _ (List.mem_append_right _ (List.mem_append_left _ (List.mem_of_getElem? (i := 33) rfl))))))) rfl, by decide +kernel, by decide +kernel, by decide +kernel⟩
abbrev rm_X3_follow : Room := { frames := 1, cells := 0, slots := 0, locals := 21 }
set_option maxRecDepth 100000 in
theorem F_X3_handBack : hp_Fv RX3 yX3_handBack cX3_handBack 3 none 1 := ⟨hp_in (List.mem_append_right _ (List.mem_append_right _ (List.mem_append_right _ (List.mem_append_right _ (List.mem_append_right _ (List.mem_append_left _ (List.mem_of_getElem? (i := 39) (by decide +kernel)))))))) rfl, hp_in (List.mem_append_left _ (List.mem_of_getElem? (i := 22) (by decide +kernel))) rfl, hp_in (List.mem_append_right _ (List.mem_append_left _ (List.mem_of_getElem? (i := 11) (by decide +kernel)))) rfl, hp_in (List.mem_append_right _ (List.mem_append_right _ (List.mem_append_right _ (List.mem_append_right _ (List.mem_append_right _ (List.mem_append_left _ (List.mem_of_getElem? (i := 40) rfl))))))) rfl, by decide +kernel, by decide +kernel, by decide +kernel⟩
abbrev rm_X3_handBack : Room := { frames := 1, cells := 0, slots := 0, locals := 21 }
set_option maxRecDepth 100000 in
theorem F_X3_weigh : hp_Fv RX3 yX3_weigh cX3_weigh 8 (some .boolean) 2 := ⟨hp_in (List.mem_append_right _ (List.mem_append_right _ (List.mem_append_right _ (List.mem_append_right _ (List.mem_append_right _ (List.mem_append_left _ (List.mem_of_getElem? (i := 47) (by decide +kernel)))))))) rfl, hp_in (List.mem_append_left _ (List.mem_of_getElem? (i := 24) (by decide +kernel))) rfl, hp_in (List.mem_append_right _ (List.mem_append_left _ (List.mem_of_getElem? (i := 11) (by decide +kernel)))) rfl, hp_in (List.mem_append_right _ (List.mem_append_right _ (List.mem_append_right _ (List.mem_append_right _ (List.mem_append_right _ (List.mem_append_left _ (List.mem_of_getElem? (i := 48) rfl))))))) rfl, by decide +kernel, by decide +kernel, by decide +kernel⟩
abbrev rm_X3_weigh : Room := { frames := 1, cells := 0, slots := 0, locals := 21 }
set_option maxRecDepth 100000 in
theorem F_X3_close : hp_Fv RX3 yX3_close cX3_close 7 none 1 := ⟨hp_in (List.mem_append_right _ (List.mem_append_right _ (List.mem_append_right _ (List.mem_append_right _ (List.mem_append_right _ (List.mem_append_left _ (List.mem_of_getElem? (i := 43) (by decide +kernel)))))))) rfl, hp_in (List.mem_append_left _ (List.mem_of_getElem? (i := 23) (by decide +kernel))) rfl, hp_in (List.mem_append_right _ (List.mem_append_left _ (List.mem_of_getElem? (i := 11) (by decide +kernel)))) rfl, hp_in (List.mem_append_right _ (List.mem_append_right _ (List.mem_append_right _ (List.mem_append_right _ (List.mem_append_right _ (List.mem_append_left _ (List.mem_of_getElem? (i := 44) rfl))))))) rfl, by decide +kernel, by decide +kernel, by decide +kernel⟩
abbrev rm_X3_close : Room := { frames := 2, cells := 0, slots := 0, locals := 48 }
set_option maxRecDepth 100000 in
theorem F_X3_walk : hp_Fv RX3 yX3_walk cX3_walk 4 none 1 := ⟨hp_in (List.mem_append_right _ (List.mem_append_right _ (List.mem_append_right _ (List.mem_append_right _ (List.mem_append_right _ (List.mem_append_left _ (List.mem_of_getElem? (i := 24) (by decide +kernel)))))))) rfl, hp_in (List.mem_append_left _ (List.mem_of_getElem? (i := 19) (by decide +kernel))) rfl, hp_in (List.mem_append_right _ (List.mem_append_left _ (List.mem_of_getElem? (i := 11) (by decide +kernel)))) rfl, hp_in (List.mem_append_right _ (List.mem_append_right _ (List.mem_append_right _ (List.mem_append_right _ (List.mem_append_right _ (List.mem_append_left _ (List.mem_of_getElem? (i := 25) rfl))))))) rfl, by decide +kernel, by decide +kernel, by decide +kernel⟩
abbrev rm_X3_walk : Room := { frames := 3, cells := 0, slots := 0, locals := 74 }
set_option maxRecDepth 100000 in
theorem F_X3_tie : hp_Fv RX3 yX3_tie cX3_tie 3 none 1 := ⟨hp_in (List.mem_append_right _ (List.mem_append_right _ (List.mem_append_right _ (List.mem_append_right _ (List.mem_append_right _ (List.mem_append_left _ (List.mem_of_getElem? (i := 16) (by decide +kernel)))))))) rfl, hp_in (List.mem_append_left _ (List.mem_of_getElem? (i := 18) (by decide +kernel))) rfl, hp_in (List.mem_append_right _ (List.mem_append_left _ (List.mem_of_getElem? (i := 11) (by decide +kernel)))) rfl, hp_in (List.mem_append_right _ (List.mem_append_right _ (List.mem_append_right _ (List.mem_append_right _ (List.mem_append_right _ (List.mem_append_left _ (List.mem_of_getElem? (i := 17) rfl))))))) rfl, by decide +kernel, by decide +kernel, by decide +kernel⟩
abbrev rm_X3_tie : Room := { frames := 4, cells := 0, slots := 0, locals := 97 }
set_option maxRecDepth 100000 in
theorem F_X3_firstOfBoth : hp_Fv RX3 yX3_firstOfBoth cX3_firstOfBoth 4 (some .int) 2 := ⟨hp_in (List.mem_append_right _ (List.mem_append_right _ (List.mem_append_right _ (List.mem_append_right _ (List.mem_append_right _ (List.mem_append_left _ (List.mem_of_getElem? (i := 52) (by decide +kernel)))))))) rfl, hp_in (List.mem_append_left _ (List.mem_of_getElem? (i := 25) (by decide +kernel))) rfl, hp_in (List.mem_append_right _ (List.mem_append_left _ (List.mem_of_getElem? (i := 11) (by decide +kernel)))) rfl, hp_in (List.mem_append_right _ (List.mem_append_right _ (List.mem_append_right _ (List.mem_append_right _ (List.mem_append_right _ (List.mem_append_left _ (List.mem_of_getElem? (i := 53) rfl))))))) rfl, by decide +kernel, by decide +kernel, by decide +kernel⟩
abbrev rm_X3_firstOfBoth : Room := { frames := 0, cells := 0, slots := 0, locals := 0 }
set_option maxRecDepth 100000 in
theorem F_X3_breakerOfAgain : hp_Fv RX3 yX3_breakerOfAgain cX3_breakerOfAgain 4 (some .int) 2 := ⟨hp_in (List.mem_append_right _ (List.mem_append_right _ (List.mem_append_right _ (List.mem_append_right _ (List.mem_append_right _ (List.mem_append_left _ (List.mem_of_getElem? (i := 8) (by decide +kernel)))))))) rfl, hp_in (List.mem_append_right _ (List.mem_append_right _ (List.mem_append_right _ (List.mem_append_right _ (List.mem_append_right _ (List.mem_append_left _ (List.mem_of_getElem? (i := 9) (by decide +kernel)))))))) rfl, hp_in (List.mem_append_right _ (List.mem_append_left _ (List.mem_of_getElem? (i := 11) (by decide +kernel)))) rfl, hp_in (List.mem_append_right _ (List.mem_append_right _ (List.mem_append_right _ (List.mem_append_right _ (List.mem_append_right _ (List.mem_append_left _ (List.mem_of_getElem? (i := 10) rfl))))))) rfl, by decide +kernel, by decide +kernel, by decide +kernel⟩
abbrev rm_X3_breakerOfAgain : Room := { frames := 5, cells := 0, slots := 0, locals := 119 }
set_option maxRecDepth 100000 in
theorem F_X3_breakerOfFromTo : hp_Fv RX3 yX3_breakerOfFromTo cX3_breakerOfFromTo 5 (some .int) 3 := ⟨hp_in (List.mem_append_right _ (List.mem_append_right _ (List.mem_append_right _ (List.mem_append_right _ (List.mem_append_right _ (List.mem_append_left _ (List.mem_of_getElem? (i := 59) (by decide +kernel)))))))) rfl, hp_in (List.mem_append_right _ (List.mem_append_right _ (List.mem_append_right _ (List.mem_append_right _ (List.mem_append_right _ (List.mem_append_left _ (List.mem_of_getElem? (i := 60) (by decide +kernel)))))))) rfl, hp_in (List.mem_append_right _ (List.mem_append_left _ (List.mem_of_getElem? (i := 11) (by decide +kernel)))) rfl, hp_in (List.mem_append_right _ (List.mem_append_right _ (List.mem_append_right _ (List.mem_append_right _ (List.mem_append_right _ (List.mem_append_left _ (List.mem_of_getElem? (i := 61) rfl))))))) rfl, by decide +kernel, by decide +kernel, by decide +kernel⟩
abbrev rm_X3_breakerOfFromTo : Room := { frames := 5, cells := 0, slots := 0, locals := 119 }
set_option maxRecDepth 100000 in
theorem F_X4_hasChannel : hp_Fv RX4 yX4_hasChannel cX4_hasChannel 2 (some .boolean) 1 := ⟨hp_in (List.mem_append_right _ (List.mem_append_right _ (List.mem_append_right _ (List.mem_append_left _ (List.mem_of_getElem? (i := 82) (by decide +kernel)))))) rfl, hp_in (List.mem_append_right _ (List.mem_append_right _ (List.mem_append_right _ (List.mem_append_left _ (List.mem_of_getElem? (i := 83) (by decide +kernel)))))) rfl, hp_in (List.mem_append_right _ (List.mem_append_left _ (List.mem_of_getElem? (i := 2) (by decide +kernel)))) rfl, hp_in (List.mem_append_right _ (List.mem_append_right _ (List.mem_append_right _ (List.mem_append_left _ (List.mem_of_getElem? (i := 84) rfl))))) rfl, by decide +kernel, by decide +kernel, by decide +kernel⟩
abbrev rm_X4_hasChannel : Room := { frames := 0, cells := 0, slots := 0, locals := 0 }
set_option maxRecDepth 100000 in
theorem F_X4_addChannel : hp_Fv RX4 yX4_addChannel cX4_addChannel 4 (some .int) 3 := ⟨hp_in (List.mem_append_right _ (List.mem_append_right _ (List.mem_append_right _ (List.mem_append_left _ (List.mem_of_getElem? (i := 65) (by decide +kernel)))))) rfl, hp_in (List.mem_append_right _ (List.mem_append_right _ (List.mem_append_right _ (List.mem_append_left _ (List.mem_of_getElem? (i := 66) (by decide +kernel)))))) rfl, hp_in (List.mem_append_right _ (List.mem_append_left _ (List.mem_of_getElem? (i := 2) (by decide +kernel)))) rfl, hp_in (List.mem_append_right _ (List.mem_append_right _ (List.mem_append_right _ (List.mem_append_left _ (List.mem_of_getElem? (i := 67) rfl))))) rfl, by decide +kernel, by decide +kernel, by decide +kernel⟩
abbrev rm_X4_addChannel : Room := { frames := 0, cells := 0, slots := 0, locals := 0 }
set_option maxRecDepth 100000 in
theorem F_X10_has : hp_Fv RX10 yX10_has cX10_has 3 (some .boolean) 2 := ⟨hp_in (List.mem_append_right _ (List.mem_append_right _ (List.mem_append_right _ (List.mem_append_left _ (List.mem_of_getElem? (i := 77) (by decide +kernel)))))) rfl, hp_in (List.mem_append_right _ (List.mem_append_right _ (List.mem_append_right _ (List.mem_append_left _ (List.mem_of_getElem? (i := 78) (by decide +kernel)))))) rfl, hp_in (List.mem_append_right _ (List.mem_append_left _ (List.mem_of_getElem? (i := 3) (by decide +kernel)))) rfl, hp_in (List.mem_append_right _ (List.mem_append_right _ (List.mem_append_right _ (List.mem_append_left _ (List.mem_of_getElem? (i := 79) rfl))))) rfl, by decide +kernel, by decide +kernel, by decide +kernel⟩
abbrev rm_X10_has : Room := { frames := 0, cells := 0, slots := 0, locals := 0 }
set_option maxRecDepth 100000 in
theorem F_X6_has : hp_Fv RX6 yX6_has cX6_has 2 (some .boolean) 1 := ⟨hp_in (List.mem_append_right _ (List.mem_append_right _ (List.mem_append_right _ (List.mem_append_left _ (List.mem_of_getElem? (i := 39) (by decide +kernel)))))) rfl, hp_in (List.mem_append_right _ (List.mem_append_right _ (List.mem_append_right _ (List.mem_append_left _ (List.mem_of_getElem? (i := 40) (by decide +kernel)))))) rfl, hp_in (List.mem_append_right _ (List.mem_append_left _ (List.mem_of_getElem? (i := 4) (by decide +kernel)))) rfl, hp_in (List.mem_append_right _ (List.mem_append_right _ (List.mem_append_right _ (List.mem_append_left _ (List.mem_of_getElem? (i := 41) rfl))))) rfl, by decide +kernel, by decide +kernel, by decide +kernel⟩
abbrev rm_X6_has : Room := { frames := 0, cells := 0, slots := 0, locals := 0 }
set_option maxRecDepth 100000 in
theorem F_X6_hasMember : hp_Fv RX6 yX6_hasMember cX6_hasMember 3 (some .boolean) 2 := ⟨hp_in (List.mem_append_right _ (List.mem_append_right _ (List.mem_append_right _ (List.mem_append_left _ (List.mem_of_getElem? (i := 86) (by decide +kernel)))))) rfl, hp_in (List.mem_append_right _ (List.mem_append_right _ (List.mem_append_right _ (List.mem_append_left _ (List.mem_of_getElem? (i := 87) (by decide +kernel)))))) rfl, hp_in (List.mem_append_right _ (List.mem_append_left _ (List.mem_of_getElem? (i := 4) (by decide +kernel)))) rfl, hp_in (List.mem_append_right _ (List.mem_append_right _ (List.mem_append_right _ (List.mem_append_left _ (List.mem_of_getElem? (i := 88) rfl))))) rfl, by decide +kernel, by decide +kernel, by decide +kernel⟩
abbrev rm_X6_hasMember : Room := { frames := 1, cells := 0, slots := 0, locals := 21 }
set_option maxRecDepth 100000 in
theorem F_X4_knowsParts : hp_Fv RX4 yX4_knowsParts cX4_knowsParts 5 (some .boolean) 4 := ⟨hp_in (List.mem_append_right _ (List.mem_append_right _ (List.mem_append_right _ (List.mem_append_left _ (List.mem_of_getElem? (i := 73) (by decide +kernel)))))) rfl, hp_in (List.mem_append_right _ (List.mem_append_right _ (List.mem_append_right _ (List.mem_append_left _ (List.mem_of_getElem? (i := 74) (by decide +kernel)))))) rfl, hp_in (List.mem_append_right _ (List.mem_append_left _ (List.mem_of_getElem? (i := 2) (by decide +kernel)))) rfl, hp_in (List.mem_append_right _ (List.mem_append_right _ (List.mem_append_right _ (List.mem_append_left _ (List.mem_of_getElem? (i := 75) rfl))))) rfl, by decide +kernel, by decide +kernel, by decide +kernel⟩
abbrev rm_X4_knowsParts : Room := { frames := 2, cells := 0, slots := 0, locals := 43 }
set_option maxRecDepth 100000 in
theorem F_X4_knowsAct : hp_Fv RX4 yX4_knowsAct cX4_knowsAct 6 (some .boolean) 4 := ⟨hp_in (List.mem_append_right _ (List.mem_append_right _ (List.mem_append_right _ (List.mem_append_left _ (List.mem_of_getElem? (i := 124) (by decide +kernel)))))) rfl, hp_in (List.mem_append_right _ (List.mem_append_right _ (List.mem_append_right _ (List.mem_append_left _ (List.mem_of_getElem? (i := 125) (by decide +kernel)))))) rfl, hp_in (List.mem_append_right _ (List.mem_append_left _ (List.mem_of_getElem? (i := 2) (by decide +kernel)))) rfl, hp_in (List.mem_append_right _ (List.mem_append_right _ (List.mem_append_right _ (List.mem_append_left _ (List.mem_of_getElem? (i := 126) rfl))))) rfl, by decide +kernel, by decide +kernel, by decide +kernel⟩
abbrev rm_X4_knowsAct : Room := { frames := 1, cells := 0, slots := 0, locals := 22 }
set_option maxRecDepth 100000 in
theorem F_X4_markUses : hp_Fv RX4 yX4_markUses cX4_markUses 4 none 0 := ⟨hp_in (List.mem_append_right _ (List.mem_append_right _ (List.mem_append_right _ (List.mem_append_left _ (List.mem_of_getElem? (i := 153) (by decide +kernel)))))) rfl, hp_in (List.mem_append_left _ (List.mem_of_getElem? (i := 1) (by decide +kernel))) rfl, hp_in (List.mem_append_right _ (List.mem_append_left _ (List.mem_of_getElem? (i := 2) (by decide +kernel)))) rfl, hp_in (List.mem_append_right _ (List.mem_append_right _ (List.mem_append_right _ (List.mem_append_left _ (List.mem_of_getElem? (i := 154) rfl))))) rfl, by decide +kernel, by decide +kernel, by decide +kernel⟩
abbrev rm_X4_markUses : Room := { frames := 2, cells := 0, slots := 0, locals := 41 }
set_option maxRecDepth 100000 in
theorem F_X4_isSearchable : hp_Fv RX4 yX4_isSearchable cX4_isSearchable 2 (some .boolean) 0 := ⟨hp_in (List.mem_append_right _ (List.mem_append_right _ (List.mem_append_right _ (List.mem_append_left _ (List.mem_of_getElem? (i := 144) (by decide +kernel)))))) rfl, hp_in (List.mem_append_right _ (List.mem_append_right _ (List.mem_append_right _ (List.mem_append_left _ (List.mem_of_getElem? (i := 145) (by decide +kernel)))))) rfl, hp_in (List.mem_append_right _ (List.mem_append_left _ (List.mem_of_getElem? (i := 2) (by decide +kernel)))) rfl, hp_in (List.mem_append_right _ (List.mem_append_right _ (List.mem_append_right _ (List.mem_append_left _ (List.mem_of_getElem? (i := 146) rfl))))) rfl, by decide +kernel, by decide +kernel, by decide +kernel⟩
abbrev rm_X4_isSearchable : Room := { frames := 3, cells := 0, slots := 0, locals := 64 }
set_option maxRecDepth 100000 in
theorem F_X7_clear : hp_Fv RX7 yX7_clear cX7_clear 1 none 0 := ⟨hp_in (List.mem_append_right _ (List.mem_append_right _ (List.mem_append_right _ (List.mem_append_left _ (List.mem_of_getElem? (i := 180) (by decide +kernel)))))) rfl, hp_in (List.mem_append_right _ (List.mem_append_right _ (List.mem_append_right _ (List.mem_append_left _ (List.mem_of_getElem? (i := 181) (by decide +kernel)))))) rfl, hp_in (List.mem_append_right _ (List.mem_append_left _ (List.mem_of_getElem? (i := 9) (by decide +kernel)))) rfl, hp_in (List.mem_append_right _ (List.mem_append_right _ (List.mem_append_right _ (List.mem_append_left _ (List.mem_of_getElem? (i := 182) rfl))))) rfl, by decide +kernel, by decide +kernel, by decide +kernel⟩
abbrev rm_X7_clear : Room := { frames := 1, cells := 0, slots := 0, locals := 23 }
set_option maxRecDepth 100000 in
theorem F_X10_firstOf : hp_Fv RX10 yX10_firstOf cX10_firstOf 3 (some .int) 2 := ⟨hp_in (List.mem_append_right _ (List.mem_append_right _ (List.mem_append_right _ (List.mem_append_left _ (List.mem_of_getElem? (i := 187) (by decide +kernel)))))) rfl, hp_in (List.mem_append_right _ (List.mem_append_right _ (List.mem_append_right _ (List.mem_append_left _ (List.mem_of_getElem? (i := 188) (by decide +kernel)))))) rfl, hp_in (List.mem_append_right _ (List.mem_append_left _ (List.mem_of_getElem? (i := 3) (by decide +kernel)))) rfl, hp_in (List.mem_append_right _ (List.mem_append_right _ (List.mem_append_right _ (List.mem_append_left _ (List.mem_of_getElem? (i := 189) rfl))))) rfl, by decide +kernel, by decide +kernel, by decide +kernel⟩
abbrev rm_X10_firstOf : Room := { frames := 0, cells := 0, slots := 0, locals := 0 }
set_option maxRecDepth 100000 in
theorem F_X7_setShared : hp_Fv RX7 yX7_setShared cX7_setShared 3 none 2 := ⟨hp_in (List.mem_append_right _ (List.mem_append_right _ (List.mem_append_right _ (List.mem_append_left _ (List.mem_of_getElem? (i := 191) (by decide +kernel)))))) rfl, hp_in (List.mem_append_right _ (List.mem_append_right _ (List.mem_append_right _ (List.mem_append_left _ (List.mem_of_getElem? (i := 192) (by decide +kernel)))))) rfl, hp_in (List.mem_append_right _ (List.mem_append_left _ (List.mem_of_getElem? (i := 9) (by decide +kernel)))) rfl, hp_in (List.mem_append_right _ (List.mem_append_right _ (List.mem_append_right _ (List.mem_append_left _ (List.mem_of_getElem? (i := 193) rfl))))) rfl, by decide +kernel, by decide +kernel, by decide +kernel⟩
abbrev rm_X7_setShared : Room := { frames := 0, cells := 0, slots := 0, locals := 0 }
set_option maxRecDepth 100000 in
theorem F_X7_setOwn : hp_Fv RX7 yX7_setOwn cX7_setOwn 7 none 4 := ⟨hp_in (List.mem_append_right _ (List.mem_append_right _ (List.mem_append_right _ (List.mem_append_left _ (List.mem_of_getElem? (i := 195) (by decide +kernel)))))) rfl, hp_in (List.mem_append_right _ (List.mem_append_right _ (List.mem_append_right _ (List.mem_append_left _ (List.mem_of_getElem? (i := 196) (by decide +kernel)))))) rfl, hp_in (List.mem_append_right _ (List.mem_append_left _ (List.mem_of_getElem? (i := 9) (by decide +kernel)))) rfl, hp_in (List.mem_append_right _ (List.mem_append_right _ (List.mem_append_right _ (List.mem_append_left _ (List.mem_of_getElem? (i := 197) rfl))))) rfl, by decide +kernel, by decide +kernel, by decide +kernel⟩
abbrev rm_X7_setOwn : Room := { frames := 0, cells := 0, slots := 0, locals := 0 }
set_option maxRecDepth 100000 in
theorem F_X4_setFirst : hp_Fv RX4 yX4_setFirst cX4_setFirst 5 none 1 := ⟨hp_in (List.mem_append_right _ (List.mem_append_right _ (List.mem_append_right _ (List.mem_append_left _ (List.mem_of_getElem? (i := 176) (by decide +kernel)))))) rfl, hp_in (List.mem_append_right _ (List.mem_append_right _ (List.mem_append_right _ (List.mem_append_left _ (List.mem_of_getElem? (i := 177) (by decide +kernel)))))) rfl, hp_in (List.mem_append_right _ (List.mem_append_left _ (List.mem_of_getElem? (i := 2) (by decide +kernel)))) rfl, hp_in (List.mem_append_right _ (List.mem_append_right _ (List.mem_append_right _ (List.mem_append_left _ (List.mem_of_getElem? (i := 178) rfl))))) rfl, by decide +kernel, by decide +kernel, by decide +kernel⟩
abbrev rm_X4_setFirst : Room := { frames := 2, cells := 0, slots := 0, locals := 43 }
set_option maxRecDepth 100000 in
theorem F_X7_placeOf : hp_Fv RX7 yX7_placeOf cX7_placeOf 3 (some .int) 2 := ⟨hp_in (List.mem_append_right _ (List.mem_append_right _ (List.mem_append_right _ (List.mem_append_left _ (List.mem_of_getElem? (i := 232) (by decide +kernel)))))) rfl, hp_in (List.mem_append_right _ (List.mem_append_right _ (List.mem_append_right _ (List.mem_append_left _ (List.mem_of_getElem? (i := 233) (by decide +kernel)))))) rfl, hp_in (List.mem_append_right _ (List.mem_append_left _ (List.mem_of_getElem? (i := 9) (by decide +kernel)))) rfl, hp_in (List.mem_append_right _ (List.mem_append_right _ (List.mem_append_right _ (List.mem_append_left _ (List.mem_of_getElem? (i := 234) rfl))))) rfl, by decide +kernel, by decide +kernel, by decide +kernel⟩
abbrev rm_X7_placeOf : Room := { frames := 0, cells := 0, slots := 0, locals := 0 }
set_option maxRecDepth 100000 in
theorem F_X6_isEnd : hp_Fv RX6 yX6_isEnd cX6_isEnd 3 (some .boolean) 2 := ⟨hp_in (List.mem_append_right _ (List.mem_append_right _ (List.mem_append_right _ (List.mem_append_left _ (List.mem_of_getElem? (i := 50) (by decide +kernel)))))) rfl, hp_in (List.mem_append_right _ (List.mem_append_right _ (List.mem_append_right _ (List.mem_append_left _ (List.mem_of_getElem? (i := 51) (by decide +kernel)))))) rfl, hp_in (List.mem_append_right _ (List.mem_append_left _ (List.mem_of_getElem? (i := 4) (by decide +kernel)))) rfl, hp_in (List.mem_append_right _ (List.mem_append_right _ (List.mem_append_right _ (List.mem_append_left _ (List.mem_of_getElem? (i := 52) rfl))))) rfl, by decide +kernel, by decide +kernel, by decide +kernel⟩
abbrev rm_X6_isEnd : Room := { frames := 0, cells := 0, slots := 0, locals := 0 }
set_option maxRecDepth 100000 in
theorem F_X4_someAtNoEnd : hp_Fv RX4 yX4_someAtNoEnd cX4_someAtNoEnd 4 (some .boolean) 1 := ⟨hp_in (List.mem_append_right _ (List.mem_append_right _ (List.mem_append_right _ (List.mem_append_right _ (List.mem_append_left _ (List.mem_of_getElem? (i := 226) (by decide +kernel))))))) rfl, hp_in (List.mem_append_right _ (List.mem_append_right _ (List.mem_append_right _ (List.mem_append_right _ (List.mem_append_left _ (List.mem_of_getElem? (i := 227) (by decide +kernel))))))) rfl, hp_in (List.mem_append_right _ (List.mem_append_left _ (List.mem_of_getElem? (i := 2) (by decide +kernel)))) rfl, hp_in (List.mem_append_right _ (List.mem_append_right _ (List.mem_append_right _ (List.mem_append_right _ (List.mem_append_left _ (List.mem_of_getElem? (i := 228) rfl)))))) rfl, by decide +kernel, by decide +kernel, by decide +kernel⟩
abbrev rm_X4_someAtNoEnd : Room := { frames := 1, cells := 0, slots := 0, locals := 22 }
set_option maxRecDepth 100000 in
theorem F_X6_add : hp_Fv RX6 yX6_add cX6_add 2 (some .int) 1 := ⟨hp_in (List.mem_append_right _ (List.mem_append_right _ (List.mem_append_right _ (List.mem_append_left _ (List.mem_of_getElem? (i := 31) (by decide +kernel)))))) rfl, hp_in (List.mem_append_right _ (List.mem_append_right _ (List.mem_append_right _ (List.mem_append_left _ (List.mem_of_getElem? (i := 32) (by decide +kernel)))))) rfl, hp_in (List.mem_append_right _ (List.mem_append_left _ (List.mem_of_getElem? (i := 4) (by decide +kernel)))) rfl, hp_in (List.mem_append_right _ (List.mem_append_right _ (List.mem_append_right _ (List.mem_append_left _ (List.mem_of_getElem? (i := 33) rfl))))) rfl, by decide +kernel, by decide +kernel, by decide +kernel⟩
abbrev rm_X6_add : Room := { frames := 0, cells := 0, slots := 0, locals := 0 }
set_option maxRecDepth 100000 in
theorem F_X6_setEnd : hp_Fv RX6 yX6_setEnd cX6_setEnd 3 none 2 := ⟨hp_in (List.mem_append_right _ (List.mem_append_right _ (List.mem_append_right _ (List.mem_append_left _ (List.mem_of_getElem? (i := 57) (by decide +kernel)))))) rfl, hp_in (List.mem_append_right _ (List.mem_append_right _ (List.mem_append_right _ (List.mem_append_left _ (List.mem_of_getElem? (i := 58) (by decide +kernel)))))) rfl, hp_in (List.mem_append_right _ (List.mem_append_left _ (List.mem_of_getElem? (i := 4) (by decide +kernel)))) rfl, hp_in (List.mem_append_right _ (List.mem_append_right _ (List.mem_append_right _ (List.mem_append_left _ (List.mem_of_getElem? (i := 59) rfl))))) rfl, by decide +kernel, by decide +kernel, by decide +kernel⟩
abbrev rm_X6_setEnd : Room := { frames := 0, cells := 0, slots := 0, locals := 0 }
set_option maxRecDepth 100000 in
theorem F_X7_copy : hp_Fv RX7 yX7_copy cX7_copy 2 none 1 := ⟨hp_in (List.mem_append_right _ (List.mem_append_right _ (List.mem_append_right _ (List.mem_append_right _ (List.mem_append_left _ (List.mem_of_getElem? (i := 33) (by decide +kernel))))))) rfl, hp_in (List.mem_append_right _ (List.mem_append_right _ (List.mem_append_right _ (List.mem_append_right _ (List.mem_append_left _ (List.mem_of_getElem? (i := 34) (by decide +kernel))))))) rfl, hp_in (List.mem_append_right _ (List.mem_append_left _ (List.mem_of_getElem? (i := 9) (by decide +kernel)))) rfl, hp_in (List.mem_append_right _ (List.mem_append_right _ (List.mem_append_right _ (List.mem_append_right _ (List.mem_append_left _ (List.mem_of_getElem? (i := 35) rfl)))))) rfl, by decide +kernel, by decide +kernel, by decide +kernel⟩
abbrev rm_X7_copy : Room := { frames := 1, cells := 0, slots := 0, locals := 40 }
set_option maxRecDepth 100000 in
theorem F_X7_setPlace : hp_Fv RX7 yX7_setPlace cX7_setPlace 5 none 3 := ⟨hp_in (List.mem_append_right _ (List.mem_append_right _ (List.mem_append_right _ (List.mem_append_right _ (List.mem_append_left _ (List.mem_of_getElem? (i := 73) (by decide +kernel))))))) rfl, hp_in (List.mem_append_right _ (List.mem_append_right _ (List.mem_append_right _ (List.mem_append_right _ (List.mem_append_left _ (List.mem_of_getElem? (i := 74) (by decide +kernel))))))) rfl, hp_in (List.mem_append_right _ (List.mem_append_left _ (List.mem_of_getElem? (i := 9) (by decide +kernel)))) rfl, hp_in (List.mem_append_right _ (List.mem_append_right _ (List.mem_append_right _ (List.mem_append_right _ (List.mem_append_left _ (List.mem_of_getElem? (i := 75) rfl)))))) rfl, by decide +kernel, by decide +kernel, by decide +kernel⟩
abbrev rm_X7_setPlace : Room := { frames := 0, cells := 0, slots := 0, locals := 0 }
set_option maxRecDepth 100000 in
theorem F_X7_letterAt : hp_Fv RX7 yX7_letterAt cX7_letterAt 3 (some .int) 2 := ⟨hp_in (List.mem_append_right _ (List.mem_append_right _ (List.mem_append_right _ (List.mem_append_right _ (List.mem_append_left _ (List.mem_of_getElem? (i := 69) (by decide +kernel))))))) rfl, hp_in (List.mem_append_right _ (List.mem_append_right _ (List.mem_append_right _ (List.mem_append_right _ (List.mem_append_left _ (List.mem_of_getElem? (i := 70) (by decide +kernel))))))) rfl, hp_in (List.mem_append_right _ (List.mem_append_left _ (List.mem_of_getElem? (i := 9) (by decide +kernel)))) rfl, hp_in (List.mem_append_right _ (List.mem_append_right _ (List.mem_append_right _ (List.mem_append_right _ (List.mem_append_left _ (List.mem_of_getElem? (i := 71) rfl)))))) rfl, by decide +kernel, by decide +kernel, by decide +kernel⟩
abbrev rm_X7_letterAt : Room := { frames := 0, cells := 0, slots := 0, locals := 0 }
set_option maxRecDepth 100000 in
theorem F_X7_put : hp_Fv RX7 yX7_put cX7_put 5 none 2 := ⟨hp_in (List.mem_append_right _ (List.mem_append_right _ (List.mem_append_right _ (List.mem_append_right _ (List.mem_append_left _ (List.mem_of_getElem? (i := 61) (by decide +kernel))))))) rfl, hp_in (List.mem_append_right _ (List.mem_append_right _ (List.mem_append_right _ (List.mem_append_right _ (List.mem_append_left _ (List.mem_of_getElem? (i := 62) (by decide +kernel))))))) rfl, hp_in (List.mem_append_right _ (List.mem_append_left _ (List.mem_of_getElem? (i := 9) (by decide +kernel)))) rfl, hp_in (List.mem_append_right _ (List.mem_append_right _ (List.mem_append_right _ (List.mem_append_right _ (List.mem_append_left _ (List.mem_of_getElem? (i := 63) rfl)))))) rfl, by decide +kernel, by decide +kernel, by decide +kernel⟩
abbrev rm_X7_put : Room := { frames := 0, cells := 0, slots := 0, locals := 0 }
set_option maxRecDepth 100000 in
theorem F_X7_take : hp_Fv RX7 yX7_take cX7_take 7 none 2 := ⟨hp_in (List.mem_append_right _ (List.mem_append_right _ (List.mem_append_right _ (List.mem_append_right _ (List.mem_append_left _ (List.mem_of_getElem? (i := 65) (by decide +kernel))))))) rfl, hp_in (List.mem_append_right _ (List.mem_append_right _ (List.mem_append_right _ (List.mem_append_right _ (List.mem_append_left _ (List.mem_of_getElem? (i := 66) (by decide +kernel))))))) rfl, hp_in (List.mem_append_right _ (List.mem_append_left _ (List.mem_of_getElem? (i := 9) (by decide +kernel)))) rfl, hp_in (List.mem_append_right _ (List.mem_append_right _ (List.mem_append_right _ (List.mem_append_right _ (List.mem_append_left _ (List.mem_of_getElem? (i := 67) rfl)))))) rfl, by decide +kernel, by decide +kernel, by decide +kernel⟩
abbrev rm_X7_take : Room := { frames := 0, cells := 0, slots := 0, locals := 0 }
set_option maxRecDepth 100000 in
theorem F_X7_isFirstOfLike : hp_Fv RX7 yX7_isFirstOfLike cX7_isFirstOfLike 5 (some .boolean) 2 := ⟨hp_in (List.mem_append_right _ (List.mem_append_right _ (List.mem_append_right _ (List.mem_append_right _ (List.mem_append_left _ (List.mem_of_getElem? (i := 107) (by decide +kernel))))))) rfl, hp_in (List.mem_append_left _ (List.mem_of_getElem? (i := 15) (by decide +kernel))) rfl, hp_in (List.mem_append_right _ (List.mem_append_left _ (List.mem_of_getElem? (i := 9) (by decide +kernel)))) rfl, hp_in (List.mem_append_right _ (List.mem_append_right _ (List.mem_append_right _ (List.mem_append_right _ (List.mem_append_left _ (List.mem_of_getElem? (i := 108) rfl)))))) rfl, by decide +kernel, by decide +kernel, by decide +kernel⟩
abbrev rm_X7_isFirstOfLike : Room := { frames := 0, cells := 0, slots := 0, locals := 0 }
set_option maxRecDepth 100000 in
theorem F_X7_nextUnlike : hp_Fv RX7 yX7_nextUnlike cX7_nextUnlike 4 (some .int) 2 := ⟨hp_in (List.mem_append_right _ (List.mem_append_right _ (List.mem_append_right _ (List.mem_append_right _ (List.mem_append_left _ (List.mem_of_getElem? (i := 101) (by decide +kernel))))))) rfl, hp_in (List.mem_append_right _ (List.mem_append_right _ (List.mem_append_right _ (List.mem_append_right _ (List.mem_append_left _ (List.mem_of_getElem? (i := 102) (by decide +kernel))))))) rfl, hp_in (List.mem_append_right _ (List.mem_append_left _ (List.mem_of_getElem? (i := 9) (by decide +kernel)))) rfl, hp_in (List.mem_append_right _ (List.mem_append_right _ (List.mem_append_right _ (List.mem_append_right _ (List.mem_append_left _ (List.mem_of_getElem? (i := 103) rfl)))))) rfl, by decide +kernel, by decide +kernel, by decide +kernel⟩
abbrev rm_X7_nextUnlike : Room := { frames := 1, cells := 0, slots := 0, locals := 24 }
set_option maxRecDepth 100000 in
theorem F_X7_arrange : hp_Fv RX7 yX7_arrange cX7_arrange 7 none 2 := ⟨hp_in (List.mem_append_right _ (List.mem_append_right _ (List.mem_append_right _ (List.mem_append_right _ (List.mem_append_left _ (List.mem_of_getElem? (i := 82) (by decide +kernel))))))) rfl, hp_in (List.mem_append_right _ (List.mem_append_right _ (List.mem_append_right _ (List.mem_append_right _ (List.mem_append_left _ (List.mem_of_getElem? (i := 83) (by decide +kernel))))))) rfl, hp_in (List.mem_append_right _ (List.mem_append_left _ (List.mem_of_getElem? (i := 9) (by decide +kernel)))) rfl, hp_in (List.mem_append_right _ (List.mem_append_right _ (List.mem_append_right _ (List.mem_append_right _ (List.mem_append_left _ (List.mem_of_getElem? (i := 84) rfl)))))) rfl, by decide +kernel, by decide +kernel, by decide +kernel⟩
abbrev rm_X7_arrange : Room := { frames := 0, cells := 0, slots := 0, locals := 0 }
set_option maxRecDepth 100000 in
theorem F_X8_start : hp_Fv RX8 yX8_start cX8_start 1 none 0 := ⟨hp_in (List.mem_append_right _ (List.mem_append_right _ (List.mem_append_right _ (List.mem_append_left _ (List.mem_of_getElem? (i := 172) (by decide +kernel)))))) rfl, hp_in (List.mem_append_right _ (List.mem_append_right _ (List.mem_append_right _ (List.mem_append_left _ (List.mem_of_getElem? (i := 173) (by decide +kernel)))))) rfl, hp_in (List.mem_append_right _ (List.mem_append_left _ (List.mem_of_getElem? (i := 8) (by decide +kernel)))) rfl, hp_in (List.mem_append_right _ (List.mem_append_right _ (List.mem_append_right _ (List.mem_append_left _ (List.mem_of_getElem? (i := 174) rfl))))) rfl, by decide +kernel, by decide +kernel, by decide +kernel⟩
abbrev rm_X8_start : Room := { frames := 3, cells := 0, slots := 0, locals := 85 }
set_option maxRecDepth 100000 in
theorem F_X8_canDo : hp_Fv RX8 yX8_canDo cX8_canDo 6 (some .boolean) 1 := ⟨hp_in (List.mem_append_right _ (List.mem_append_right _ (List.mem_append_right _ (List.mem_append_right _ (List.mem_append_left _ (List.mem_of_getElem? (i := 24) (by decide +kernel))))))) rfl, hp_in (List.mem_append_left _ (List.mem_of_getElem? (i := 7) (by decide +kernel))) rfl, hp_in (List.mem_append_right _ (List.mem_append_left _ (List.mem_of_getElem? (i := 8) (by decide +kernel)))) rfl, hp_in (List.mem_append_right _ (List.mem_append_right _ (List.mem_append_right _ (List.mem_append_right _ (List.mem_append_left _ (List.mem_of_getElem? (i := 25) rfl)))))) rfl, by decide +kernel, by decide +kernel, by decide +kernel⟩
abbrev rm_X8_canDo : Room := { frames := 1, cells := 0, slots := 0, locals := 21 }
set_option maxRecDepth 100000 in
theorem F_X10_allows : hp_Fv RX10 yX10_allows cX10_allows 4 (some .boolean) 3 := ⟨hp_in (List.mem_append_right _ (List.mem_append_right _ (List.mem_append_right _ (List.mem_append_right _ (List.mem_append_left _ (List.mem_of_getElem? (i := 46) (by decide +kernel))))))) rfl, hp_in (List.mem_append_right _ (List.mem_append_right _ (List.mem_append_right _ (List.mem_append_right _ (List.mem_append_left _ (List.mem_of_getElem? (i := 47) (by decide +kernel))))))) rfl, hp_in (List.mem_append_right _ (List.mem_append_left _ (List.mem_of_getElem? (i := 3) (by decide +kernel)))) rfl, hp_in (List.mem_append_right _ (List.mem_append_right _ (List.mem_append_right _ (List.mem_append_right _ (List.mem_append_left _ (List.mem_of_getElem? (i := 48) rfl)))))) rfl, by decide +kernel, by decide +kernel, by decide +kernel⟩
abbrev rm_X10_allows : Room := { frames := 0, cells := 0, slots := 0, locals := 0 }
set_option maxRecDepth 100000 in
theorem F_X8_giveShared : hp_Fv RX8 yX8_giveShared cX8_giveShared 3 (some .boolean) 2 := ⟨hp_in (List.mem_append_right _ (List.mem_append_right _ (List.mem_append_right _ (List.mem_append_right _ (List.mem_append_left _ (List.mem_of_getElem? (i := 43) (by decide +kernel))))))) rfl, hp_in (List.mem_append_left _ (List.mem_of_getElem? (i := 10) (by decide +kernel))) rfl, hp_in (List.mem_append_right _ (List.mem_append_left _ (List.mem_of_getElem? (i := 8) (by decide +kernel)))) rfl, hp_in (List.mem_append_right _ (List.mem_append_right _ (List.mem_append_right _ (List.mem_append_right _ (List.mem_append_left _ (List.mem_of_getElem? (i := 44) rfl)))))) rfl, by decide +kernel, by decide +kernel, by decide +kernel⟩
abbrev rm_X8_giveShared : Room := { frames := 1, cells := 0, slots := 0, locals := 23 }
set_option maxRecDepth 100000 in
theorem F_X8_giveOwn : hp_Fv RX8 yX8_giveOwn cX8_giveOwn 5 (some .boolean) 4 := ⟨hp_in (List.mem_append_right _ (List.mem_append_right _ (List.mem_append_right _ (List.mem_append_right _ (List.mem_append_left _ (List.mem_of_getElem? (i := 52) (by decide +kernel))))))) rfl, hp_in (List.mem_append_left _ (List.mem_of_getElem? (i := 11) (by decide +kernel))) rfl, hp_in (List.mem_append_right _ (List.mem_append_left _ (List.mem_of_getElem? (i := 8) (by decide +kernel)))) rfl, hp_in (List.mem_append_right _ (List.mem_append_right _ (List.mem_append_right _ (List.mem_append_right _ (List.mem_append_left _ (List.mem_of_getElem? (i := 53) rfl)))))) rfl, by decide +kernel, by decide +kernel, by decide +kernel⟩
abbrev rm_X8_giveOwn : Room := { frames := 1, cells := 0, slots := 0, locals := 26 }
set_option maxRecDepth 100000 in
theorem F_X11_isDigit : hp_Fs yX11_isDigit cX11_isDigit 1 (some .boolean) 1 := ⟨hp_in (List.mem_append_right _ (List.mem_append_right _ (List.mem_append_right _ (List.mem_append_left _ (List.mem_of_getElem? (i := 47) (by decide +kernel)))))) rfl, hp_in (List.mem_append_right _ (List.mem_append_left _ (List.mem_of_getElem? (i := 1) (by decide +kernel)))) rfl, hp_in (List.mem_append_right _ (List.mem_append_right _ (List.mem_append_right _ (List.mem_append_left _ (List.mem_of_getElem? (i := 48) rfl))))) rfl, by decide +kernel, by decide +kernel, by decide +kernel⟩
abbrev rm_X11_isDigit : Room := { frames := 0, cells := 0, slots := 0, locals := 0 }
set_option maxRecDepth 100000 in
theorem F_X8_send : hp_Fv RX8 yX8_send cX8_send 3 (some .boolean) 2 := ⟨hp_in (List.mem_append_right _ (List.mem_append_right _ (List.mem_append_right _ (List.mem_append_right _ (List.mem_append_left _ (List.mem_of_getElem? (i := 57) (by decide +kernel))))))) rfl, hp_in (List.mem_append_left _ (List.mem_of_getElem? (i := 12) (by decide +kernel))) rfl, hp_in (List.mem_append_right _ (List.mem_append_left _ (List.mem_of_getElem? (i := 8) (by decide +kernel)))) rfl, hp_in (List.mem_append_right _ (List.mem_append_right _ (List.mem_append_right _ (List.mem_append_right _ (List.mem_append_left _ (List.mem_of_getElem? (i := 58) rfl)))))) rfl, by decide +kernel, by decide +kernel, by decide +kernel⟩
abbrev rm_X8_send : Room := { frames := 1, cells := 0, slots := 0, locals := 24 }
set_option maxRecDepth 100000 in
theorem F_X8_doActs : hp_Fv RX8 yX8_doActs cX8_doActs 9 (some .boolean) 3 := ⟨hp_in (List.mem_append_right _ (List.mem_append_right _ (List.mem_append_right _ (List.mem_append_right _ (List.mem_append_left _ (List.mem_of_getElem? (i := 39) (by decide +kernel))))))) rfl, hp_in (List.mem_append_left _ (List.mem_of_getElem? (i := 9) (by decide +kernel))) rfl, hp_in (List.mem_append_right _ (List.mem_append_left _ (List.mem_of_getElem? (i := 8) (by decide +kernel)))) rfl, hp_in (List.mem_append_right _ (List.mem_append_right _ (List.mem_append_right _ (List.mem_append_right _ (List.mem_append_left _ (List.mem_of_getElem? (i := 40) rfl)))))) rfl, by decide +kernel, by decide +kernel, by decide +kernel⟩
abbrev rm_X8_doActs : Room := { frames := 2, cells := 0, slots := 0, locals := 50 }
set_option maxRecDepth 100000 in
theorem F_X8_takeAlike : hp_Fv RX8 yX8_takeAlike cX8_takeAlike 2 none 1 := ⟨hp_in (List.mem_append_right _ (List.mem_append_right _ (List.mem_append_right _ (List.mem_append_right _ (List.mem_append_left _ (List.mem_of_getElem? (i := 79) (by decide +kernel))))))) rfl, hp_in (List.mem_append_left _ (List.mem_of_getElem? (i := 13) (by decide +kernel))) rfl, hp_in (List.mem_append_right _ (List.mem_append_left _ (List.mem_of_getElem? (i := 8) (by decide +kernel)))) rfl, hp_in (List.mem_append_right _ (List.mem_append_right _ (List.mem_append_right _ (List.mem_append_right _ (List.mem_append_left _ (List.mem_of_getElem? (i := 80) rfl)))))) rfl, by decide +kernel, by decide +kernel, by decide +kernel⟩
abbrev rm_X8_takeAlike : Room := { frames := 1, cells := 0, slots := 0, locals := 26 }
set_option maxRecDepth 100000 in
theorem F_X8_pickNext : hp_Fv RX8 yX8_pickNext cX8_pickNext 7 (some .boolean) 1 := ⟨hp_in (List.mem_append_right _ (List.mem_append_right _ (List.mem_append_right _ (List.mem_append_right _ (List.mem_append_left _ (List.mem_of_getElem? (i := 98) (by decide +kernel))))))) rfl, hp_in (List.mem_append_left _ (List.mem_of_getElem? (i := 14) (by decide +kernel))) rfl, hp_in (List.mem_append_right _ (List.mem_append_left _ (List.mem_of_getElem? (i := 8) (by decide +kernel)))) rfl, hp_in (List.mem_append_right _ (List.mem_append_right _ (List.mem_append_right _ (List.mem_append_right _ (List.mem_append_left _ (List.mem_of_getElem? (i := 99) rfl)))))) rfl, by decide +kernel, by decide +kernel, by decide +kernel⟩
abbrev rm_X8_pickNext : Room := { frames := 2, cells := 0, slots := 0, locals := 47 }
set_option maxRecDepth 100000 in
theorem F_X8_goWays : hp_Fv RX8 yX8_goWays cX8_goWays 8 none 3 := ⟨hp_in (List.mem_append_right _ (List.mem_append_right _ (List.mem_append_right _ (List.mem_append_right _ (List.mem_append_left _ (List.mem_of_getElem? (i := 29) (by decide +kernel))))))) rfl, hp_in (List.mem_append_left _ (List.mem_of_getElem? (i := 8) (by decide +kernel))) rfl, hp_in (List.mem_append_right _ (List.mem_append_left _ (List.mem_of_getElem? (i := 8) (by decide +kernel)))) rfl, hp_in (List.mem_append_right _ (List.mem_append_right _ (List.mem_append_right _ (List.mem_append_right _ (List.mem_append_left _ (List.mem_of_getElem? (i := 30) rfl)))))) rfl, by decide +kernel, by decide +kernel, by decide +kernel⟩
abbrev rm_X8_goWays : Room := { frames := 3, cells := 0, slots := 0, locals := 89 }
set_option maxRecDepth 100000 in
theorem F_X8_goMember : hp_Fv RX8 yX8_goMember cX8_goMember 8 none 3 := ⟨hp_in (List.mem_append_right _ (List.mem_append_right _ (List.mem_append_right _ (List.mem_append_left _ (List.mem_of_getElem? (i := 229) (by decide +kernel)))))) rfl, hp_in (List.mem_append_left _ (List.mem_of_getElem? (i := 5) (by decide +kernel))) rfl, hp_in (List.mem_append_right _ (List.mem_append_left _ (List.mem_of_getElem? (i := 8) (by decide +kernel)))) rfl, hp_in (List.mem_append_right _ (List.mem_append_right _ (List.mem_append_right _ (List.mem_append_left _ (List.mem_of_getElem? (i := 230) rfl))))) rfl, by decide +kernel, by decide +kernel, by decide +kernel⟩
abbrev rm_X8_goMember : Room := { frames := 4, cells := 0, slots := 0, locals := 116 }
set_option maxRecDepth 100000 in
theorem F_X8_lose : hp_Fv RX8 yX8_lose cX8_lose 5 none 2 := ⟨hp_in (List.mem_append_right _ (List.mem_append_right _ (List.mem_append_right _ (List.mem_append_right _ (List.mem_append_left _ (List.mem_of_getElem? (i := 111) (by decide +kernel))))))) rfl, hp_in (List.mem_append_left _ (List.mem_of_getElem? (i := 16) (by decide +kernel))) rfl, hp_in (List.mem_append_right _ (List.mem_append_left _ (List.mem_of_getElem? (i := 8) (by decide +kernel)))) rfl, hp_in (List.mem_append_right _ (List.mem_append_right _ (List.mem_append_right _ (List.mem_append_right _ (List.mem_append_left _ (List.mem_of_getElem? (i := 112) rfl)))))) rfl, by decide +kernel, by decide +kernel, by decide +kernel⟩
abbrev rm_X8_lose : Room := { frames := 3, cells := 0, slots := 0, locals := 89 }
set_option maxRecDepth 100000 in
theorem F_X8_goThrough : hp_Fv RX8 yX8_goThrough cX8_goThrough 4 none 1 := ⟨hp_in (List.mem_append_right _ (List.mem_append_right _ (List.mem_append_right _ (List.mem_append_left _ (List.mem_of_getElem? (i := 220) (by decide +kernel)))))) rfl, hp_in (List.mem_append_right _ (List.mem_append_right _ (List.mem_append_right _ (List.mem_append_left _ (List.mem_of_getElem? (i := 221) (by decide +kernel)))))) rfl, hp_in (List.mem_append_right _ (List.mem_append_left _ (List.mem_of_getElem? (i := 8) (by decide +kernel)))) rfl, hp_in (List.mem_append_right _ (List.mem_append_right _ (List.mem_append_right _ (List.mem_append_left _ (List.mem_of_getElem? (i := 222) rfl))))) rfl, by decide +kernel, by decide +kernel, by decide +kernel⟩
abbrev rm_X8_goThrough : Room := { frames := 5, cells := 0, slots := 0, locals := 143 }
set_option maxRecDepth 100000 in
theorem F_X9_has : hp_Fv RX9 yX9_has cX9_has 2 (some .boolean) 1 := ⟨hp_in (List.mem_append_right _ (List.mem_append_right _ (List.mem_append_right _ (List.mem_append_left _ (List.mem_of_getElem? (i := 120) (by decide +kernel)))))) rfl, hp_in (List.mem_append_right _ (List.mem_append_right _ (List.mem_append_right _ (List.mem_append_left _ (List.mem_of_getElem? (i := 121) (by decide +kernel)))))) rfl, hp_in (List.mem_append_right _ (List.mem_append_left _ (List.mem_of_getElem? (i := 6) (by decide +kernel)))) rfl, hp_in (List.mem_append_right _ (List.mem_append_right _ (List.mem_append_right _ (List.mem_append_left _ (List.mem_of_getElem? (i := 122) rfl))))) rfl, by decide +kernel, by decide +kernel, by decide +kernel⟩
abbrev rm_X9_has : Room := { frames := 0, cells := 0, slots := 0, locals := 0 }
set_option maxRecDepth 100000 in
theorem F_X9_add : hp_Fv RX9 yX9_add cX9_add 5 (some .int) 4 := ⟨hp_in (List.mem_append_right _ (List.mem_append_right _ (List.mem_append_right _ (List.mem_append_left _ (List.mem_of_getElem? (i := 112) (by decide +kernel)))))) rfl, hp_in (List.mem_append_right _ (List.mem_append_right _ (List.mem_append_right _ (List.mem_append_left _ (List.mem_of_getElem? (i := 113) (by decide +kernel)))))) rfl, hp_in (List.mem_append_right _ (List.mem_append_left _ (List.mem_of_getElem? (i := 6) (by decide +kernel)))) rfl, hp_in (List.mem_append_right _ (List.mem_append_right _ (List.mem_append_right _ (List.mem_append_left _ (List.mem_of_getElem? (i := 114) rfl))))) rfl, by decide +kernel, by decide +kernel, by decide +kernel⟩
abbrev rm_X9_add : Room := { frames := 0, cells := 0, slots := 0, locals := 0 }
set_option maxRecDepth 100000 in
theorem F_X9_hasLetterAct : hp_Fv RX9 yX9_hasLetterAct cX9_hasLetterAct 5 (some .boolean) 3 := ⟨hp_in (List.mem_append_right _ (List.mem_append_right _ (List.mem_append_right _ (List.mem_append_left _ (List.mem_of_getElem? (i := 128) (by decide +kernel)))))) rfl, hp_in (List.mem_append_right _ (List.mem_append_right _ (List.mem_append_right _ (List.mem_append_left _ (List.mem_of_getElem? (i := 129) (by decide +kernel)))))) rfl, hp_in (List.mem_append_right _ (List.mem_append_left _ (List.mem_of_getElem? (i := 6) (by decide +kernel)))) rfl, hp_in (List.mem_append_right _ (List.mem_append_right _ (List.mem_append_right _ (List.mem_append_left _ (List.mem_of_getElem? (i := 130) rfl))))) rfl, by decide +kernel, by decide +kernel, by decide +kernel⟩
abbrev rm_X9_hasLetterAct : Room := { frames := 0, cells := 0, slots := 0, locals := 0 }
set_option maxRecDepth 100000 in
theorem F_X9_addAct : hp_Fv RX9 yX9_addAct cX9_addAct 6 (some .int) 4 := ⟨hp_in (List.mem_append_right _ (List.mem_append_right _ (List.mem_append_right _ (List.mem_append_left _ (List.mem_of_getElem? (i := 132) (by decide +kernel)))))) rfl, hp_in (List.mem_append_right _ (List.mem_append_right _ (List.mem_append_right _ (List.mem_append_left _ (List.mem_of_getElem? (i := 133) (by decide +kernel)))))) rfl, hp_in (List.mem_append_right _ (List.mem_append_left _ (List.mem_of_getElem? (i := 6) (by decide +kernel)))) rfl, hp_in (List.mem_append_right _ (List.mem_append_right _ (List.mem_append_right _ (List.mem_append_left _ (List.mem_of_getElem? (i := 134) rfl))))) rfl, by decide +kernel, by decide +kernel, by decide +kernel⟩
abbrev rm_X9_addAct : Room := { frames := 0, cells := 0, slots := 0, locals := 0 }
set_option maxRecDepth 100000 in
theorem F_X10_fits : hp_Fs yX10_fits cX10_fits 3 (some .boolean) 3 := ⟨hp_in (List.mem_append_right _ (List.mem_append_right _ (List.mem_append_right _ (List.mem_append_left _ (List.mem_of_getElem? (i := 4) (by decide +kernel)))))) rfl, hp_in (List.mem_append_right _ (List.mem_append_left _ (List.mem_of_getElem? (i := 3) (by decide +kernel)))) rfl, hp_in (List.mem_append_right _ (List.mem_append_right _ (List.mem_append_right _ (List.mem_append_left _ (List.mem_of_getElem? (i := 5) rfl))))) rfl, by decide +kernel, by decide +kernel, by decide +kernel⟩
abbrev rm_X10_fits : Room := { frames := 0, cells := 0, slots := 0, locals := 0 }
set_option maxRecDepth 100000 in
theorem F_X10_isFull : hp_Fv RX10 yX10_isFull cX10_isFull 2 (some .boolean) 1 := ⟨hp_in (List.mem_append_right _ (List.mem_append_right _ (List.mem_append_right _ (List.mem_append_left _ (List.mem_of_getElem? (i := 7) (by decide +kernel)))))) rfl, hp_in (List.mem_append_right _ (List.mem_append_right _ (List.mem_append_right _ (List.mem_append_left _ (List.mem_of_getElem? (i := 8) (by decide +kernel)))))) rfl, hp_in (List.mem_append_right _ (List.mem_append_left _ (List.mem_of_getElem? (i := 3) (by decide +kernel)))) rfl, hp_in (List.mem_append_right _ (List.mem_append_right _ (List.mem_append_right _ (List.mem_append_left _ (List.mem_of_getElem? (i := 9) rfl))))) rfl, by decide +kernel, by decide +kernel, by decide +kernel⟩
abbrev rm_X10_isFull : Room := { frames := 0, cells := 0, slots := 0, locals := 0 }
set_option maxRecDepth 100000 in
theorem F_X10_add : hp_Fv RX10 yX10_add cX10_add 6 (some .int) 4 := ⟨hp_in (List.mem_append_right _ (List.mem_append_right _ (List.mem_append_right _ (List.mem_append_left _ (List.mem_of_getElem? (i := 23) (by decide +kernel)))))) rfl, hp_in (List.mem_append_right _ (List.mem_append_right _ (List.mem_append_right _ (List.mem_append_left _ (List.mem_of_getElem? (i := 24) (by decide +kernel)))))) rfl, hp_in (List.mem_append_right _ (List.mem_append_left _ (List.mem_of_getElem? (i := 3) (by decide +kernel)))) rfl, hp_in (List.mem_append_right _ (List.mem_append_right _ (List.mem_append_right _ (List.mem_append_left _ (List.mem_of_getElem? (i := 25) rfl))))) rfl, by decide +kernel, by decide +kernel, by decide +kernel⟩
abbrev rm_X10_add : Room := { frames := 0, cells := 0, slots := 0, locals := 0 }
set_option maxRecDepth 100000 in
theorem F_X11_endSearch : hp_Fv RX11 yX11_endSearch cX11_endSearch 1 none 0 := ⟨hp_in (List.mem_append_right _ (List.mem_append_right _ (List.mem_append_right _ (List.mem_append_left _ (List.mem_of_getElem? (i := 12) (by decide +kernel)))))) rfl, hp_in (List.mem_append_left _ (List.mem_of_getElem? (i := 0) (by decide +kernel))) rfl, hp_in (List.mem_append_right _ (List.mem_append_left _ (List.mem_of_getElem? (i := 1) (by decide +kernel)))) rfl, hp_in (List.mem_append_right _ (List.mem_append_right _ (List.mem_append_right _ (List.mem_append_left _ (List.mem_of_getElem? (i := 13) rfl))))) rfl, by decide +kernel, by decide +kernel, by decide +kernel⟩
abbrev rm_X11_endSearch : Room := { frames := 1, cells := 0, slots := 0, locals := 20 }
set_option maxRecDepth 100000 in
theorem F_X11_shared : hp_Fv RX11 yX11_shared cX11_shared 4 (some .int) 3 := ⟨hp_in (List.mem_append_right _ (List.mem_append_right _ (List.mem_append_right _ (List.mem_append_left _ (List.mem_of_getElem? (i := 0) (by decide +kernel)))))) rfl, hp_in (List.mem_append_right _ (List.mem_append_right _ (List.mem_append_right _ (List.mem_append_left _ (List.mem_of_getElem? (i := 1) (by decide +kernel)))))) rfl, hp_in (List.mem_append_right _ (List.mem_append_left _ (List.mem_of_getElem? (i := 1) (by decide +kernel)))) rfl, hp_in (List.mem_append_right _ (List.mem_append_right _ (List.mem_append_right _ (List.mem_append_left _ (List.mem_of_getElem? (i := 2) rfl))))) rfl, by decide +kernel, by decide +kernel, by decide +kernel⟩
abbrev rm_X11_shared : Room := { frames := 2, cells := 0, slots := 0, locals := 40 }
set_option maxRecDepth 100000 in
theorem F_X11_role : hp_Fv RX11 yX11_role cX11_role 2 (some .int) 1 := ⟨hp_in (List.mem_append_right _ (List.mem_append_right _ (List.mem_append_right _ (List.mem_append_left _ (List.mem_of_getElem? (i := 27) (by decide +kernel)))))) rfl, hp_in (List.mem_append_right _ (List.mem_append_right _ (List.mem_append_right _ (List.mem_append_left _ (List.mem_of_getElem? (i := 28) (by decide +kernel)))))) rfl, hp_in (List.mem_append_right _ (List.mem_append_left _ (List.mem_of_getElem? (i := 1) (by decide +kernel)))) rfl, hp_in (List.mem_append_right _ (List.mem_append_right _ (List.mem_append_right _ (List.mem_append_left _ (List.mem_of_getElem? (i := 29) rfl))))) rfl, by decide +kernel, by decide +kernel, by decide +kernel⟩
abbrev rm_X11_role : Room := { frames := 2, cells := 0, slots := 0, locals := 40 }
set_option maxRecDepth 100000 in
theorem F_X11_own : hp_Fv RX11 yX11_own cX11_own 5 (some .int) 4 := ⟨hp_in (List.mem_append_right _ (List.mem_append_right _ (List.mem_append_right _ (List.mem_append_left _ (List.mem_of_getElem? (i := 35) (by decide +kernel)))))) rfl, hp_in (List.mem_append_right _ (List.mem_append_right _ (List.mem_append_right _ (List.mem_append_left _ (List.mem_of_getElem? (i := 36) (by decide +kernel)))))) rfl, hp_in (List.mem_append_right _ (List.mem_append_left _ (List.mem_of_getElem? (i := 1) (by decide +kernel)))) rfl, hp_in (List.mem_append_right _ (List.mem_append_right _ (List.mem_append_right _ (List.mem_append_left _ (List.mem_of_getElem? (i := 37) rfl))))) rfl, by decide +kernel, by decide +kernel, by decide +kernel⟩
abbrev rm_X11_own : Room := { frames := 2, cells := 0, slots := 0, locals := 40 }
set_option maxRecDepth 100000 in
theorem F_X11_asNumber : hp_Fs yX11_asNumber cX11_asNumber 1 (some .int) 1 := ⟨hp_in (List.mem_append_right _ (List.mem_append_right _ (List.mem_append_right _ (List.mem_append_left _ (List.mem_of_getElem? (i := 54) (by decide +kernel)))))) rfl, hp_in (List.mem_append_right _ (List.mem_append_left _ (List.mem_of_getElem? (i := 1) (by decide +kernel)))) rfl, hp_in (List.mem_append_right _ (List.mem_append_right _ (List.mem_append_right _ (List.mem_append_left _ (List.mem_of_getElem? (i := 55) rfl))))) rfl, by decide +kernel, by decide +kernel, by decide +kernel⟩
abbrev rm_X11_asNumber : Room := { frames := 0, cells := 0, slots := 0, locals := 0 }
set_option maxRecDepth 100000 in
theorem F_X11_end : hp_Fv RX11 yX11_end cX11_end 4 (some .int) 2 := ⟨hp_in (List.mem_append_right _ (List.mem_append_right _ (List.mem_append_right _ (List.mem_append_left _ (List.mem_of_getElem? (i := 43) (by decide +kernel)))))) rfl, hp_in (List.mem_append_right _ (List.mem_append_right _ (List.mem_append_right _ (List.mem_append_left _ (List.mem_of_getElem? (i := 44) (by decide +kernel)))))) rfl, hp_in (List.mem_append_right _ (List.mem_append_left _ (List.mem_of_getElem? (i := 1) (by decide +kernel)))) rfl, hp_in (List.mem_append_right _ (List.mem_append_right _ (List.mem_append_right _ (List.mem_append_left _ (List.mem_of_getElem? (i := 45) rfl))))) rfl, by decide +kernel, by decide +kernel, by decide +kernel⟩
abbrev rm_X11_end : Room := { frames := 2, cells := 0, slots := 0, locals := 40 }
set_option maxRecDepth 100000 in
theorem F_X11_channel : hp_Fv RX11 yX11_channel cX11_channel 4 (some .int) 3 := ⟨hp_in (List.mem_append_right _ (List.mem_append_right _ (List.mem_append_right _ (List.mem_append_left _ (List.mem_of_getElem? (i := 61) (by decide +kernel)))))) rfl, hp_in (List.mem_append_right _ (List.mem_append_right _ (List.mem_append_right _ (List.mem_append_left _ (List.mem_of_getElem? (i := 62) (by decide +kernel)))))) rfl, hp_in (List.mem_append_right _ (List.mem_append_left _ (List.mem_of_getElem? (i := 1) (by decide +kernel)))) rfl, hp_in (List.mem_append_right _ (List.mem_append_right _ (List.mem_append_right _ (List.mem_append_left _ (List.mem_of_getElem? (i := 63) rfl))))) rfl, by decide +kernel, by decide +kernel, by decide +kernel⟩
abbrev rm_X11_channel : Room := { frames := 2, cells := 0, slots := 0, locals := 40 }
set_option maxRecDepth 100000 in
theorem F_X11_expr : hp_Fv RX11 yX11_expr cX11_expr 5 (some .int) 4 := ⟨hp_in (List.mem_append_right _ (List.mem_append_right _ (List.mem_append_right _ (List.mem_append_left _ (List.mem_of_getElem? (i := 69) (by decide +kernel)))))) rfl, hp_in (List.mem_append_right _ (List.mem_append_right _ (List.mem_append_right _ (List.mem_append_left _ (List.mem_of_getElem? (i := 70) (by decide +kernel)))))) rfl, hp_in (List.mem_append_right _ (List.mem_append_left _ (List.mem_of_getElem? (i := 1) (by decide +kernel)))) rfl, hp_in (List.mem_append_right _ (List.mem_append_right _ (List.mem_append_right _ (List.mem_append_left _ (List.mem_of_getElem? (i := 71) rfl))))) rfl, by decide +kernel, by decide +kernel, by decide +kernel⟩
abbrev rm_X11_expr : Room := { frames := 3, cells := 0, slots := 0, locals := 67 }
set_option maxRecDepth 100000 in
theorem F_X11_step : hp_Fv RX11 yX11_step cX11_step 5 (some .int) 4 := ⟨hp_in (List.mem_append_right _ (List.mem_append_right _ (List.mem_append_right _ (List.mem_append_left _ (List.mem_of_getElem? (i := 107) (by decide +kernel)))))) rfl, hp_in (List.mem_append_right _ (List.mem_append_right _ (List.mem_append_right _ (List.mem_append_left _ (List.mem_of_getElem? (i := 108) (by decide +kernel)))))) rfl, hp_in (List.mem_append_right _ (List.mem_append_left _ (List.mem_of_getElem? (i := 1) (by decide +kernel)))) rfl, hp_in (List.mem_append_right _ (List.mem_append_right _ (List.mem_append_right _ (List.mem_append_left _ (List.mem_of_getElem? (i := 109) rfl))))) rfl, by decide +kernel, by decide +kernel, by decide +kernel⟩
abbrev rm_X11_step : Room := { frames := 2, cells := 0, slots := 0, locals := 40 }
set_option maxRecDepth 100000 in
theorem F_X11_act : hp_Fv RX11 yX11_act cX11_act 5 (some .int) 4 := ⟨hp_in (List.mem_append_right _ (List.mem_append_right _ (List.mem_append_right _ (List.mem_append_left _ (List.mem_of_getElem? (i := 116) (by decide +kernel)))))) rfl, hp_in (List.mem_append_right _ (List.mem_append_right _ (List.mem_append_right _ (List.mem_append_left _ (List.mem_of_getElem? (i := 117) (by decide +kernel)))))) rfl, hp_in (List.mem_append_right _ (List.mem_append_left _ (List.mem_of_getElem? (i := 1) (by decide +kernel)))) rfl, hp_in (List.mem_append_right _ (List.mem_append_right _ (List.mem_append_right _ (List.mem_append_left _ (List.mem_of_getElem? (i := 118) rfl))))) rfl, by decide +kernel, by decide +kernel, by decide +kernel⟩
abbrev rm_X11_act : Room := { frames := 2, cells := 0, slots := 0, locals := 47 }
set_option maxRecDepth 100000 in
theorem F_X11_alike : hp_Fv RX11 yX11_alike cX11_alike 3 (some .int) 1 := ⟨hp_in (List.mem_append_right _ (List.mem_append_right _ (List.mem_append_right _ (List.mem_append_left _ (List.mem_of_getElem? (i := 136) (by decide +kernel)))))) rfl, hp_in (List.mem_append_right _ (List.mem_append_right _ (List.mem_append_right _ (List.mem_append_left _ (List.mem_of_getElem? (i := 137) (by decide +kernel)))))) rfl, hp_in (List.mem_append_right _ (List.mem_append_left _ (List.mem_of_getElem? (i := 1) (by decide +kernel)))) rfl, hp_in (List.mem_append_right _ (List.mem_append_right _ (List.mem_append_right _ (List.mem_append_left _ (List.mem_of_getElem? (i := 138) rfl))))) rfl, by decide +kernel, by decide +kernel, by decide +kernel⟩
abbrev rm_X11_alike : Room := { frames := 2, cells := 0, slots := 0, locals := 40 }
set_option maxRecDepth 100000 in
theorem F_X11_search : hp_Fv RX11 yX11_search cX11_search 2 (some .int) 0 := ⟨hp_in (List.mem_append_right _ (List.mem_append_right _ (List.mem_append_right _ (List.mem_append_left _ (List.mem_of_getElem? (i := 140) (by decide +kernel)))))) rfl, hp_in (List.mem_append_right _ (List.mem_append_right _ (List.mem_append_right _ (List.mem_append_left _ (List.mem_of_getElem? (i := 141) (by decide +kernel)))))) rfl, hp_in (List.mem_append_right _ (List.mem_append_left _ (List.mem_of_getElem? (i := 1) (by decide +kernel)))) rfl, hp_in (List.mem_append_right _ (List.mem_append_right _ (List.mem_append_right _ (List.mem_append_left _ (List.mem_of_getElem? (i := 142) rfl))))) rfl, by decide +kernel, by decide +kernel, by decide +kernel⟩
abbrev rm_X11_search : Room := { frames := 6, cells := 0, slots := 0, locals := 166 }
set_option maxRecDepth 100000 in
theorem F_X11_tells : hp_Fv RX11 yX11_tells cX11_tells 3 (some .int) 2 := ⟨hp_in (List.mem_append_right _ (List.mem_append_right _ (List.mem_append_right _ (List.mem_append_right _ (List.mem_append_left _ (List.mem_of_getElem? (i := 114) (by decide +kernel))))))) rfl, hp_in (List.mem_append_right _ (List.mem_append_right _ (List.mem_append_right _ (List.mem_append_right _ (List.mem_append_left _ (List.mem_of_getElem? (i := 115) (by decide +kernel))))))) rfl, hp_in (List.mem_append_right _ (List.mem_append_left _ (List.mem_of_getElem? (i := 1) (by decide +kernel)))) rfl, hp_in (List.mem_append_right _ (List.mem_append_right _ (List.mem_append_right _ (List.mem_append_right _ (List.mem_append_left _ (List.mem_of_getElem? (i := 116) rfl)))))) rfl, by decide +kernel, by decide +kernel, by decide +kernel⟩
abbrev rm_X11_tells : Room := { frames := 4, cells := 0, slots := 0, locals := 104 }
set_option maxRecDepth 100000 in
theorem F_X11_place : hp_Fv RX11 yX11_place cX11_place 4 (some .int) 3 := ⟨hp_in (List.mem_append_right _ (List.mem_append_right _ (List.mem_append_right _ (List.mem_append_right _ (List.mem_append_left _ (List.mem_of_getElem? (i := 160) (by decide +kernel))))))) rfl, hp_in (List.mem_append_right _ (List.mem_append_right _ (List.mem_append_right _ (List.mem_append_right _ (List.mem_append_left _ (List.mem_of_getElem? (i := 161) (by decide +kernel))))))) rfl, hp_in (List.mem_append_right _ (List.mem_append_left _ (List.mem_of_getElem? (i := 1) (by decide +kernel)))) rfl, hp_in (List.mem_append_right _ (List.mem_append_right _ (List.mem_append_right _ (List.mem_append_right _ (List.mem_append_left _ (List.mem_of_getElem? (i := 162) rfl)))))) rfl, by decide +kernel, by decide +kernel, by decide +kernel⟩
abbrev rm_X11_place : Room := { frames := 3, cells := 0, slots := 0, locals := 83 }
set_option maxRecDepth 100000 in
theorem F_X11_owned : hp_Fv RX11 yX11_owned cX11_owned 5 (some .int) 4 := ⟨hp_in (List.mem_append_right _ (List.mem_append_right _ (List.mem_append_right _ (List.mem_append_right _ (List.mem_append_left _ (List.mem_of_getElem? (i := 168) (by decide +kernel))))))) rfl, hp_in (List.mem_append_right _ (List.mem_append_right _ (List.mem_append_right _ (List.mem_append_right _ (List.mem_append_left _ (List.mem_of_getElem? (i := 169) (by decide +kernel))))))) rfl, hp_in (List.mem_append_right _ (List.mem_append_left _ (List.mem_of_getElem? (i := 1) (by decide +kernel)))) rfl, hp_in (List.mem_append_right _ (List.mem_append_right _ (List.mem_append_right _ (List.mem_append_right _ (List.mem_append_left _ (List.mem_of_getElem? (i := 170) rfl)))))) rfl, by decide +kernel, by decide +kernel, by decide +kernel⟩
abbrev rm_X11_owned : Room := { frames := 3, cells := 0, slots := 0, locals := 83 }
set_option maxRecDepth 100000 in
theorem F_X11_letter : hp_Fv RX11 yX11_letter cX11_letter 5 (some .int) 3 := ⟨hp_in (List.mem_append_right _ (List.mem_append_right _ (List.mem_append_right _ (List.mem_append_right _ (List.mem_append_left _ (List.mem_of_getElem? (i := 174) (by decide +kernel))))))) rfl, hp_in (List.mem_append_right _ (List.mem_append_right _ (List.mem_append_right _ (List.mem_append_right _ (List.mem_append_left _ (List.mem_of_getElem? (i := 175) (by decide +kernel))))))) rfl, hp_in (List.mem_append_right _ (List.mem_append_left _ (List.mem_of_getElem? (i := 1) (by decide +kernel)))) rfl, hp_in (List.mem_append_right _ (List.mem_append_right _ (List.mem_append_right _ (List.mem_append_right _ (List.mem_append_left _ (List.mem_of_getElem? (i := 176) rfl)))))) rfl, by decide +kernel, by decide +kernel, by decide +kernel⟩
abbrev rm_X11_letter : Room := { frames := 3, cells := 0, slots := 0, locals := 83 }
set_option maxRecDepth 100000 in
theorem F_X11_moves : hp_Fv RX11 yX11_moves cX11_moves 2 (some .int) 1 := ⟨hp_in (List.mem_append_right _ (List.mem_append_right _ (List.mem_append_right _ (List.mem_append_right _ (List.mem_append_left _ (List.mem_of_getElem? (i := 181) (by decide +kernel))))))) rfl, hp_in (List.mem_append_right _ (List.mem_append_right _ (List.mem_append_right _ (List.mem_append_right _ (List.mem_append_left _ (List.mem_of_getElem? (i := 182) (by decide +kernel))))))) rfl, hp_in (List.mem_append_right _ (List.mem_append_left _ (List.mem_of_getElem? (i := 1) (by decide +kernel)))) rfl, hp_in (List.mem_append_right _ (List.mem_append_right _ (List.mem_append_right _ (List.mem_append_right _ (List.mem_append_left _ (List.mem_of_getElem? (i := 183) rfl)))))) rfl, by decide +kernel, by decide +kernel, by decide +kernel⟩
abbrev rm_X11_moves : Room := { frames := 2, cells := 0, slots := 0, locals := 41 }
set_option maxRecDepth 100000 in
theorem F_X11_move : hp_Fv RX11 yX11_move cX11_move 5 (some .int) 3 := ⟨hp_in (List.mem_append_right _ (List.mem_append_right _ (List.mem_append_right _ (List.mem_append_right _ (List.mem_append_left _ (List.mem_of_getElem? (i := 189) (by decide +kernel))))))) rfl, hp_in (List.mem_append_right _ (List.mem_append_right _ (List.mem_append_right _ (List.mem_append_right _ (List.mem_append_left _ (List.mem_of_getElem? (i := 190) (by decide +kernel))))))) rfl, hp_in (List.mem_append_right _ (List.mem_append_left _ (List.mem_of_getElem? (i := 1) (by decide +kernel)))) rfl, hp_in (List.mem_append_right _ (List.mem_append_right _ (List.mem_append_right _ (List.mem_append_right _ (List.mem_append_left _ (List.mem_of_getElem? (i := 191) rfl)))))) rfl, by decide +kernel, by decide +kernel, by decide +kernel⟩
abbrev rm_X11_move : Room := { frames := 2, cells := 0, slots := 0, locals := 41 }
set_option maxRecDepth 100000 in
theorem F_X11_depth : hp_Fv RX11 yX11_depth cX11_depth 2 (some .int) 1 := ⟨hp_in (List.mem_append_right _ (List.mem_append_right _ (List.mem_append_right _ (List.mem_append_right _ (List.mem_append_left _ (List.mem_of_getElem? (i := 205) (by decide +kernel))))))) rfl, hp_in (List.mem_append_right _ (List.mem_append_right _ (List.mem_append_right _ (List.mem_append_right _ (List.mem_append_left _ (List.mem_of_getElem? (i := 206) (by decide +kernel))))))) rfl, hp_in (List.mem_append_right _ (List.mem_append_left _ (List.mem_of_getElem? (i := 1) (by decide +kernel)))) rfl, hp_in (List.mem_append_right _ (List.mem_append_right _ (List.mem_append_right _ (List.mem_append_right _ (List.mem_append_left _ (List.mem_of_getElem? (i := 207) rfl)))))) rfl, by decide +kernel, by decide +kernel, by decide +kernel⟩
abbrev rm_X11_depth : Room := { frames := 2, cells := 0, slots := 0, locals := 41 }
set_option maxRecDepth 100000 in
theorem F_X11_came : hp_Fv RX11 yX11_came cX11_came 3 (some .int) 2 := ⟨hp_in (List.mem_append_right _ (List.mem_append_right _ (List.mem_append_right _ (List.mem_append_right _ (List.mem_append_left _ (List.mem_of_getElem? (i := 209) (by decide +kernel))))))) rfl, hp_in (List.mem_append_right _ (List.mem_append_right _ (List.mem_append_right _ (List.mem_append_right _ (List.mem_append_left _ (List.mem_of_getElem? (i := 210) (by decide +kernel))))))) rfl, hp_in (List.mem_append_right _ (List.mem_append_left _ (List.mem_of_getElem? (i := 1) (by decide +kernel)))) rfl, hp_in (List.mem_append_right _ (List.mem_append_right _ (List.mem_append_right _ (List.mem_append_right _ (List.mem_append_left _ (List.mem_of_getElem? (i := 211) rfl)))))) rfl, by decide +kernel, by decide +kernel, by decide +kernel⟩
abbrev rm_X11_came : Room := { frames := 2, cells := 0, slots := 0, locals := 41 }
set_option maxRecDepth 100000 in
theorem F_X11_stuck : hp_Fv RX11 yX11_stuck cX11_stuck 2 (some .int) 0 := ⟨hp_in (List.mem_append_right _ (List.mem_append_right _ (List.mem_append_right _ (List.mem_append_right _ (List.mem_append_left _ (List.mem_of_getElem? (i := 213) (by decide +kernel))))))) rfl, hp_in (List.mem_append_right _ (List.mem_append_right _ (List.mem_append_right _ (List.mem_append_right _ (List.mem_append_left _ (List.mem_of_getElem? (i := 214) (by decide +kernel))))))) rfl, hp_in (List.mem_append_right _ (List.mem_append_left _ (List.mem_of_getElem? (i := 1) (by decide +kernel)))) rfl, hp_in (List.mem_append_right _ (List.mem_append_right _ (List.mem_append_right _ (List.mem_append_right _ (List.mem_append_left _ (List.mem_of_getElem? (i := 215) rfl)))))) rfl, by decide +kernel, by decide +kernel, by decide +kernel⟩
abbrev rm_X11_stuck : Room := { frames := 3, cells := 0, slots := 0, locals := 83 }
set_option maxRecDepth 100000 in
theorem F_X11_fault : hp_Fv RX11 yX11_fault cX11_fault 2 (some .int) 1 := ⟨hp_in (List.mem_append_right _ (List.mem_append_right _ (List.mem_append_right _ (List.mem_append_right _ (List.mem_append_left _ (List.mem_of_getElem? (i := 232) (by decide +kernel))))))) rfl, hp_in (List.mem_append_right _ (List.mem_append_right _ (List.mem_append_right _ (List.mem_append_right _ (List.mem_append_left _ (List.mem_of_getElem? (i := 233) (by decide +kernel))))))) rfl, hp_in (List.mem_append_right _ (List.mem_append_left _ (List.mem_of_getElem? (i := 1) (by decide +kernel)))) rfl, hp_in (List.mem_append_right _ (List.mem_append_right _ (List.mem_append_right _ (List.mem_append_right _ (List.mem_append_left _ (List.mem_of_getElem? (i := 234) rfl)))))) rfl, by decide +kernel, by decide +kernel, by decide +kernel⟩
abbrev rm_X11_fault : Room := { frames := 1, cells := 0, slots := 0, locals := 20 }
set_option maxRecDepth 100000 in
theorem F_X11_refusalOfPlain : hp_Fv RX11 yX11_refusalOfPlain cX11_refusalOfPlain 2 (some .int) 1 := ⟨hp_in (List.mem_append_right _ (List.mem_append_right _ (List.mem_append_right _ (List.mem_append_right _ (List.mem_append_right _ (List.mem_append_left _ (List.mem_of_getElem? (i := 1) (by decide +kernel)))))))) rfl, hp_in (List.mem_append_left _ (List.mem_of_getElem? (i := 17) (by decide +kernel))) rfl, hp_in (List.mem_append_right _ (List.mem_append_left _ (List.mem_of_getElem? (i := 1) (by decide +kernel)))) rfl, hp_in (List.mem_append_right _ (List.mem_append_right _ (List.mem_append_right _ (List.mem_append_right _ (List.mem_append_right _ (List.mem_append_left _ (List.mem_of_getElem? (i := 2) rfl))))))) rfl, by decide +kernel, by decide +kernel, by decide +kernel⟩
abbrev rm_X11_refusalOfPlain : Room := { frames := 1, cells := 0, slots := 0, locals := 21 }
set_option maxRecDepth 100000 in
theorem F_X11_always : hp_Fv RX11 yX11_always cX11_always 4 (some .int) 1 := ⟨hp_in (List.mem_append_right _ (List.mem_append_right _ (List.mem_append_right _ (List.mem_append_right _ (List.mem_append_left _ (List.mem_of_getElem? (i := 236) (by decide +kernel))))))) rfl, hp_in (List.mem_append_right _ (List.mem_append_right _ (List.mem_append_right _ (List.mem_append_right _ (List.mem_append_left _ (List.mem_of_getElem? (i := 237) (by decide +kernel))))))) rfl, hp_in (List.mem_append_right _ (List.mem_append_left _ (List.mem_of_getElem? (i := 1) (by decide +kernel)))) rfl, hp_in (List.mem_append_right _ (List.mem_append_right _ (List.mem_append_right _ (List.mem_append_right _ (List.mem_append_left _ (List.mem_of_getElem? (i := 238) rfl)))))) rfl, by decide +kernel, by decide +kernel, by decide +kernel⟩
abbrev rm_X11_always : Room := { frames := 4, cells := 0, slots := 0, locals := 104 }
set_option maxRecDepth 100000 in
theorem F_X11_again : hp_Fv RX11 yX11_again cX11_again 4 (some .int) 2 := ⟨hp_in (List.mem_append_right _ (List.mem_append_right _ (List.mem_append_right _ (List.mem_append_right _ (List.mem_append_right _ (List.mem_append_left _ (List.mem_of_getElem? (i := 4) (by decide +kernel)))))))) rfl, hp_in (List.mem_append_right _ (List.mem_append_right _ (List.mem_append_right _ (List.mem_append_right _ (List.mem_append_right _ (List.mem_append_left _ (List.mem_of_getElem? (i := 5) (by decide +kernel)))))))) rfl, hp_in (List.mem_append_right _ (List.mem_append_left _ (List.mem_of_getElem? (i := 1) (by decide +kernel)))) rfl, hp_in (List.mem_append_right _ (List.mem_append_right _ (List.mem_append_right _ (List.mem_append_right _ (List.mem_append_right _ (List.mem_append_left _ (List.mem_of_getElem? (i := 6) rfl))))))) rfl, by decide +kernel, by decide +kernel, by decide +kernel⟩
abbrev rm_X11_again : Room := { frames := 6, cells := 0, slots := 0, locals := 142 }
set_option maxRecDepth 100000 in
theorem F_X11_fromTo : hp_Fv RX11 yX11_fromTo cX11_fromTo 4 (some .int) 3 := ⟨hp_in (List.mem_append_right _ (List.mem_append_right _ (List.mem_append_right _ (List.mem_append_right _ (List.mem_append_right _ (List.mem_append_left _ (List.mem_of_getElem? (i := 55) (by decide +kernel)))))))) rfl, hp_in (List.mem_append_right _ (List.mem_append_right _ (List.mem_append_right _ (List.mem_append_right _ (List.mem_append_right _ (List.mem_append_left _ (List.mem_of_getElem? (i := 56) (by decide +kernel)))))))) rfl, hp_in (List.mem_append_right _ (List.mem_append_left _ (List.mem_of_getElem? (i := 1) (by decide +kernel)))) rfl, hp_in (List.mem_append_right _ (List.mem_append_right _ (List.mem_append_right _ (List.mem_append_right _ (List.mem_append_right _ (List.mem_append_left _ (List.mem_of_getElem? (i := 57) rfl))))))) rfl, by decide +kernel, by decide +kernel, by decide +kernel⟩
abbrev rm_X11_fromTo : Room := { frames := 6, cells := 0, slots := 0, locals := 143 }
set_option maxRecDepth 100000 in
theorem F_X11_observe : hp_Fv RX11 yX11_observe cX11_observe 3 (some .int) 1 := ⟨hp_in (List.mem_append_right _ (List.mem_append_right _ (List.mem_append_right _ (List.mem_append_right _ (List.mem_append_right _ (List.mem_append_left _ (List.mem_of_getElem? (i := 64) (by decide +kernel)))))))) rfl, hp_in (List.mem_append_right _ (List.mem_append_right _ (List.mem_append_right _ (List.mem_append_right _ (List.mem_append_right _ (List.mem_append_left _ (List.mem_of_getElem? (i := 65) (by decide +kernel)))))))) rfl, hp_in (List.mem_append_right _ (List.mem_append_left _ (List.mem_of_getElem? (i := 1) (by decide +kernel)))) rfl, hp_in (List.mem_append_right _ (List.mem_append_right _ (List.mem_append_right _ (List.mem_append_right _ (List.mem_append_right _ (List.mem_append_left _ (List.mem_of_getElem? (i := 66) rfl))))))) rfl, by decide +kernel, by decide +kernel, by decide +kernel⟩
abbrev rm_X11_observe : Room := { frames := 2, cells := 0, slots := 0, locals := 42 }
set_option maxRecDepth 100000 in
theorem F_X11_classes : hp_Fv RX11 yX11_classes cX11_classes 1 (some .int) 0 := ⟨hp_in (List.mem_append_right _ (List.mem_append_right _ (List.mem_append_right _ (List.mem_append_right _ (List.mem_append_right _ (List.mem_append_left _ (List.mem_of_getElem? (i := 76) (by decide +kernel)))))))) rfl, hp_in (List.mem_append_right _ (List.mem_append_right _ (List.mem_append_right _ (List.mem_append_right _ (List.mem_append_right _ (List.mem_append_left _ (List.mem_of_getElem? (i := 77) (by decide +kernel)))))))) rfl, hp_in (List.mem_append_right _ (List.mem_append_left _ (List.mem_of_getElem? (i := 1) (by decide +kernel)))) rfl, hp_in (List.mem_append_right _ (List.mem_append_right _ (List.mem_append_right _ (List.mem_append_right _ (List.mem_append_right _ (List.mem_append_left _ (List.mem_of_getElem? (i := 78) rfl))))))) rfl, by decide +kernel, by decide +kernel, by decide +kernel⟩
abbrev rm_X11_classes : Room := { frames := 6, cells := 0, slots := 0, locals := 150 }
set_option maxRecDepth 100000 in
theorem F_X11_classOf : hp_Fv RX11 yX11_classOf cX11_classOf 2 (some .int) 1 := ⟨hp_in (List.mem_append_right _ (List.mem_append_right _ (List.mem_append_right _ (List.mem_append_right _ (List.mem_append_right _ (List.mem_append_left _ (List.mem_of_getElem? (i := 119) (by decide +kernel)))))))) rfl, hp_in (List.mem_append_right _ (List.mem_append_right _ (List.mem_append_right _ (List.mem_append_right _ (List.mem_append_right _ (List.mem_append_left _ (List.mem_of_getElem? (i := 120) (by decide +kernel)))))))) rfl, hp_in (List.mem_append_right _ (List.mem_append_left _ (List.mem_of_getElem? (i := 1) (by decide +kernel)))) rfl, hp_in (List.mem_append_right _ (List.mem_append_right _ (List.mem_append_right _ (List.mem_append_right _ (List.mem_append_right _ (List.mem_append_left _ (List.mem_of_getElem? (i := 121) rfl))))))) rfl, by decide +kernel, by decide +kernel, by decide +kernel⟩
abbrev rm_X11_classOf : Room := { frames := 6, cells := 0, slots := 0, locals := 150 }
set_option maxRecDepth 100000 in
theorem F_X11_count : hp_Fv RX11 yX11_count cX11_count 2 (some .int) 1 := ⟨hp_in (List.mem_append_right _ (List.mem_append_right _ (List.mem_append_right _ (List.mem_append_right _ (List.mem_append_right _ (List.mem_append_left _ (List.mem_of_getElem? (i := 123) (by decide +kernel)))))))) rfl, hp_in (List.mem_append_right _ (List.mem_append_right _ (List.mem_append_right _ (List.mem_append_right _ (List.mem_append_right _ (List.mem_append_left _ (List.mem_of_getElem? (i := 124) (by decide +kernel)))))))) rfl, hp_in (List.mem_append_right _ (List.mem_append_left _ (List.mem_of_getElem? (i := 1) (by decide +kernel)))) rfl, hp_in (List.mem_append_right _ (List.mem_append_right _ (List.mem_append_right _ (List.mem_append_right _ (List.mem_append_right _ (List.mem_append_left _ (List.mem_of_getElem? (i := 125) rfl))))))) rfl, by decide +kernel, by decide +kernel, by decide +kernel⟩
abbrev rm_X11_count : Room := { frames := 1, cells := 0, slots := 0, locals := 20 }
set_option maxRecDepth 100000 in
theorem F_X12_in : hp_Fs yX12_in cX12_in 3 (some .boolean) 3 := ⟨hp_in (List.mem_append_right _ (List.mem_append_right _ (List.mem_append_right _ (List.mem_append_right _ (List.mem_append_right _ (List.mem_append_right _ (List.mem_append_left _ (List.mem_of_getElem? (i := 94) (by decide +kernel))))))))) rfl, hp_in (List.mem_append_right _ (List.mem_append_left _ (List.mem_of_getElem? (i := 13) (by decide +kernel)))) rfl, hp_in (List.mem_append_right _ (List.mem_append_right _ (List.mem_append_right _ (List.mem_append_right _ (List.mem_append_right _ (List.mem_append_right _ (List.mem_append_left _ (List.mem_of_getElem? (i := 95) rfl)))))))) rfl, by decide +kernel, by decide +kernel, by decide +kernel⟩
abbrev rm_X12_in : Room := { frames := 0, cells := 0, slots := 0, locals := 0 }
set_option maxRecDepth 100000 in
theorem F_X12_isValue : hp_Fs yX12_isValue cX12_isValue 3 (some .boolean) 3 := ⟨hp_in (List.mem_append_right _ (List.mem_append_right _ (List.mem_append_right _ (List.mem_append_right _ (List.mem_append_right _ (List.mem_append_right _ (List.mem_append_left _ (List.mem_of_getElem? (i := 91) (by decide +kernel))))))))) rfl, hp_in (List.mem_append_right _ (List.mem_append_left _ (List.mem_of_getElem? (i := 13) (by decide +kernel)))) rfl, hp_in (List.mem_append_right _ (List.mem_append_right _ (List.mem_append_right _ (List.mem_append_right _ (List.mem_append_right _ (List.mem_append_right _ (List.mem_append_left _ (List.mem_of_getElem? (i := 92) rfl)))))))) rfl, by decide +kernel, by decide +kernel, by decide +kernel⟩
abbrev rm_X12_isValue : Room := { frames := 1, cells := 0, slots := 0, locals := 22 }
set_option maxRecDepth 100000 in
theorem F_X12_over : hp_Fv RX12 yX12_over cX12_over 1 none 0 := ⟨hp_in (List.mem_append_right _ (List.mem_append_right _ (List.mem_append_right _ (List.mem_append_right _ (List.mem_append_right _ (List.mem_append_right _ (List.mem_append_left _ (List.mem_of_getElem? (i := 98) (by decide +kernel))))))))) rfl, hp_in (List.mem_append_left _ (List.mem_of_getElem? (i := 32) (by decide +kernel))) rfl, hp_in (List.mem_append_right _ (List.mem_append_left _ (List.mem_of_getElem? (i := 13) (by decide +kernel)))) rfl, hp_in (List.mem_append_right _ (List.mem_append_right _ (List.mem_append_right _ (List.mem_append_right _ (List.mem_append_right _ (List.mem_append_right _ (List.mem_append_left _ (List.mem_of_getElem? (i := 99) rfl)))))))) rfl, by decide +kernel, by decide +kernel, by decide +kernel⟩
abbrev rm_X12_over : Room := { frames := 0, cells := 0, slots := 0, locals := 0 }
set_option maxRecDepth 100000 in
theorem F_X12_shared : hp_Fv RX12 yX12_shared cX12_shared 4 (some .int) 3 := ⟨hp_in (List.mem_append_right _ (List.mem_append_right _ (List.mem_append_right _ (List.mem_append_right _ (List.mem_append_right _ (List.mem_append_right _ (List.mem_append_left _ (List.mem_of_getElem? (i := 87) (by decide +kernel))))))))) rfl, hp_in (List.mem_append_right _ (List.mem_append_right _ (List.mem_append_right _ (List.mem_append_right _ (List.mem_append_right _ (List.mem_append_right _ (List.mem_append_left _ (List.mem_of_getElem? (i := 88) (by decide +kernel))))))))) rfl, hp_in (List.mem_append_right _ (List.mem_append_left _ (List.mem_of_getElem? (i := 13) (by decide +kernel)))) rfl, hp_in (List.mem_append_right _ (List.mem_append_right _ (List.mem_append_right _ (List.mem_append_right _ (List.mem_append_right _ (List.mem_append_right _ (List.mem_append_left _ (List.mem_of_getElem? (i := 89) rfl)))))))) rfl, by decide +kernel, by decide +kernel, by decide +kernel⟩
abbrev rm_X12_shared : Room := { frames := 2, cells := 0, slots := 0, locals := 44 }
set_option maxRecDepth 100000 in
theorem F_X12_role : hp_Fv RX12 yX12_role cX12_role 2 (some .int) 1 := ⟨hp_in (List.mem_append_right _ (List.mem_append_right _ (List.mem_append_right _ (List.mem_append_right _ (List.mem_append_right _ (List.mem_append_right _ (List.mem_append_left _ (List.mem_of_getElem? (i := 101) (by decide +kernel))))))))) rfl, hp_in (List.mem_append_right _ (List.mem_append_right _ (List.mem_append_right _ (List.mem_append_right _ (List.mem_append_right _ (List.mem_append_right _ (List.mem_append_left _ (List.mem_of_getElem? (i := 102) (by decide +kernel))))))))) rfl, hp_in (List.mem_append_right _ (List.mem_append_left _ (List.mem_of_getElem? (i := 13) (by decide +kernel)))) rfl, hp_in (List.mem_append_right _ (List.mem_append_right _ (List.mem_append_right _ (List.mem_append_right _ (List.mem_append_right _ (List.mem_append_right _ (List.mem_append_left _ (List.mem_of_getElem? (i := 103) rfl)))))))) rfl, by decide +kernel, by decide +kernel, by decide +kernel⟩
abbrev rm_X12_role : Room := { frames := 1, cells := 0, slots := 0, locals := 22 }
set_option maxRecDepth 100000 in
theorem F_X12_isRole : hp_Fv RX12 yX12_isRole cX12_isRole 2 (some .boolean) 1 := ⟨hp_in (List.mem_append_right _ (List.mem_append_right _ (List.mem_append_right _ (List.mem_append_right _ (List.mem_append_right _ (List.mem_append_right _ (List.mem_append_left _ (List.mem_of_getElem? (i := 110) (by decide +kernel))))))))) rfl, hp_in (List.mem_append_left _ (List.mem_of_getElem? (i := 33) (by decide +kernel))) rfl, hp_in (List.mem_append_right _ (List.mem_append_left _ (List.mem_of_getElem? (i := 13) (by decide +kernel)))) rfl, hp_in (List.mem_append_right _ (List.mem_append_right _ (List.mem_append_right _ (List.mem_append_right _ (List.mem_append_right _ (List.mem_append_right _ (List.mem_append_left _ (List.mem_of_getElem? (i := 111) rfl)))))))) rfl, by decide +kernel, by decide +kernel, by decide +kernel⟩
abbrev rm_X12_isRole : Room := { frames := 1, cells := 0, slots := 0, locals := 22 }
set_option maxRecDepth 100000 in
theorem F_X12_own : hp_Fv RX12 yX12_own cX12_own 6 (some .int) 4 := ⟨hp_in (List.mem_append_right _ (List.mem_append_right _ (List.mem_append_right _ (List.mem_append_right _ (List.mem_append_right _ (List.mem_append_right _ (List.mem_append_left _ (List.mem_of_getElem? (i := 105) (by decide +kernel))))))))) rfl, hp_in (List.mem_append_right _ (List.mem_append_right _ (List.mem_append_right _ (List.mem_append_right _ (List.mem_append_right _ (List.mem_append_right _ (List.mem_append_left _ (List.mem_of_getElem? (i := 106) (by decide +kernel))))))))) rfl, hp_in (List.mem_append_right _ (List.mem_append_left _ (List.mem_of_getElem? (i := 13) (by decide +kernel)))) rfl, hp_in (List.mem_append_right _ (List.mem_append_right _ (List.mem_append_right _ (List.mem_append_right _ (List.mem_append_right _ (List.mem_append_right _ (List.mem_append_left _ (List.mem_of_getElem? (i := 107) rfl)))))))) rfl, by decide +kernel, by decide +kernel, by decide +kernel⟩
abbrev rm_X12_own : Room := { frames := 2, cells := 0, slots := 0, locals := 44 }
set_option maxRecDepth 100000 in
theorem F_X12_end : hp_Fv RX12 yX12_end cX12_end 4 (some .int) 2 := ⟨hp_in (List.mem_append_right _ (List.mem_append_right _ (List.mem_append_right _ (List.mem_append_right _ (List.mem_append_right _ (List.mem_append_right _ (List.mem_append_left _ (List.mem_of_getElem? (i := 113) (by decide +kernel))))))))) rfl, hp_in (List.mem_append_right _ (List.mem_append_right _ (List.mem_append_right _ (List.mem_append_right _ (List.mem_append_right _ (List.mem_append_right _ (List.mem_append_left _ (List.mem_of_getElem? (i := 114) (by decide +kernel))))))))) rfl, hp_in (List.mem_append_right _ (List.mem_append_left _ (List.mem_of_getElem? (i := 13) (by decide +kernel)))) rfl, hp_in (List.mem_append_right _ (List.mem_append_right _ (List.mem_append_right _ (List.mem_append_right _ (List.mem_append_right _ (List.mem_append_right _ (List.mem_append_left _ (List.mem_of_getElem? (i := 115) rfl)))))))) rfl, by decide +kernel, by decide +kernel, by decide +kernel⟩
abbrev rm_X12_end : Room := { frames := 2, cells := 0, slots := 0, locals := 43 }
set_option maxRecDepth 100000 in
theorem F_X12_channel : hp_Fv RX12 yX12_channel cX12_channel 4 (some .int) 3 := ⟨hp_in (List.mem_append_right _ (List.mem_append_right _ (List.mem_append_right _ (List.mem_append_right _ (List.mem_append_right _ (List.mem_append_right _ (List.mem_append_left _ (List.mem_of_getElem? (i := 117) (by decide +kernel))))))))) rfl, hp_in (List.mem_append_right _ (List.mem_append_right _ (List.mem_append_right _ (List.mem_append_right _ (List.mem_append_right _ (List.mem_append_right _ (List.mem_append_left _ (List.mem_of_getElem? (i := 118) (by decide +kernel))))))))) rfl, hp_in (List.mem_append_right _ (List.mem_append_left _ (List.mem_of_getElem? (i := 13) (by decide +kernel)))) rfl, hp_in (List.mem_append_right _ (List.mem_append_right _ (List.mem_append_right _ (List.mem_append_right _ (List.mem_append_right _ (List.mem_append_right _ (List.mem_append_left _ (List.mem_of_getElem? (i := 119) rfl)))))))) rfl, by decide +kernel, by decide +kernel, by decide +kernel⟩
abbrev rm_X12_channel : Room := { frames := 1, cells := 0, slots := 0, locals := 22 }
set_option maxRecDepth 100000 in
theorem F_X12_isExpr : hp_Fv RX12 yX12_isExpr cX12_isExpr 2 (some .boolean) 1 := ⟨hp_in (List.mem_append_right _ (List.mem_append_right _ (List.mem_append_right _ (List.mem_append_right _ (List.mem_append_right _ (List.mem_append_right _ (List.mem_append_left _ (List.mem_of_getElem? (i := 134) (by decide +kernel))))))))) rfl, hp_in (List.mem_append_left _ (List.mem_of_getElem? (i := 36) (by decide +kernel))) rfl, hp_in (List.mem_append_right _ (List.mem_append_left _ (List.mem_of_getElem? (i := 13) (by decide +kernel)))) rfl, hp_in (List.mem_append_right _ (List.mem_append_right _ (List.mem_append_right _ (List.mem_append_right _ (List.mem_append_right _ (List.mem_append_right _ (List.mem_append_left _ (List.mem_of_getElem? (i := 135) rfl)))))))) rfl, by decide +kernel, by decide +kernel, by decide +kernel⟩
abbrev rm_X12_isExpr : Room := { frames := 1, cells := 0, slots := 0, locals := 22 }
set_option maxRecDepth 100000 in
theorem F_X12_isChannel : hp_Fv RX12 yX12_isChannel cX12_isChannel 2 (some .boolean) 1 := ⟨hp_in (List.mem_append_right _ (List.mem_append_right _ (List.mem_append_right _ (List.mem_append_right _ (List.mem_append_right _ (List.mem_append_right _ (List.mem_append_left _ (List.mem_of_getElem? (i := 130) (by decide +kernel))))))))) rfl, hp_in (List.mem_append_left _ (List.mem_of_getElem? (i := 35) (by decide +kernel))) rfl, hp_in (List.mem_append_right _ (List.mem_append_left _ (List.mem_of_getElem? (i := 13) (by decide +kernel)))) rfl, hp_in (List.mem_append_right _ (List.mem_append_right _ (List.mem_append_right _ (List.mem_append_right _ (List.mem_append_right _ (List.mem_append_right _ (List.mem_append_left _ (List.mem_of_getElem? (i := 131) rfl)))))))) rfl, by decide +kernel, by decide +kernel, by decide +kernel⟩
abbrev rm_X12_isChannel : Room := { frames := 1, cells := 0, slots := 0, locals := 22 }
set_option maxRecDepth 100000 in
theorem F_X12_isThere : hp_Fv RX12 yX12_isThere cX12_isThere 5 (some .boolean) 4 := ⟨hp_in (List.mem_append_right _ (List.mem_append_right _ (List.mem_append_right _ (List.mem_append_right _ (List.mem_append_right _ (List.mem_append_right _ (List.mem_append_left _ (List.mem_of_getElem? (i := 126) (by decide +kernel))))))))) rfl, hp_in (List.mem_append_left _ (List.mem_of_getElem? (i := 34) (by decide +kernel))) rfl, hp_in (List.mem_append_right _ (List.mem_append_left _ (List.mem_of_getElem? (i := 13) (by decide +kernel)))) rfl, hp_in (List.mem_append_right _ (List.mem_append_right _ (List.mem_append_right _ (List.mem_append_right _ (List.mem_append_right _ (List.mem_append_right _ (List.mem_append_left _ (List.mem_of_getElem? (i := 127) rfl)))))))) rfl, by decide +kernel, by decide +kernel, by decide +kernel⟩
abbrev rm_X12_isThere : Room := { frames := 2, cells := 0, slots := 0, locals := 43 }
set_option maxRecDepth 100000 in
theorem F_X12_expr : hp_Fv RX12 yX12_expr cX12_expr 5 (some .int) 4 := ⟨hp_in (List.mem_append_right _ (List.mem_append_right _ (List.mem_append_right _ (List.mem_append_right _ (List.mem_append_right _ (List.mem_append_right _ (List.mem_append_left _ (List.mem_of_getElem? (i := 121) (by decide +kernel))))))))) rfl, hp_in (List.mem_append_right _ (List.mem_append_right _ (List.mem_append_right _ (List.mem_append_right _ (List.mem_append_right _ (List.mem_append_right _ (List.mem_append_left _ (List.mem_of_getElem? (i := 122) (by decide +kernel))))))))) rfl, hp_in (List.mem_append_right _ (List.mem_append_left _ (List.mem_of_getElem? (i := 13) (by decide +kernel)))) rfl, hp_in (List.mem_append_right _ (List.mem_append_right _ (List.mem_append_right _ (List.mem_append_right _ (List.mem_append_right _ (List.mem_append_right _ (List.mem_append_left _ (List.mem_of_getElem? (i := 123) rfl)))))))) rfl, by decide +kernel, by decide +kernel, by decide +kernel⟩
abbrev rm_X12_expr : Room := { frames := 3, cells := 0, slots := 0, locals := 67 }
set_option maxRecDepth 100000 in
theorem F_X12_step : hp_Fv RX12 yX12_step cX12_step 5 (some .int) 4 := ⟨hp_in (List.mem_append_right _ (List.mem_append_right _ (List.mem_append_right _ (List.mem_append_right _ (List.mem_append_right _ (List.mem_append_right _ (List.mem_append_left _ (List.mem_of_getElem? (i := 137) (by decide +kernel))))))))) rfl, hp_in (List.mem_append_right _ (List.mem_append_right _ (List.mem_append_right _ (List.mem_append_right _ (List.mem_append_right _ (List.mem_append_right _ (List.mem_append_left _ (List.mem_of_getElem? (i := 138) (by decide +kernel))))))))) rfl, hp_in (List.mem_append_right _ (List.mem_append_left _ (List.mem_of_getElem? (i := 13) (by decide +kernel)))) rfl, hp_in (List.mem_append_right _ (List.mem_append_right _ (List.mem_append_right _ (List.mem_append_right _ (List.mem_append_right _ (List.mem_append_right _ (List.mem_append_left _ (List.mem_of_getElem? (i := 139) rfl)))))))) rfl, by decide +kernel, by decide +kernel, by decide +kernel⟩
abbrev rm_X12_step : Room := { frames := 2, cells := 0, slots := 0, locals := 43 }
set_option maxRecDepth 100000 in
theorem F_X12_act : hp_Fv RX12 yX12_act cX12_act 8 (some .int) 4 := ⟨hp_in (List.mem_append_right _ (List.mem_append_right _ (List.mem_append_right _ (List.mem_append_right _ (List.mem_append_right _ (List.mem_append_right _ (List.mem_append_left _ (List.mem_of_getElem? (i := 141) (by decide +kernel))))))))) rfl, hp_in (List.mem_append_right _ (List.mem_append_right _ (List.mem_append_right _ (List.mem_append_right _ (List.mem_append_right _ (List.mem_append_right _ (List.mem_append_left _ (List.mem_of_getElem? (i := 142) (by decide +kernel))))))))) rfl, hp_in (List.mem_append_right _ (List.mem_append_left _ (List.mem_of_getElem? (i := 13) (by decide +kernel)))) rfl, hp_in (List.mem_append_right _ (List.mem_append_right _ (List.mem_append_right _ (List.mem_append_right _ (List.mem_append_right _ (List.mem_append_right _ (List.mem_append_left _ (List.mem_of_getElem? (i := 143) rfl)))))))) rfl, by decide +kernel, by decide +kernel, by decide +kernel⟩
abbrev rm_X12_act : Room := { frames := 2, cells := 0, slots := 0, locals := 43 }
set_option maxRecDepth 100000 in
theorem F_X12_alike : hp_Fv RX12 yX12_alike cX12_alike 3 (some .int) 1 := ⟨hp_in (List.mem_append_right _ (List.mem_append_right _ (List.mem_append_right _ (List.mem_append_right _ (List.mem_append_right _ (List.mem_append_right _ (List.mem_append_left _ (List.mem_of_getElem? (i := 145) (by decide +kernel))))))))) rfl, hp_in (List.mem_append_right _ (List.mem_append_right _ (List.mem_append_right _ (List.mem_append_right _ (List.mem_append_right _ (List.mem_append_right _ (List.mem_append_left _ (List.mem_of_getElem? (i := 146) (by decide +kernel))))))))) rfl, hp_in (List.mem_append_right _ (List.mem_append_left _ (List.mem_of_getElem? (i := 13) (by decide +kernel)))) rfl, hp_in (List.mem_append_right _ (List.mem_append_right _ (List.mem_append_right _ (List.mem_append_right _ (List.mem_append_right _ (List.mem_append_right _ (List.mem_append_left _ (List.mem_of_getElem? (i := 147) rfl)))))))) rfl, by decide +kernel, by decide +kernel, by decide +kernel⟩
abbrev rm_X12_alike : Room := { frames := 1, cells := 0, slots := 0, locals := 20 }
set_option maxRecDepth 100000 in
theorem F_X12_memberAt : hp_Fs yX12_memberAt cX12_memberAt 2 (some .int) 2 := ⟨hp_in (List.mem_append_right _ (List.mem_append_right _ (List.mem_append_right _ (List.mem_append_right _ (List.mem_append_right _ (List.mem_append_right _ (List.mem_append_left _ (List.mem_of_getElem? (i := 165) (by decide +kernel))))))))) rfl, hp_in (List.mem_append_right _ (List.mem_append_left _ (List.mem_of_getElem? (i := 13) (by decide +kernel)))) rfl, hp_in (List.mem_append_right _ (List.mem_append_right _ (List.mem_append_right _ (List.mem_append_right _ (List.mem_append_right _ (List.mem_append_right _ (List.mem_append_left _ (List.mem_of_getElem? (i := 166) rfl)))))))) rfl, by decide +kernel, by decide +kernel, by decide +kernel⟩
abbrev rm_X12_memberAt : Room := { frames := 0, cells := 0, slots := 0, locals := 0 }
set_option maxRecDepth 100000 in
theorem F_X12_channelAt : hp_Fs yX12_channelAt cX12_channelAt 1 (some .int) 1 := ⟨hp_in (List.mem_append_right _ (List.mem_append_right _ (List.mem_append_right _ (List.mem_append_right _ (List.mem_append_right _ (List.mem_append_right _ (List.mem_append_left _ (List.mem_of_getElem? (i := 184) (by decide +kernel))))))))) rfl, hp_in (List.mem_append_right _ (List.mem_append_left _ (List.mem_of_getElem? (i := 13) (by decide +kernel)))) rfl, hp_in (List.mem_append_right _ (List.mem_append_right _ (List.mem_append_right _ (List.mem_append_right _ (List.mem_append_right _ (List.mem_append_right _ (List.mem_append_left _ (List.mem_of_getElem? (i := 185) rfl)))))))) rfl, by decide +kernel, by decide +kernel, by decide +kernel⟩
abbrev rm_X12_channelAt : Room := { frames := 0, cells := 0, slots := 0, locals := 0 }
set_option maxRecDepth 100000 in
theorem F_X12_cell : hp_Fv RX12 yX12_cell cX12_cell 3 (some .int) 2 := ⟨hp_in (List.mem_append_right _ (List.mem_append_right _ (List.mem_append_right _ (List.mem_append_right _ (List.mem_append_right _ (List.mem_append_right _ (List.mem_append_left _ (List.mem_of_getElem? (i := 177) (by decide +kernel))))))))) rfl, hp_in (List.mem_append_left _ (List.mem_of_getElem? (i := 42) (by decide +kernel))) rfl, hp_in (List.mem_append_right _ (List.mem_append_left _ (List.mem_of_getElem? (i := 13) (by decide +kernel)))) rfl, hp_in (List.mem_append_right _ (List.mem_append_right _ (List.mem_append_right _ (List.mem_append_right _ (List.mem_append_right _ (List.mem_append_right _ (List.mem_append_left _ (List.mem_of_getElem? (i := 178) rfl)))))))) rfl, by decide +kernel, by decide +kernel, by decide +kernel⟩
abbrev rm_X12_cell : Room := { frames := 0, cells := 0, slots := 0, locals := 0 }
set_option maxRecDepth 100000 in
theorem F_X12_many : hp_Fv RX12 yX12_many cX12_many 6 (some .int) 3 := ⟨hp_in (List.mem_append_right _ (List.mem_append_right _ (List.mem_append_right _ (List.mem_append_right _ (List.mem_append_right _ (List.mem_append_right _ (List.mem_append_left _ (List.mem_of_getElem? (i := 181) (by decide +kernel))))))))) rfl, hp_in (List.mem_append_left _ (List.mem_of_getElem? (i := 43) (by decide +kernel))) rfl, hp_in (List.mem_append_right _ (List.mem_append_left _ (List.mem_of_getElem? (i := 13) (by decide +kernel)))) rfl, hp_in (List.mem_append_right _ (List.mem_append_right _ (List.mem_append_right _ (List.mem_append_right _ (List.mem_append_right _ (List.mem_append_right _ (List.mem_append_left _ (List.mem_of_getElem? (i := 182) rfl)))))))) rfl, by decide +kernel, by decide +kernel, by decide +kernel⟩
abbrev rm_X12_many : Room := { frames := 1, cells := 0, slots := 0, locals := 22 }
set_option maxRecDepth 100000 in
theorem F_X12_reckon : hp_Fv RX12 yX12_reckon cX12_reckon 8 none 3 := ⟨hp_in (List.mem_append_right _ (List.mem_append_right _ (List.mem_append_right _ (List.mem_append_right _ (List.mem_append_right _ (List.mem_append_right _ (List.mem_append_left _ (List.mem_of_getElem? (i := 173) (by decide +kernel))))))))) rfl, hp_in (List.mem_append_left _ (List.mem_of_getElem? (i := 41) (by decide +kernel))) rfl, hp_in (List.mem_append_right _ (List.mem_append_left _ (List.mem_of_getElem? (i := 13) (by decide +kernel)))) rfl, hp_in (List.mem_append_right _ (List.mem_append_right _ (List.mem_append_right _ (List.mem_append_right _ (List.mem_append_right _ (List.mem_append_right _ (List.mem_append_left _ (List.mem_of_getElem? (i := 174) rfl)))))))) rfl, by decide +kernel, by decide +kernel, by decide +kernel⟩
abbrev rm_X12_reckon : Room := { frames := 2, cells := 0, slots := 0, locals := 47 }
set_option maxRecDepth 100000 in
theorem F_X12_isBehind : hp_Fv RX12 yX12_isBehind cX12_isBehind 7 (some .boolean) 3 := ⟨hp_in (List.mem_append_right _ (List.mem_append_right _ (List.mem_append_right _ (List.mem_append_right _ (List.mem_append_right _ (List.mem_append_right _ (List.mem_append_left _ (List.mem_of_getElem? (i := 216) (by decide +kernel))))))))) rfl, hp_in (List.mem_append_left _ (List.mem_of_getElem? (i := 51) (by decide +kernel))) rfl, hp_in (List.mem_append_right _ (List.mem_append_left _ (List.mem_of_getElem? (i := 13) (by decide +kernel)))) rfl, hp_in (List.mem_append_right _ (List.mem_append_right _ (List.mem_append_right _ (List.mem_append_right _ (List.mem_append_right _ (List.mem_append_right _ (List.mem_append_left _ (List.mem_of_getElem? (i := 217) rfl)))))))) rfl, by decide +kernel, by decide +kernel, by decide +kernel⟩
abbrev rm_X12_isBehind : Room := { frames := 1, cells := 0, slots := 0, locals := 21 }
set_option maxRecDepth 100000 in
theorem F_X12_order : hp_Fv RX12 yX12_order cX12_order 7 none 0 := ⟨hp_in (List.mem_append_right _ (List.mem_append_right _ (List.mem_append_right _ (List.mem_append_right _ (List.mem_append_right _ (List.mem_append_right _ (List.mem_append_left _ (List.mem_of_getElem? (i := 212) (by decide +kernel))))))))) rfl, hp_in (List.mem_append_left _ (List.mem_of_getElem? (i := 50) (by decide +kernel))) rfl, hp_in (List.mem_append_right _ (List.mem_append_left _ (List.mem_of_getElem? (i := 13) (by decide +kernel)))) rfl, hp_in (List.mem_append_right _ (List.mem_append_right _ (List.mem_append_right _ (List.mem_append_right _ (List.mem_append_right _ (List.mem_append_right _ (List.mem_append_left _ (List.mem_of_getElem? (i := 213) rfl)))))))) rfl, by decide +kernel, by decide +kernel, by decide +kernel⟩
abbrev rm_X12_order : Room := { frames := 2, cells := 0, slots := 0, locals := 47 }
set_option maxRecDepth 100000 in
theorem F_X12_placeOf : hp_Fv RX12 yX12_placeOf cX12_placeOf 4 (some .int) 0 := ⟨hp_in (List.mem_append_right _ (List.mem_append_right _ (List.mem_append_right _ (List.mem_append_right _ (List.mem_append_right _ (List.mem_append_right _ (List.mem_append_left _ (List.mem_of_getElem? (i := 220) (by decide +kernel))))))))) rfl, hp_in (List.mem_append_left _ (List.mem_of_getElem? (i := 52) (by decide +kernel))) rfl, hp_in (List.mem_append_right _ (List.mem_append_left _ (List.mem_of_getElem? (i := 13) (by decide +kernel)))) rfl, hp_in (List.mem_append_right _ (List.mem_append_right _ (List.mem_append_right _ (List.mem_append_right _ (List.mem_append_right _ (List.mem_append_right _ (List.mem_append_left _ (List.mem_of_getElem? (i := 221) rfl)))))))) rfl, by decide +kernel, by decide +kernel, by decide +kernel⟩
abbrev rm_X12_placeOf : Room := { frames := 0, cells := 0, slots := 0, locals := 0 }
set_option maxRecDepth 100000 in
theorem F_X12_take : hp_Fv RX12 yX12_take cX12_take 3 none 1 := ⟨hp_in (List.mem_append_right _ (List.mem_append_right _ (List.mem_append_right _ (List.mem_append_right _ (List.mem_append_right _ (List.mem_append_right _ (List.mem_append_left _ (List.mem_of_getElem? (i := 196) (by decide +kernel))))))))) rfl, hp_in (List.mem_append_left _ (List.mem_of_getElem? (i := 46) (by decide +kernel))) rfl, hp_in (List.mem_append_right _ (List.mem_append_left _ (List.mem_of_getElem? (i := 13) (by decide +kernel)))) rfl, hp_in (List.mem_append_right _ (List.mem_append_right _ (List.mem_append_right _ (List.mem_append_right _ (List.mem_append_right _ (List.mem_append_right _ (List.mem_append_left _ (List.mem_of_getElem? (i := 197) rfl)))))))) rfl, by decide +kernel, by decide +kernel, by decide +kernel⟩
abbrev rm_X12_take : Room := { frames := 0, cells := 0, slots := 0, locals := 0 }
set_option maxRecDepth 100000 in
theorem F_X12_comes : hp_Fv RX12 yX12_comes cX12_comes 7 (some .boolean) 4 := ⟨hp_in (List.mem_append_right _ (List.mem_append_right _ (List.mem_append_right _ (List.mem_append_right _ (List.mem_append_right _ (List.mem_append_right _ (List.mem_append_left _ (List.mem_of_getElem? (i := 208) (by decide +kernel))))))))) rfl, hp_in (List.mem_append_left _ (List.mem_of_getElem? (i := 49) (by decide +kernel))) rfl, hp_in (List.mem_append_right _ (List.mem_append_left _ (List.mem_of_getElem? (i := 13) (by decide +kernel)))) rfl, hp_in (List.mem_append_right _ (List.mem_append_right _ (List.mem_append_right _ (List.mem_append_right _ (List.mem_append_right _ (List.mem_append_right _ (List.mem_append_left _ (List.mem_of_getElem? (i := 209) rfl)))))))) rfl, by decide +kernel, by decide +kernel, by decide +kernel⟩
abbrev rm_X12_comes : Room := { frames := 3, cells := 0, slots := 0, locals := 73 }
set_option maxRecDepth 100000 in
theorem F_X12_can : hp_Fv RX12 yX12_can cX12_can 9 (some .boolean) 3 := ⟨hp_in (List.mem_append_right _ (List.mem_append_right _ (List.mem_append_right _ (List.mem_append_right _ (List.mem_append_right _ (List.mem_append_right _ (List.mem_append_left _ (List.mem_of_getElem? (i := 188) (by decide +kernel))))))))) rfl, hp_in (List.mem_append_left _ (List.mem_of_getElem? (i := 44) (by decide +kernel))) rfl, hp_in (List.mem_append_right _ (List.mem_append_left _ (List.mem_of_getElem? (i := 13) (by decide +kernel)))) rfl, hp_in (List.mem_append_right _ (List.mem_append_right _ (List.mem_append_right _ (List.mem_append_right _ (List.mem_append_right _ (List.mem_append_right _ (List.mem_append_left _ (List.mem_of_getElem? (i := 189) rfl)))))))) rfl, by decide +kernel, by decide +kernel, by decide +kernel⟩
abbrev rm_X12_can : Room := { frames := 1, cells := 0, slots := 0, locals := 22 }
set_option maxRecDepth 100000 in
theorem F_X12_isFirst : hp_Fv RX12 yX12_isFirst cX12_isFirst 6 (some .boolean) 3 := ⟨hp_in (List.mem_append_right _ (List.mem_append_right _ (List.mem_append_right _ (List.mem_append_right _ (List.mem_append_right _ (List.mem_append_right _ (List.mem_append_left _ (List.mem_of_getElem? (i := 236) (by decide +kernel))))))))) rfl, hp_in (List.mem_append_left _ (List.mem_of_getElem? (i := 56) (by decide +kernel))) rfl, hp_in (List.mem_append_right _ (List.mem_append_left _ (List.mem_of_getElem? (i := 13) (by decide +kernel)))) rfl, hp_in (List.mem_append_right _ (List.mem_append_right _ (List.mem_append_right _ (List.mem_append_right _ (List.mem_append_right _ (List.mem_append_right _ (List.mem_append_left _ (List.mem_of_getElem? (i := 237) rfl)))))))) rfl, by decide +kernel, by decide +kernel, by decide +kernel⟩
abbrev rm_X12_isFirst : Room := { frames := 1, cells := 0, slots := 0, locals := 22 }
set_option maxRecDepth 100000 in
theorem F_X12_nextChoice : hp_Fv RX12 yX12_nextChoice cX12_nextChoice 7 (some .int) 3 := ⟨hp_in (List.mem_append_right _ (List.mem_append_right _ (List.mem_append_right _ (List.mem_append_right _ (List.mem_append_right _ (List.mem_append_right _ (List.mem_append_left _ (List.mem_of_getElem? (i := 232) (by decide +kernel))))))))) rfl, hp_in (List.mem_append_left _ (List.mem_of_getElem? (i := 55) (by decide +kernel))) rfl, hp_in (List.mem_append_right _ (List.mem_append_left _ (List.mem_of_getElem? (i := 13) (by decide +kernel)))) rfl, hp_in (List.mem_append_right _ (List.mem_append_right _ (List.mem_append_right _ (List.mem_append_right _ (List.mem_append_right _ (List.mem_append_right _ (List.mem_append_left _ (List.mem_of_getElem? (i := 233) rfl)))))))) rfl, by decide +kernel, by decide +kernel, by decide +kernel⟩
abbrev rm_X12_nextChoice : Room := { frames := 2, cells := 0, slots := 0, locals := 47 }
set_option maxRecDepth 100000 in
theorem F_X12_hasNextWay : hp_Fv RX12 yX12_hasNextWay cX12_hasNextWay 6 (some .boolean) 2 := ⟨hp_in (List.mem_append_right _ (List.mem_append_right _ (List.mem_append_right _ (List.mem_append_right _ (List.mem_append_right _ (List.mem_append_right _ (List.mem_append_left _ (List.mem_of_getElem? (i := 228) (by decide +kernel))))))))) rfl, hp_in (List.mem_append_left _ (List.mem_of_getElem? (i := 54) (by decide +kernel))) rfl, hp_in (List.mem_append_right _ (List.mem_append_left _ (List.mem_of_getElem? (i := 13) (by decide +kernel)))) rfl, hp_in (List.mem_append_right _ (List.mem_append_right _ (List.mem_append_right _ (List.mem_append_right _ (List.mem_append_right _ (List.mem_append_right _ (List.mem_append_left _ (List.mem_of_getElem? (i := 229) rfl)))))))) rfl, by decide +kernel, by decide +kernel, by decide +kernel⟩
abbrev rm_X12_hasNextWay : Room := { frames := 3, cells := 0, slots := 0, locals := 73 }
set_option maxRecDepth 100000 in
theorem F_X12_letterGoes : hp_Fv RX12 yX12_letterGoes cX12_letterGoes 5 none 2 := ⟨hp_in (List.mem_append_right _ (List.mem_append_right _ (List.mem_append_right _ (List.mem_append_right _ (List.mem_append_right _ (List.mem_append_right _ (List.mem_append_left _ (List.mem_of_getElem? (i := 204) (by decide +kernel))))))))) rfl, hp_in (List.mem_append_left _ (List.mem_of_getElem? (i := 48) (by decide +kernel))) rfl, hp_in (List.mem_append_right _ (List.mem_append_left _ (List.mem_of_getElem? (i := 13) (by decide +kernel)))) rfl, hp_in (List.mem_append_right _ (List.mem_append_right _ (List.mem_append_right _ (List.mem_append_right _ (List.mem_append_right _ (List.mem_append_right _ (List.mem_append_left _ (List.mem_of_getElem? (i := 205) rfl)))))))) rfl, by decide +kernel, by decide +kernel, by decide +kernel⟩
abbrev rm_X12_letterGoes : Room := { frames := 1, cells := 0, slots := 0, locals := 20 }
set_option maxRecDepth 100000 in
theorem F_X12_isDone : hp_Fv RX12 yX12_isDone cX12_isDone 11 (some .boolean) 3 := ⟨hp_in (List.mem_append_right _ (List.mem_append_right _ (List.mem_append_right _ (List.mem_append_right _ (List.mem_append_right _ (List.mem_append_right _ (List.mem_append_left _ (List.mem_of_getElem? (i := 200) (by decide +kernel))))))))) rfl, hp_in (List.mem_append_left _ (List.mem_of_getElem? (i := 47) (by decide +kernel))) rfl, hp_in (List.mem_append_right _ (List.mem_append_left _ (List.mem_of_getElem? (i := 13) (by decide +kernel)))) rfl, hp_in (List.mem_append_right _ (List.mem_append_right _ (List.mem_append_right _ (List.mem_append_right _ (List.mem_append_right _ (List.mem_append_right _ (List.mem_append_left _ (List.mem_of_getElem? (i := 201) rfl)))))))) rfl, by decide +kernel, by decide +kernel, by decide +kernel⟩
abbrev rm_X12_isDone : Room := { frames := 2, cells := 0, slots := 0, locals := 44 }
set_option maxRecDepth 100000 in
theorem F_X12_fault : hp_Fv RX12 yX12_fault cX12_fault 5 none 4 := ⟨hp_in (List.mem_append_right _ (List.mem_append_right _ (List.mem_append_right _ (List.mem_append_right _ (List.mem_append_right _ (List.mem_append_right _ (List.mem_append_left _ (List.mem_of_getElem? (i := 224) (by decide +kernel))))))))) rfl, hp_in (List.mem_append_left _ (List.mem_of_getElem? (i := 53) (by decide +kernel))) rfl, hp_in (List.mem_append_right _ (List.mem_append_left _ (List.mem_of_getElem? (i := 13) (by decide +kernel)))) rfl, hp_in (List.mem_append_right _ (List.mem_append_right _ (List.mem_append_right _ (List.mem_append_right _ (List.mem_append_right _ (List.mem_append_right _ (List.mem_append_left _ (List.mem_of_getElem? (i := 225) rfl)))))))) rfl, by decide +kernel, by decide +kernel, by decide +kernel⟩
abbrev rm_X12_fault : Room := { frames := 0, cells := 0, slots := 0, locals := 0 }
set_option maxRecDepth 100000 in
theorem F_X12_goWays : hp_Fv RX12 yX12_goWays cX12_goWays 5 (some .boolean) 3 := ⟨hp_in (List.mem_append_right _ (List.mem_append_right _ (List.mem_append_right _ (List.mem_append_right _ (List.mem_append_right _ (List.mem_append_right _ (List.mem_append_left _ (List.mem_of_getElem? (i := 192) (by decide +kernel))))))))) rfl, hp_in (List.mem_append_left _ (List.mem_of_getElem? (i := 45) (by decide +kernel))) rfl, hp_in (List.mem_append_right _ (List.mem_append_left _ (List.mem_of_getElem? (i := 13) (by decide +kernel)))) rfl, hp_in (List.mem_append_right _ (List.mem_append_right _ (List.mem_append_right _ (List.mem_append_right _ (List.mem_append_right _ (List.mem_append_right _ (List.mem_append_left _ (List.mem_of_getElem? (i := 193) rfl)))))))) rfl, by decide +kernel, by decide +kernel, by decide +kernel⟩
abbrev rm_X12_goWays : Room := { frames := 4, cells := 0, slots := 0, locals := 99 }
set_option maxRecDepth 100000 in
theorem F_X12_goThrough : hp_Fv RX12 yX12_goThrough cX12_goThrough 5 (some .boolean) 1 := ⟨hp_in (List.mem_append_right _ (List.mem_append_right _ (List.mem_append_right _ (List.mem_append_right _ (List.mem_append_right _ (List.mem_append_right _ (List.mem_append_left _ (List.mem_of_getElem? (i := 169) (by decide +kernel))))))))) rfl, hp_in (List.mem_append_left _ (List.mem_of_getElem? (i := 40) (by decide +kernel))) rfl, hp_in (List.mem_append_right _ (List.mem_append_left _ (List.mem_of_getElem? (i := 13) (by decide +kernel)))) rfl, hp_in (List.mem_append_right _ (List.mem_append_right _ (List.mem_append_right _ (List.mem_append_right _ (List.mem_append_right _ (List.mem_append_right _ (List.mem_append_left _ (List.mem_of_getElem? (i := 170) rfl)))))))) rfl, by decide +kernel, by decide +kernel, by decide +kernel⟩
abbrev rm_X12_goThrough : Room := { frames := 5, cells := 0, slots := 0, locals := 123 }
set_option maxRecDepth 100000 in
theorem F_X12_use : hp_Fv RX12 yX12_use cX12_use 2 none 1 := ⟨hp_in (List.mem_append_right _ (List.mem_append_right _ (List.mem_append_right _ (List.mem_append_right _ (List.mem_append_right _ (List.mem_append_right _ (List.mem_append_left _ (List.mem_of_getElem? (i := 162) (by decide +kernel))))))))) rfl, hp_in (List.mem_append_left _ (List.mem_of_getElem? (i := 39) (by decide +kernel))) rfl, hp_in (List.mem_append_right _ (List.mem_append_left _ (List.mem_of_getElem? (i := 13) (by decide +kernel)))) rfl, hp_in (List.mem_append_right _ (List.mem_append_right _ (List.mem_append_right _ (List.mem_append_right _ (List.mem_append_right _ (List.mem_append_right _ (List.mem_append_left _ (List.mem_of_getElem? (i := 163) rfl)))))))) rfl, by decide +kernel, by decide +kernel, by decide +kernel⟩
abbrev rm_X12_use : Room := { frames := 0, cells := 0, slots := 0, locals := 0 }
set_option maxRecDepth 100000 in
theorem F_X12_isFit : hp_Fv RX12 yX12_isFit cX12_isFit 3 (some .boolean) 1 := ⟨hp_in (List.mem_append_right _ (List.mem_append_right _ (List.mem_append_right _ (List.mem_append_right _ (List.mem_append_right _ (List.mem_append_right _ (List.mem_append_left _ (List.mem_of_getElem? (i := 158) (by decide +kernel))))))))) rfl, hp_in (List.mem_append_left _ (List.mem_of_getElem? (i := 38) (by decide +kernel))) rfl, hp_in (List.mem_append_right _ (List.mem_append_left _ (List.mem_of_getElem? (i := 13) (by decide +kernel)))) rfl, hp_in (List.mem_append_right _ (List.mem_append_right _ (List.mem_append_right _ (List.mem_append_right _ (List.mem_append_right _ (List.mem_append_right _ (List.mem_append_left _ (List.mem_of_getElem? (i := 159) rfl)))))))) rfl, by decide +kernel, by decide +kernel, by decide +kernel⟩
abbrev rm_X12_isFit : Room := { frames := 1, cells := 0, slots := 0, locals := 21 }
set_option maxRecDepth 100000 in
theorem F_X12_maySearch : hp_Fv RX12 yX12_maySearch cX12_maySearch 2 (some .boolean) 0 := ⟨hp_in (List.mem_append_right _ (List.mem_append_right _ (List.mem_append_right _ (List.mem_append_right _ (List.mem_append_right _ (List.mem_append_right _ (List.mem_append_left _ (List.mem_of_getElem? (i := 154) (by decide +kernel))))))))) rfl, hp_in (List.mem_append_left _ (List.mem_of_getElem? (i := 37) (by decide +kernel))) rfl, hp_in (List.mem_append_right _ (List.mem_append_left _ (List.mem_of_getElem? (i := 13) (by decide +kernel)))) rfl, hp_in (List.mem_append_right _ (List.mem_append_right _ (List.mem_append_right _ (List.mem_append_right _ (List.mem_append_right _ (List.mem_append_right _ (List.mem_append_left _ (List.mem_of_getElem? (i := 155) rfl)))))))) rfl, by decide +kernel, by decide +kernel, by decide +kernel⟩
abbrev rm_X12_maySearch : Room := { frames := 2, cells := 0, slots := 0, locals := 43 }
set_option maxRecDepth 100000 in
theorem F_X12_search : hp_Fv RX12 yX12_search cX12_search 4 (some .int) 0 := ⟨hp_in (List.mem_append_right _ (List.mem_append_right _ (List.mem_append_right _ (List.mem_append_right _ (List.mem_append_right _ (List.mem_append_right _ (List.mem_append_left _ (List.mem_of_getElem? (i := 149) (by decide +kernel))))))))) rfl, hp_in (List.mem_append_right _ (List.mem_append_right _ (List.mem_append_right _ (List.mem_append_right _ (List.mem_append_right _ (List.mem_append_right _ (List.mem_append_left _ (List.mem_of_getElem? (i := 150) (by decide +kernel))))))))) rfl, hp_in (List.mem_append_right _ (List.mem_append_left _ (List.mem_of_getElem? (i := 13) (by decide +kernel)))) rfl, hp_in (List.mem_append_right _ (List.mem_append_right _ (List.mem_append_right _ (List.mem_append_right _ (List.mem_append_right _ (List.mem_append_right _ (List.mem_append_left _ (List.mem_of_getElem? (i := 151) rfl)))))))) rfl, by decide +kernel, by decide +kernel, by decide +kernel⟩
abbrev rm_X12_search : Room := { frames := 6, cells := 0, slots := 0, locals := 147 }
set_option maxRecDepth 100000 in
theorem F_X12_hasStates : hp_Fv RX12 yX12_hasStates cX12_hasStates 1 (some .boolean) 0 := ⟨hp_in (List.mem_append_right _ (List.mem_append_right _ (List.mem_append_right _ (List.mem_append_right _ (List.mem_append_right _ (List.mem_append_right _ (List.mem_append_right _ (List.mem_of_getElem? (i := 4) (by decide +kernel))))))))) rfl, hp_in (List.mem_append_left _ (List.mem_of_getElem? (i := 57) (by decide +kernel))) rfl, hp_in (List.mem_append_right _ (List.mem_append_left _ (List.mem_of_getElem? (i := 13) (by decide +kernel)))) rfl, hp_in (List.mem_append_right _ (List.mem_append_right _ (List.mem_append_right _ (List.mem_append_right _ (List.mem_append_right _ (List.mem_append_right _ (List.mem_append_right _ (List.mem_of_getElem? (i := 5) rfl)))))))) rfl, by decide +kernel, by decide +kernel, by decide +kernel⟩
abbrev rm_X12_hasStates : Room := { frames := 0, cells := 0, slots := 0, locals := 0 }
set_option maxRecDepth 100000 in
theorem F_X12_isState : hp_Fv RX12 yX12_isState cX12_isState 2 (some .boolean) 1 := ⟨hp_in (List.mem_append_right _ (List.mem_append_right _ (List.mem_append_right _ (List.mem_append_right _ (List.mem_append_right _ (List.mem_append_right _ (List.mem_append_right _ (List.mem_of_getElem? (i := 8) (by decide +kernel))))))))) rfl, hp_in (List.mem_append_left _ (List.mem_of_getElem? (i := 58) (by decide +kernel))) rfl, hp_in (List.mem_append_right _ (List.mem_append_left _ (List.mem_of_getElem? (i := 13) (by decide +kernel)))) rfl, hp_in (List.mem_append_right _ (List.mem_append_right _ (List.mem_append_right _ (List.mem_append_right _ (List.mem_append_right _ (List.mem_append_right _ (List.mem_append_right _ (List.mem_of_getElem? (i := 9) rfl)))))))) rfl, by decide +kernel, by decide +kernel, by decide +kernel⟩
abbrev rm_X12_isState : Room := { frames := 1, cells := 0, slots := 0, locals := 22 }
set_option maxRecDepth 100000 in
theorem F_X12_tells : hp_Fv RX12 yX12_tells cX12_tells 3 (some .int) 2 := ⟨hp_in (List.mem_append_right _ (List.mem_append_right _ (List.mem_append_right _ (List.mem_append_right _ (List.mem_append_right _ (List.mem_append_right _ (List.mem_append_left _ (List.mem_of_getElem? (i := 239) (by decide +kernel))))))))) rfl, hp_in (List.mem_append_right _ (List.mem_append_right _ (List.mem_append_right _ (List.mem_append_right _ (List.mem_append_right _ (List.mem_append_right _ (List.mem_append_right _ (List.mem_of_getElem? (i := 0) (by decide +kernel))))))))) rfl, hp_in (List.mem_append_right _ (List.mem_append_left _ (List.mem_of_getElem? (i := 13) (by decide +kernel)))) rfl, hp_in (List.mem_append_right _ (List.mem_append_right _ (List.mem_append_right _ (List.mem_append_right _ (List.mem_append_right _ (List.mem_append_right _ (List.mem_append_right _ (List.mem_of_getElem? (i := 1) rfl)))))))) rfl, by decide +kernel, by decide +kernel, by decide +kernel⟩
abbrev rm_X12_tells : Room := { frames := 3, cells := 0, slots := 0, locals := 74 }
set_option maxRecDepth 100000 in
theorem F_X12_isMember : hp_Fv RX12 yX12_isMember cX12_isMember 3 (some .boolean) 2 := ⟨hp_in (List.mem_append_right _ (List.mem_append_right _ (List.mem_append_right _ (List.mem_append_right _ (List.mem_append_right _ (List.mem_append_right _ (List.mem_append_right _ (List.mem_of_getElem? (i := 17) (by decide +kernel))))))))) rfl, hp_in (List.mem_append_left _ (List.mem_of_getElem? (i := 59) (by decide +kernel))) rfl, hp_in (List.mem_append_right _ (List.mem_append_left _ (List.mem_of_getElem? (i := 13) (by decide +kernel)))) rfl, hp_in (List.mem_append_right _ (List.mem_append_right _ (List.mem_append_right _ (List.mem_append_right _ (List.mem_append_right _ (List.mem_append_right _ (List.mem_append_right _ (List.mem_of_getElem? (i := 18) rfl)))))))) rfl, by decide +kernel, by decide +kernel, by decide +kernel⟩
abbrev rm_X12_isMember : Room := { frames := 2, cells := 0, slots := 0, locals := 43 }
set_option maxRecDepth 100000 in
theorem F_X12_place : hp_Fv RX12 yX12_place cX12_place 4 (some .int) 3 := ⟨hp_in (List.mem_append_right _ (List.mem_append_right _ (List.mem_append_right _ (List.mem_append_right _ (List.mem_append_right _ (List.mem_append_right _ (List.mem_append_right _ (List.mem_of_getElem? (i := 12) (by decide +kernel))))))))) rfl, hp_in (List.mem_append_right _ (List.mem_append_right _ (List.mem_append_right _ (List.mem_append_right _ (List.mem_append_right _ (List.mem_append_right _ (List.mem_append_right _ (List.mem_of_getElem? (i := 13) (by decide +kernel))))))))) rfl, hp_in (List.mem_append_right _ (List.mem_append_left _ (List.mem_of_getElem? (i := 13) (by decide +kernel)))) rfl, hp_in (List.mem_append_right _ (List.mem_append_right _ (List.mem_append_right _ (List.mem_append_right _ (List.mem_append_right _ (List.mem_append_right _ (List.mem_append_right _ (List.mem_of_getElem? (i := 14) rfl)))))))) rfl, by decide +kernel, by decide +kernel, by decide +kernel⟩
abbrev rm_X12_place : Room := { frames := 3, cells := 0, slots := 0, locals := 65 }
set_option maxRecDepth 100000 in
theorem F_X12_owned : hp_Fv RX12 yX12_owned cX12_owned 5 (some .int) 4 := ⟨hp_in (List.mem_append_right _ (List.mem_append_right _ (List.mem_append_right _ (List.mem_append_right _ (List.mem_append_right _ (List.mem_append_right _ (List.mem_append_right _ (List.mem_of_getElem? (i := 20) (by decide +kernel))))))))) rfl, hp_in (List.mem_append_right _ (List.mem_append_right _ (List.mem_append_right _ (List.mem_append_right _ (List.mem_append_right _ (List.mem_append_right _ (List.mem_append_right _ (List.mem_of_getElem? (i := 21) (by decide +kernel))))))))) rfl, hp_in (List.mem_append_right _ (List.mem_append_left _ (List.mem_of_getElem? (i := 13) (by decide +kernel)))) rfl, hp_in (List.mem_append_right _ (List.mem_append_right _ (List.mem_append_right _ (List.mem_append_right _ (List.mem_append_right _ (List.mem_append_right _ (List.mem_append_right _ (List.mem_of_getElem? (i := 22) rfl)))))))) rfl, by decide +kernel, by decide +kernel, by decide +kernel⟩
abbrev rm_X12_owned : Room := { frames := 3, cells := 0, slots := 0, locals := 65 }
set_option maxRecDepth 100000 in
theorem F_X12_letter : hp_Fv RX12 yX12_letter cX12_letter 4 (some .int) 3 := ⟨hp_in (List.mem_append_right _ (List.mem_append_right _ (List.mem_append_right _ (List.mem_append_right _ (List.mem_append_right _ (List.mem_append_right _ (List.mem_append_right _ (List.mem_of_getElem? (i := 24) (by decide +kernel))))))))) rfl, hp_in (List.mem_append_right _ (List.mem_append_right _ (List.mem_append_right _ (List.mem_append_right _ (List.mem_append_right _ (List.mem_append_right _ (List.mem_append_right _ (List.mem_of_getElem? (i := 25) (by decide +kernel))))))))) rfl, hp_in (List.mem_append_right _ (List.mem_append_left _ (List.mem_of_getElem? (i := 13) (by decide +kernel)))) rfl, hp_in (List.mem_append_right _ (List.mem_append_right _ (List.mem_append_right _ (List.mem_append_right _ (List.mem_append_right _ (List.mem_append_right _ (List.mem_append_right _ (List.mem_of_getElem? (i := 26) rfl)))))))) rfl, by decide +kernel, by decide +kernel, by decide +kernel⟩
abbrev rm_X12_letter : Room := { frames := 2, cells := 0, slots := 0, locals := 43 }
set_option maxRecDepth 100000 in
theorem F_X12_movesOf : hp_Fv RX12 yX12_movesOf cX12_movesOf 2 (some .int) 1 := ⟨hp_in (List.mem_append_right _ (List.mem_append_right _ (List.mem_append_right _ (List.mem_append_right _ (List.mem_append_right _ (List.mem_append_right _ (List.mem_append_right _ (List.mem_of_getElem? (i := 33) (by decide +kernel))))))))) rfl, hp_in (List.mem_append_left _ (List.mem_of_getElem? (i := 60) (by decide +kernel))) rfl, hp_in (List.mem_append_right _ (List.mem_append_left _ (List.mem_of_getElem? (i := 13) (by decide +kernel)))) rfl, hp_in (List.mem_append_right _ (List.mem_append_right _ (List.mem_append_right _ (List.mem_append_right _ (List.mem_append_right _ (List.mem_append_right _ (List.mem_append_right _ (List.mem_of_getElem? (i := 34) rfl)))))))) rfl, by decide +kernel, by decide +kernel, by decide +kernel⟩
abbrev rm_X12_movesOf : Room := { frames := 0, cells := 0, slots := 0, locals := 0 }
set_option maxRecDepth 100000 in
theorem F_X12_moves : hp_Fv RX12 yX12_moves cX12_moves 2 (some .int) 1 := ⟨hp_in (List.mem_append_right _ (List.mem_append_right _ (List.mem_append_right _ (List.mem_append_right _ (List.mem_append_right _ (List.mem_append_right _ (List.mem_append_right _ (List.mem_of_getElem? (i := 28) (by decide +kernel))))))))) rfl, hp_in (List.mem_append_right _ (List.mem_append_right _ (List.mem_append_right _ (List.mem_append_right _ (List.mem_append_right _ (List.mem_append_right _ (List.mem_append_right _ (List.mem_of_getElem? (i := 29) (by decide +kernel))))))))) rfl, hp_in (List.mem_append_right _ (List.mem_append_left _ (List.mem_of_getElem? (i := 13) (by decide +kernel)))) rfl, hp_in (List.mem_append_right _ (List.mem_append_right _ (List.mem_append_right _ (List.mem_append_right _ (List.mem_append_right _ (List.mem_append_right _ (List.mem_append_right _ (List.mem_of_getElem? (i := 30) rfl)))))))) rfl, by decide +kernel, by decide +kernel, by decide +kernel⟩
abbrev rm_X12_moves : Room := { frames := 2, cells := 0, slots := 0, locals := 43 }
set_option maxRecDepth 100000 in
theorem F_X12_move : hp_Fv RX12 yX12_move cX12_move 5 (some .int) 3 := ⟨hp_in (List.mem_append_right _ (List.mem_append_right _ (List.mem_append_right _ (List.mem_append_right _ (List.mem_append_right _ (List.mem_append_right _ (List.mem_append_right _ (List.mem_of_getElem? (i := 36) (by decide +kernel))))))))) rfl, hp_in (List.mem_append_right _ (List.mem_append_right _ (List.mem_append_right _ (List.mem_append_right _ (List.mem_append_right _ (List.mem_append_right _ (List.mem_append_right _ (List.mem_of_getElem? (i := 37) (by decide +kernel))))))))) rfl, hp_in (List.mem_append_right _ (List.mem_append_left _ (List.mem_of_getElem? (i := 13) (by decide +kernel)))) rfl, hp_in (List.mem_append_right _ (List.mem_append_right _ (List.mem_append_right _ (List.mem_append_right _ (List.mem_append_right _ (List.mem_append_right _ (List.mem_append_right _ (List.mem_of_getElem? (i := 38) rfl)))))))) rfl, by decide +kernel, by decide +kernel, by decide +kernel⟩
abbrev rm_X12_move : Room := { frames := 2, cells := 0, slots := 0, locals := 43 }
set_option maxRecDepth 100000 in
theorem F_X12_depth : hp_Fv RX12 yX12_depth cX12_depth 2 (some .int) 1 := ⟨hp_in (List.mem_append_right _ (List.mem_append_right _ (List.mem_append_right _ (List.mem_append_right _ (List.mem_append_right _ (List.mem_append_right _ (List.mem_append_right _ (List.mem_of_getElem? (i := 40) (by decide +kernel))))))))) rfl, hp_in (List.mem_append_right _ (List.mem_append_right _ (List.mem_append_right _ (List.mem_append_right _ (List.mem_append_right _ (List.mem_append_right _ (List.mem_append_right _ (List.mem_of_getElem? (i := 41) (by decide +kernel))))))))) rfl, hp_in (List.mem_append_right _ (List.mem_append_left _ (List.mem_of_getElem? (i := 13) (by decide +kernel)))) rfl, hp_in (List.mem_append_right _ (List.mem_append_right _ (List.mem_append_right _ (List.mem_append_right _ (List.mem_append_right _ (List.mem_append_right _ (List.mem_append_right _ (List.mem_of_getElem? (i := 42) rfl)))))))) rfl, by decide +kernel, by decide +kernel, by decide +kernel⟩
abbrev rm_X12_depth : Room := { frames := 2, cells := 0, slots := 0, locals := 43 }
set_option maxRecDepth 100000 in
theorem F_X12_came : hp_Fv RX12 yX12_came cX12_came 3 (some .int) 2 := ⟨hp_in (List.mem_append_right _ (List.mem_append_right _ (List.mem_append_right _ (List.mem_append_right _ (List.mem_append_right _ (List.mem_append_right _ (List.mem_append_right _ (List.mem_of_getElem? (i := 44) (by decide +kernel))))))))) rfl, hp_in (List.mem_append_right _ (List.mem_append_right _ (List.mem_append_right _ (List.mem_append_right _ (List.mem_append_right _ (List.mem_append_right _ (List.mem_append_right _ (List.mem_of_getElem? (i := 45) (by decide +kernel))))))))) rfl, hp_in (List.mem_append_right _ (List.mem_append_left _ (List.mem_of_getElem? (i := 13) (by decide +kernel)))) rfl, hp_in (List.mem_append_right _ (List.mem_append_right _ (List.mem_append_right _ (List.mem_append_right _ (List.mem_append_right _ (List.mem_append_right _ (List.mem_append_right _ (List.mem_of_getElem? (i := 46) rfl)))))))) rfl, by decide +kernel, by decide +kernel, by decide +kernel⟩
abbrev rm_X12_came : Room := { frames := 2, cells := 0, slots := 0, locals := 43 }
set_option maxRecDepth 100000 in
theorem F_X12_isStuck : hp_Fv RX12 yX12_isStuck cX12_isStuck 4 (some .boolean) 1 := ⟨hp_in (List.mem_append_right _ (List.mem_append_right _ (List.mem_append_right _ (List.mem_append_right _ (List.mem_append_right _ (List.mem_append_right _ (List.mem_append_right _ (List.mem_of_getElem? (i := 53) (by decide +kernel))))))))) rfl, hp_in (List.mem_append_left _ (List.mem_of_getElem? (i := 61) (by decide +kernel))) rfl, hp_in (List.mem_append_right _ (List.mem_append_left _ (List.mem_of_getElem? (i := 13) (by decide +kernel)))) rfl, hp_in (List.mem_append_right _ (List.mem_append_right _ (List.mem_append_right _ (List.mem_append_right _ (List.mem_append_right _ (List.mem_append_right _ (List.mem_append_right _ (List.mem_of_getElem? (i := 54) rfl)))))))) rfl, by decide +kernel, by decide +kernel, by decide +kernel⟩
abbrev rm_X12_isStuck : Room := { frames := 1, cells := 0, slots := 0, locals := 22 }
set_option maxRecDepth 100000 in
theorem F_X12_stuck : hp_Fv RX12 yX12_stuck cX12_stuck 2 (some .int) 0 := ⟨hp_in (List.mem_append_right _ (List.mem_append_right _ (List.mem_append_right _ (List.mem_append_right _ (List.mem_append_right _ (List.mem_append_right _ (List.mem_append_right _ (List.mem_of_getElem? (i := 48) (by decide +kernel))))))))) rfl, hp_in (List.mem_append_right _ (List.mem_append_right _ (List.mem_append_right _ (List.mem_append_right _ (List.mem_append_right _ (List.mem_append_right _ (List.mem_append_right _ (List.mem_of_getElem? (i := 49) (by decide +kernel))))))))) rfl, hp_in (List.mem_append_right _ (List.mem_append_left _ (List.mem_of_getElem? (i := 13) (by decide +kernel)))) rfl, hp_in (List.mem_append_right _ (List.mem_append_right _ (List.mem_append_right _ (List.mem_append_right _ (List.mem_append_right _ (List.mem_append_right _ (List.mem_append_right _ (List.mem_of_getElem? (i := 50) rfl)))))))) rfl, by decide +kernel, by decide +kernel, by decide +kernel⟩
abbrev rm_X12_stuck : Room := { frames := 2, cells := 0, slots := 0, locals := 45 }
set_option maxRecDepth 100000 in
theorem F_X12_fault_ : hp_Fv RX12 yX12_fault_ cX12_fault_ 2 (some .int) 1 := ⟨hp_in (List.mem_append_right _ (List.mem_append_right _ (List.mem_append_right _ (List.mem_append_right _ (List.mem_append_right _ (List.mem_append_right _ (List.mem_append_right _ (List.mem_of_getElem? (i := 56) (by decide +kernel))))))))) rfl, hp_in (List.mem_append_right _ (List.mem_append_right _ (List.mem_append_right _ (List.mem_append_right _ (List.mem_append_right _ (List.mem_append_right _ (List.mem_append_right _ (List.mem_of_getElem? (i := 57) (by decide +kernel))))))))) rfl, hp_in (List.mem_append_right _ (List.mem_append_left _ (List.mem_of_getElem? (i := 13) (by decide +kernel)))) rfl, hp_in (List.mem_append_right _ (List.mem_append_right _ (List.mem_append_right _ (List.mem_append_right _ (List.mem_append_right _ (List.mem_append_right _ (List.mem_append_right _ (List.mem_of_getElem? (i := 58) rfl)))))))) rfl, by decide +kernel, by decide +kernel, by decide +kernel⟩
abbrev rm_X12_fault_ : Room := { frames := 1, cells := 0, slots := 0, locals := 22 }
set_option maxRecDepth 100000 in
theorem F_X12_always : hp_Fv RX12 yX12_always cX12_always 3 (some .int) 1 := ⟨hp_in (List.mem_append_right _ (List.mem_append_right _ (List.mem_append_right _ (List.mem_append_right _ (List.mem_append_right _ (List.mem_append_right _ (List.mem_append_right _ (List.mem_of_getElem? (i := 60) (by decide +kernel))))))))) rfl, hp_in (List.mem_append_right _ (List.mem_append_right _ (List.mem_append_right _ (List.mem_append_right _ (List.mem_append_right _ (List.mem_append_right _ (List.mem_append_right _ (List.mem_of_getElem? (i := 61) (by decide +kernel))))))))) rfl, hp_in (List.mem_append_right _ (List.mem_append_left _ (List.mem_of_getElem? (i := 13) (by decide +kernel)))) rfl, hp_in (List.mem_append_right _ (List.mem_append_right _ (List.mem_append_right _ (List.mem_append_right _ (List.mem_append_right _ (List.mem_append_right _ (List.mem_append_right _ (List.mem_of_getElem? (i := 62) rfl)))))))) rfl, by decide +kernel, by decide +kernel, by decide +kernel⟩
abbrev rm_X12_always : Room := { frames := 3, cells := 0, slots := 0, locals := 74 }
set_option maxRecDepth 100000 in
theorem F_X12_goAhead : hp_Fv RX12 yX12_goAhead cX12_goAhead 6 none 2 := ⟨hp_in (List.mem_append_right _ (List.mem_append_right _ (List.mem_append_right _ (List.mem_append_right _ (List.mem_append_right _ (List.mem_append_right _ (List.mem_append_right _ (List.mem_of_getElem? (i := 77) (by decide +kernel))))))))) rfl, hp_in (List.mem_append_left _ (List.mem_of_getElem? (i := 64) (by decide +kernel))) rfl, hp_in (List.mem_append_right _ (List.mem_append_left _ (List.mem_of_getElem? (i := 13) (by decide +kernel)))) rfl, hp_in (List.mem_append_right _ (List.mem_append_right _ (List.mem_append_right _ (List.mem_append_right _ (List.mem_append_right _ (List.mem_append_right _ (List.mem_append_right _ (List.mem_of_getElem? (i := 78) rfl)))))))) rfl, by decide +kernel, by decide +kernel, by decide +kernel⟩
abbrev rm_X12_goAhead : Room := { frames := 0, cells := 0, slots := 0, locals := 0 }
set_option maxRecDepth 100000 in
theorem F_X12_goBack : hp_Fv RX12 yX12_goBack cX12_goBack 6 none 2 := ⟨hp_in (List.mem_append_right _ (List.mem_append_right _ (List.mem_append_right _ (List.mem_append_right _ (List.mem_append_right _ (List.mem_append_right _ (List.mem_append_right _ (List.mem_of_getElem? (i := 81) (by decide +kernel))))))))) rfl, hp_in (List.mem_append_left _ (List.mem_of_getElem? (i := 65) (by decide +kernel))) rfl, hp_in (List.mem_append_right _ (List.mem_append_left _ (List.mem_of_getElem? (i := 13) (by decide +kernel)))) rfl, hp_in (List.mem_append_right _ (List.mem_append_right _ (List.mem_append_right _ (List.mem_append_right _ (List.mem_append_right _ (List.mem_append_right _ (List.mem_append_right _ (List.mem_of_getElem? (i := 82) rfl)))))))) rfl, by decide +kernel, by decide +kernel, by decide +kernel⟩
abbrev rm_X12_goBack : Room := { frames := 0, cells := 0, slots := 0, locals := 0 }
set_option maxRecDepth 100000 in
theorem F_X12_hasTurn : hp_Fv RX12 yX12_hasTurn cX12_hasTurn 7 (some .boolean) 2 := ⟨hp_in (List.mem_append_right _ (List.mem_append_right _ (List.mem_append_right _ (List.mem_append_right _ (List.mem_append_right _ (List.mem_append_right _ (List.mem_append_right _ (List.mem_of_getElem? (i := 93) (by decide +kernel))))))))) rfl, hp_in (List.mem_append_left _ (List.mem_of_getElem? (i := 68) (by decide +kernel))) rfl, hp_in (List.mem_append_right _ (List.mem_append_left _ (List.mem_of_getElem? (i := 13) (by decide +kernel)))) rfl, hp_in (List.mem_append_right _ (List.mem_append_right _ (List.mem_append_right _ (List.mem_append_right _ (List.mem_append_right _ (List.mem_append_right _ (List.mem_append_right _ (List.mem_of_getElem? (i := 94) rfl)))))))) rfl, by decide +kernel, by decide +kernel, by decide +kernel⟩
abbrev rm_X12_hasTurn : Room := { frames := 0, cells := 0, slots := 0, locals := 0 }
set_option maxRecDepth 100000 in
theorem F_X12_isFair : hp_Fv RX12 yX12_isFair cX12_isFair 3 (some .boolean) 0 := ⟨hp_in (List.mem_append_right _ (List.mem_append_right _ (List.mem_append_right _ (List.mem_append_right _ (List.mem_append_right _ (List.mem_append_right _ (List.mem_append_right _ (List.mem_of_getElem? (i := 89) (by decide +kernel))))))))) rfl, hp_in (List.mem_append_left _ (List.mem_of_getElem? (i := 67) (by decide +kernel))) rfl, hp_in (List.mem_append_right _ (List.mem_append_left _ (List.mem_of_getElem? (i := 13) (by decide +kernel)))) rfl, hp_in (List.mem_append_right _ (List.mem_append_right _ (List.mem_append_right _ (List.mem_append_right _ (List.mem_append_right _ (List.mem_append_right _ (List.mem_append_right _ (List.mem_of_getElem? (i := 90) rfl)))))))) rfl, by decide +kernel, by decide +kernel, by decide +kernel⟩
abbrev rm_X12_isFair : Room := { frames := 1, cells := 0, slots := 0, locals := 26 }
set_option maxRecDepth 100000 in
theorem F_X12_hasMove : hp_Fv RX12 yX12_hasMove cX12_hasMove 3 (some .boolean) 0 := ⟨hp_in (List.mem_append_right _ (List.mem_append_right _ (List.mem_append_right _ (List.mem_append_right _ (List.mem_append_right _ (List.mem_append_right _ (List.mem_append_right _ (List.mem_of_getElem? (i := 85) (by decide +kernel))))))))) rfl, hp_in (List.mem_append_left _ (List.mem_of_getElem? (i := 66) (by decide +kernel))) rfl, hp_in (List.mem_append_right _ (List.mem_append_left _ (List.mem_of_getElem? (i := 13) (by decide +kernel)))) rfl, hp_in (List.mem_append_right _ (List.mem_append_right _ (List.mem_append_right _ (List.mem_append_right _ (List.mem_append_right _ (List.mem_append_right _ (List.mem_append_right _ (List.mem_of_getElem? (i := 86) rfl)))))))) rfl, by decide +kernel, by decide +kernel, by decide +kernel⟩
abbrev rm_X12_hasMove : Room := { frames := 0, cells := 0, slots := 0, locals := 0 }
set_option maxRecDepth 100000 in
theorem F_X12_findKnots : hp_Fv RX12 yX12_findKnots cX12_findKnots 5 none 1 := ⟨hp_in (List.mem_append_right _ (List.mem_append_right _ (List.mem_append_right _ (List.mem_append_right _ (List.mem_append_right _ (List.mem_append_right _ (List.mem_append_right _ (List.mem_of_getElem? (i := 73) (by decide +kernel))))))))) rfl, hp_in (List.mem_append_left _ (List.mem_of_getElem? (i := 63) (by decide +kernel))) rfl, hp_in (List.mem_append_right _ (List.mem_append_left _ (List.mem_of_getElem? (i := 13) (by decide +kernel)))) rfl, hp_in (List.mem_append_right _ (List.mem_append_right _ (List.mem_append_right _ (List.mem_append_right _ (List.mem_append_right _ (List.mem_append_right _ (List.mem_append_right _ (List.mem_of_getElem? (i := 74) rfl)))))))) rfl, by decide +kernel, by decide +kernel, by decide +kernel⟩
abbrev rm_X12_findKnots : Room := { frames := 2, cells := 0, slots := 0, locals := 48 }
set_option maxRecDepth 100000 in
theorem F_X12_takeWhereNot : hp_Fv RX12 yX12_takeWhereNot cX12_takeWhereNot 3 none 1 := ⟨hp_in (List.mem_append_right _ (List.mem_append_right _ (List.mem_append_right _ (List.mem_append_right _ (List.mem_append_right _ (List.mem_append_right _ (List.mem_append_right _ (List.mem_of_getElem? (i := 69) (by decide +kernel))))))))) rfl, hp_in (List.mem_append_left _ (List.mem_of_getElem? (i := 62) (by decide +kernel))) rfl, hp_in (List.mem_append_right _ (List.mem_append_left _ (List.mem_of_getElem? (i := 13) (by decide +kernel)))) rfl, hp_in (List.mem_append_right _ (List.mem_append_right _ (List.mem_append_right _ (List.mem_append_right _ (List.mem_append_right _ (List.mem_append_right _ (List.mem_append_right _ (List.mem_of_getElem? (i := 70) rfl)))))))) rfl, by decide +kernel, by decide +kernel, by decide +kernel⟩
abbrev rm_X12_takeWhereNot : Room := { frames := 3, cells := 0, slots := 0, locals := 74 }
set_option maxRecDepth 100000 in
theorem F_X12_again : hp_Fv RX12 yX12_again cX12_again 4 (some .int) 2 := ⟨hp_in (List.mem_append_right _ (List.mem_append_right _ (List.mem_append_right _ (List.mem_append_right _ (List.mem_append_right _ (List.mem_append_right _ (List.mem_append_right _ (List.mem_of_getElem? (i := 64) (by decide +kernel))))))))) rfl, hp_in (List.mem_append_right _ (List.mem_append_right _ (List.mem_append_right _ (List.mem_append_right _ (List.mem_append_right _ (List.mem_append_right _ (List.mem_append_right _ (List.mem_of_getElem? (i := 65) (by decide +kernel))))))))) rfl, hp_in (List.mem_append_right _ (List.mem_append_left _ (List.mem_of_getElem? (i := 13) (by decide +kernel)))) rfl, hp_in (List.mem_append_right _ (List.mem_append_right _ (List.mem_append_right _ (List.mem_append_right _ (List.mem_append_right _ (List.mem_append_right _ (List.mem_append_right _ (List.mem_of_getElem? (i := 66) rfl)))))))) rfl, by decide +kernel, by decide +kernel, by decide +kernel⟩
abbrev rm_X12_again : Room := { frames := 4, cells := 0, slots := 0, locals := 96 }
set_option maxRecDepth 100000 in
theorem F_X12_fromTo : hp_Fv RX12 yX12_fromTo cX12_fromTo 6 (some .int) 3 := ⟨hp_in (List.mem_append_right _ (List.mem_append_right _ (List.mem_append_right _ (List.mem_append_right _ (List.mem_append_right _ (List.mem_append_right _ (List.mem_append_right _ (List.mem_of_getElem? (i := 96) (by decide +kernel))))))))) rfl, hp_in (List.mem_append_right _ (List.mem_append_right _ (List.mem_append_right _ (List.mem_append_right _ (List.mem_append_right _ (List.mem_append_right _ (List.mem_append_right _ (List.mem_of_getElem? (i := 97) (by decide +kernel))))))))) rfl, hp_in (List.mem_append_right _ (List.mem_append_left _ (List.mem_of_getElem? (i := 13) (by decide +kernel)))) rfl, hp_in (List.mem_append_right _ (List.mem_append_right _ (List.mem_append_right _ (List.mem_append_right _ (List.mem_append_right _ (List.mem_append_right _ (List.mem_append_right _ (List.mem_of_getElem? (i := 98) rfl)))))))) rfl, by decide +kernel, by decide +kernel, by decide +kernel⟩
abbrev rm_X12_fromTo : Room := { frames := 4, cells := 0, slots := 0, locals := 96 }
set_option maxRecDepth 100000 in
theorem F_X12_observe : hp_Fv RX12 yX12_observe cX12_observe 3 (some .int) 1 := ⟨hp_in (List.mem_append_right _ (List.mem_append_right _ (List.mem_append_right _ (List.mem_append_right _ (List.mem_append_right _ (List.mem_append_right _ (List.mem_append_right _ (List.mem_of_getElem? (i := 100) (by decide +kernel))))))))) rfl, hp_in (List.mem_append_right _ (List.mem_append_right _ (List.mem_append_right _ (List.mem_append_right _ (List.mem_append_right _ (List.mem_append_right _ (List.mem_append_right _ (List.mem_of_getElem? (i := 101) (by decide +kernel))))))))) rfl, hp_in (List.mem_append_right _ (List.mem_append_left _ (List.mem_of_getElem? (i := 13) (by decide +kernel)))) rfl, hp_in (List.mem_append_right _ (List.mem_append_right _ (List.mem_append_right _ (List.mem_append_right _ (List.mem_append_right _ (List.mem_append_right _ (List.mem_append_right _ (List.mem_of_getElem? (i := 102) rfl)))))))) rfl, by decide +kernel, by decide +kernel, by decide +kernel⟩
abbrev rm_X12_observe : Room := { frames := 2, cells := 0, slots := 0, locals := 43 }
set_option maxRecDepth 100000 in
theorem F_X12_isSeenAlike : hp_Fv RX12 yX12_isSeenAlike cX12_isSeenAlike 5 (some .boolean) 2 := ⟨hp_in (List.mem_append_right _ (List.mem_append_right _ (List.mem_append_right _ (List.mem_append_right _ (List.mem_append_right _ (List.mem_append_right _ (List.mem_append_right _ (List.mem_of_getElem? (i := 113) (by decide +kernel))))))))) rfl, hp_in (List.mem_append_left _ (List.mem_of_getElem? (i := 70) (by decide +kernel))) rfl, hp_in (List.mem_append_right _ (List.mem_append_left _ (List.mem_of_getElem? (i := 13) (by decide +kernel)))) rfl, hp_in (List.mem_append_right _ (List.mem_append_right _ (List.mem_append_right _ (List.mem_append_right _ (List.mem_append_right _ (List.mem_append_right _ (List.mem_append_right _ (List.mem_of_getElem? (i := 114) rfl)))))))) rfl, by decide +kernel, by decide +kernel, by decide +kernel⟩
abbrev rm_X12_isSeenAlike : Room := { frames := 0, cells := 0, slots := 0, locals := 0 }
set_option maxRecDepth 100000 in
theorem F_X12_findSigns : hp_Fv RX12 yX12_findSigns cX12_findSigns 4 none 0 := ⟨hp_in (List.mem_append_right _ (List.mem_append_right _ (List.mem_append_right _ (List.mem_append_right _ (List.mem_append_right _ (List.mem_append_right _ (List.mem_append_right _ (List.mem_of_getElem? (i := 117) (by decide +kernel))))))))) rfl, hp_in (List.mem_append_left _ (List.mem_of_getElem? (i := 71) (by decide +kernel))) rfl, hp_in (List.mem_append_right _ (List.mem_append_left _ (List.mem_of_getElem? (i := 13) (by decide +kernel)))) rfl, hp_in (List.mem_append_right _ (List.mem_append_right _ (List.mem_append_right _ (List.mem_append_right _ (List.mem_append_right _ (List.mem_append_right _ (List.mem_append_right _ (List.mem_of_getElem? (i := 118) rfl)))))))) rfl, by decide +kernel, by decide +kernel, by decide +kernel⟩
abbrev rm_X12_findSigns : Room := { frames := 0, cells := 0, slots := 0, locals := 0 }
set_option maxRecDepth 100000 in
theorem F_X12_hasSameSigns : hp_Fv RX12 yX12_hasSameSigns cX12_hasSameSigns 5 (some .boolean) 2 := ⟨hp_in (List.mem_append_right _ (List.mem_append_right _ (List.mem_append_right _ (List.mem_append_right _ (List.mem_append_right _ (List.mem_append_right _ (List.mem_append_right _ (List.mem_of_getElem? (i := 121) (by decide +kernel))))))))) rfl, hp_in (List.mem_append_left _ (List.mem_of_getElem? (i := 72) (by decide +kernel))) rfl, hp_in (List.mem_append_right _ (List.mem_append_left _ (List.mem_of_getElem? (i := 13) (by decide +kernel)))) rfl, hp_in (List.mem_append_right _ (List.mem_append_right _ (List.mem_append_right _ (List.mem_append_right _ (List.mem_append_right _ (List.mem_append_right _ (List.mem_append_right _ (List.mem_of_getElem? (i := 122) rfl)))))))) rfl, by decide +kernel, by decide +kernel, by decide +kernel⟩
abbrev rm_X12_hasSameSigns : Room := { frames := 0, cells := 0, slots := 0, locals := 0 }
set_option maxRecDepth 100000 in
theorem F_X12_divide : hp_Fv RX12 yX12_divide cX12_divide 5 (some .int) 0 := ⟨hp_in (List.mem_append_right _ (List.mem_append_right _ (List.mem_append_right _ (List.mem_append_right _ (List.mem_append_right _ (List.mem_append_right _ (List.mem_append_right _ (List.mem_of_getElem? (i := 109) (by decide +kernel))))))))) rfl, hp_in (List.mem_append_left _ (List.mem_of_getElem? (i := 69) (by decide +kernel))) rfl, hp_in (List.mem_append_right _ (List.mem_append_left _ (List.mem_of_getElem? (i := 13) (by decide +kernel)))) rfl, hp_in (List.mem_append_right _ (List.mem_append_right _ (List.mem_append_right _ (List.mem_append_right _ (List.mem_append_right _ (List.mem_append_right _ (List.mem_append_right _ (List.mem_of_getElem? (i := 110) rfl)))))))) rfl, by decide +kernel, by decide +kernel, by decide +kernel⟩
abbrev rm_X12_divide : Room := { frames := 3, cells := 0, slots := 0, locals := 74 }
set_option maxRecDepth 100000 in
theorem F_X12_classes : hp_Fv RX12 yX12_classes cX12_classes 1 (some .int) 0 := ⟨hp_in (List.mem_append_right _ (List.mem_append_right _ (List.mem_append_right _ (List.mem_append_right _ (List.mem_append_right _ (List.mem_append_right _ (List.mem_append_right _ (List.mem_of_getElem? (i := 104) (by decide +kernel))))))))) rfl, hp_in (List.mem_append_right _ (List.mem_append_right _ (List.mem_append_right _ (List.mem_append_right _ (List.mem_append_right _ (List.mem_append_right _ (List.mem_append_right _ (List.mem_of_getElem? (i := 105) (by decide +kernel))))))))) rfl, hp_in (List.mem_append_right _ (List.mem_append_left _ (List.mem_of_getElem? (i := 13) (by decide +kernel)))) rfl, hp_in (List.mem_append_right _ (List.mem_append_right _ (List.mem_append_right _ (List.mem_append_right _ (List.mem_append_right _ (List.mem_append_right _ (List.mem_append_right _ (List.mem_of_getElem? (i := 106) rfl)))))))) rfl, by decide +kernel, by decide +kernel, by decide +kernel⟩
abbrev rm_X12_classes : Room := { frames := 4, cells := 0, slots := 0, locals := 98 }
set_option maxRecDepth 100000 in
theorem F_X12_classOf : hp_Fv RX12 yX12_classOf cX12_classOf 3 (some .int) 1 := ⟨hp_in (List.mem_append_right _ (List.mem_append_right _ (List.mem_append_right _ (List.mem_append_right _ (List.mem_append_right _ (List.mem_append_right _ (List.mem_append_right _ (List.mem_of_getElem? (i := 124) (by decide +kernel))))))))) rfl, hp_in (List.mem_append_right _ (List.mem_append_right _ (List.mem_append_right _ (List.mem_append_right _ (List.mem_append_right _ (List.mem_append_right _ (List.mem_append_right _ (List.mem_of_getElem? (i := 125) (by decide +kernel))))))))) rfl, hp_in (List.mem_append_right _ (List.mem_append_left _ (List.mem_of_getElem? (i := 13) (by decide +kernel)))) rfl, hp_in (List.mem_append_right _ (List.mem_append_right _ (List.mem_append_right _ (List.mem_append_right _ (List.mem_append_right _ (List.mem_append_right _ (List.mem_append_right _ (List.mem_of_getElem? (i := 126) rfl)))))))) rfl, by decide +kernel, by decide +kernel, by decide +kernel⟩
abbrev rm_X12_classOf : Room := { frames := 4, cells := 0, slots := 0, locals := 98 }
set_option maxRecDepth 100000 in
theorem F_X12_count : hp_Fv RX12 yX12_count cX12_count 2 (some .int) 1 := ⟨hp_in (List.mem_append_right _ (List.mem_append_right _ (List.mem_append_right _ (List.mem_append_right _ (List.mem_append_right _ (List.mem_append_right _ (List.mem_append_right _ (List.mem_of_getElem? (i := 128) (by decide +kernel))))))))) rfl, hp_in (List.mem_append_right _ (List.mem_append_right _ (List.mem_append_right _ (List.mem_append_right _ (List.mem_append_right _ (List.mem_append_right _ (List.mem_append_right _ (List.mem_of_getElem? (i := 129) (by decide +kernel))))))))) rfl, hp_in (List.mem_append_right _ (List.mem_append_left _ (List.mem_of_getElem? (i := 13) (by decide +kernel)))) rfl, hp_in (List.mem_append_right _ (List.mem_append_right _ (List.mem_append_right _ (List.mem_append_right _ (List.mem_append_right _ (List.mem_append_right _ (List.mem_append_right _ (List.mem_of_getElem? (i := 130) rfl)))))))) rfl, by decide +kernel, by decide +kernel, by decide +kernel⟩
abbrev rm_X12_count : Room := { frames := 0, cells := 0, slots := 0, locals := 0 }
