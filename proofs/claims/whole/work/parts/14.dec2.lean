/-! the bytes are these instructions, 2 -/
theorem mm_dk127 : mm_dck cX0_slopeBits P_X0_slopeBits = true := by decide +kernel
theorem mm_dk128 : mm_dck cX0_shortestRing P_X0_shortestRing = true := by decide +kernel
theorem mm_dk129_0 : mm_dck cX0_longestAsleep ((P_X0_longestAsleep.drop 0).take 60) = true := by decide +kernel
theorem mm_dk129_60 : mm_dck cX0_longestAsleep ((P_X0_longestAsleep.drop 60).take 60) = true := by decide +kernel
set_option maxRecDepth 100000 in
theorem mm_dk129 : mm_dck cX0_longestAsleep P_X0_longestAsleep = true := by
  have e : P_X0_longestAsleep = P_X0_longestAsleep.drop 0 := rfl
  rw [e]
  rw [mm_splitn 0 60]
  refine mm_dapp mm_dk129_0 ?_
  rw [mm_splitn 60 60]
  refine mm_dapp mm_dk129_60 ?_
  exact rfl
theorem mm_dk130 : mm_dck cX0_asleepTurns P_X0_asleepTurns = true := by decide +kernel
theorem mm_dk131 : mm_dck cX0_bestMove P_X0_bestMove = true := by decide +kernel
theorem mm_dk132 : mm_dck cX0_worthOf P_X0_worthOf = true := by decide +kernel
theorem mm_dk133_0 : mm_dck cX0_settle ((P_X0_settle.drop 0).take 60) = true := by decide +kernel
theorem mm_dk133_60 : mm_dck cX0_settle ((P_X0_settle.drop 60).take 60) = true := by decide +kernel
set_option maxRecDepth 100000 in
theorem mm_dk133 : mm_dck cX0_settle P_X0_settle = true := by
  have e : P_X0_settle = P_X0_settle.drop 0 := rfl
  rw [e]
  rw [mm_splitn 0 60]
  refine mm_dapp mm_dk133_0 ?_
  rw [mm_splitn 60 60]
  refine mm_dapp mm_dk133_60 ?_
  exact rfl
theorem mm_dk134_0 : mm_dck cX0_decide ((P_X0_decide.drop 0).take 60) = true := by decide +kernel
theorem mm_dk134_60 : mm_dck cX0_decide ((P_X0_decide.drop 60).take 60) = true := by decide +kernel
set_option maxRecDepth 100000 in
theorem mm_dk134 : mm_dck cX0_decide P_X0_decide = true := by
  have e : P_X0_decide = P_X0_decide.drop 0 := rfl
  rw [e]
  rw [mm_splitn 0 60]
  refine mm_dapp mm_dk134_0 ?_
  rw [mm_splitn 60 60]
  refine mm_dapp mm_dk134_60 ?_
  exact rfl
theorem mm_dk135 : mm_dck cX1_init P_X1_init = true := by decide +kernel
theorem mm_dk136 : mm_dck cX1_lift P_X1_lift = true := by decide +kernel
theorem mm_dk137 : mm_dck cX1_lay P_X1_lay = true := by decide +kernel
theorem mm_dk138_0 : mm_dck cX1_open ((P_X1_open.drop 0).take 60) = true := by decide +kernel
theorem mm_dk138_60 : mm_dck cX1_open ((P_X1_open.drop 60).take 60) = true := by decide +kernel
set_option maxRecDepth 100000 in
theorem mm_dk138 : mm_dck cX1_open P_X1_open = true := by
  have e : P_X1_open = P_X1_open.drop 0 := rfl
  rw [e]
  rw [mm_splitn 0 60]
  refine mm_dapp mm_dk138_0 ?_
  rw [mm_splitn 60 60]
  refine mm_dapp mm_dk138_60 ?_
  exact rfl
theorem mm_dk139 : mm_dck cX1_after P_X1_after = true := by decide +kernel
theorem mm_dk140 : mm_dck cX1_pushesOf P_X1_pushesOf = true := by decide +kernel
theorem mm_dk141 : mm_dck cX1_isBarred P_X1_isBarred = true := by decide +kernel
theorem mm_dk142 : mm_dck cX1_afterMinutes P_X1_afterMinutes = true := by decide +kernel
theorem mm_dk143 : mm_dck cX1_moveByLot P_X1_moveByLot = true := by decide +kernel
theorem mm_dk144 : mm_dck cX1_hasPair P_X1_hasPair = true := by decide +kernel
theorem mm_dk145 : mm_dck cX1_pushed P_X1_pushed = true := by decide +kernel
theorem mm_dk146 : mm_dck cX1_rested P_X1_rested = true := by decide +kernel
theorem mm_dk147 : mm_dck cX2_init P_X2_init = true := by decide +kernel
theorem mm_dk148 : mm_dck cX2_begin P_X2_begin = true := by decide +kernel
theorem mm_dk149 : mm_dck cX2_copyFrom P_X2_copyFrom = true := by decide +kernel
theorem mm_dk150 : mm_dck cX3_init P_X3_init = true := by decide +kernel
theorem mm_dk151 : mm_dck cX3_clear P_X3_clear = true := by decide +kernel
theorem mm_dk152 : mm_dck cX3_emit P_X3_emit = true := by decide +kernel
theorem mm_dk153 : mm_dck cX3_fill P_X3_fill = true := by decide +kernel
theorem mm_dk154_0 : mm_dck cX3_value ((P_X3_value.drop 0).take 60) = true := by decide +kernel
theorem mm_dk154_60 : mm_dck cX3_value ((P_X3_value.drop 60).take 60) = true := by decide +kernel
theorem mm_dk154_120 : mm_dck cX3_value ((P_X3_value.drop 120).take 60) = true := by decide +kernel
set_option maxRecDepth 100000 in
theorem mm_dk154 : mm_dck cX3_value P_X3_value = true := by
  have e : P_X3_value = P_X3_value.drop 0 := rfl
  rw [e]
  rw [mm_splitn 0 60]
  refine mm_dapp mm_dk154_0 ?_
  rw [mm_splitn 60 60]
  refine mm_dapp mm_dk154_60 ?_
  rw [mm_splitn 120 60]
  refine mm_dapp mm_dk154_120 ?_
  exact rfl
theorem mm_dk155 : mm_dck cX3_untold P_X3_untold = true := by decide +kernel
theorem mm_dk156 : mm_dck cX3_reckon P_X3_reckon = true := by decide +kernel
theorem mm_dk157 : mm_dck cX4_init P_X4_init = true := by decide +kernel
theorem mm_dk158 : mm_dck cX4_begin P_X4_begin = true := by decide +kernel
theorem mm_dk159 : mm_dck cX4_allow P_X4_allow = true := by decide +kernel
theorem mm_dk160 : mm_dck cX4_match P_X4_match = true := by decide +kernel
theorem mm_dk161_0 : mm_dck cX4_matchFrom ((P_X4_matchFrom.drop 0).take 60) = true := by decide +kernel
theorem mm_dk161_60 : mm_dck cX4_matchFrom ((P_X4_matchFrom.drop 60).take 60) = true := by decide +kernel
set_option maxRecDepth 100000 in
theorem mm_dk161 : mm_dck cX4_matchFrom P_X4_matchFrom = true := by
  have e : P_X4_matchFrom = P_X4_matchFrom.drop 0 := rfl
  rw [e]
  rw [mm_splitn 0 60]
  refine mm_dapp mm_dk161_0 ?_
  rw [mm_splitn 60 60]
  refine mm_dapp mm_dk161_60 ?_
  exact rfl
theorem mm_dk162 : mm_dck cX5_init P_X5_init = true := by decide +kernel
theorem mm_dk163 : mm_dck cX5_keep P_X5_keep = true := by decide +kernel
theorem mm_dk164 : mm_dck cX5_takeBack P_X5_takeBack = true := by decide +kernel
theorem mm_dk165 : mm_dck cX6_init P_X6_init = true := by decide +kernel
theorem mm_dk166_0 : mm_dck cX6_readInto ((P_X6_readInto.drop 0).take 60) = true := by decide +kernel
theorem mm_dk166_60 : mm_dck cX6_readInto ((P_X6_readInto.drop 60).take 60) = true := by decide +kernel
set_option maxRecDepth 100000 in
theorem mm_dk166 : mm_dck cX6_readInto P_X6_readInto = true := by
  have e : P_X6_readInto = P_X6_readInto.drop 0 := rfl
  rw [e]
  rw [mm_splitn 0 60]
  refine mm_dapp mm_dk166_0 ?_
  rw [mm_splitn 60 60]
  refine mm_dapp mm_dk166_60 ?_
  exact rfl
theorem mm_dk167 : mm_dck cX6_conclude P_X6_conclude = true := by decide +kernel
theorem mm_dk168 : mm_dck cX6_tellSpeaker P_X6_tellSpeaker = true := by decide +kernel
theorem mm_dk169 : mm_dck cX6_tellWord P_X6_tellWord = true := by decide +kernel
theorem mm_dk170 : mm_dck cX6_tellPair P_X6_tellPair = true := by decide +kernel
theorem mm_dk171 : mm_dck cX6_tellNumber P_X6_tellNumber = true := by decide +kernel
theorem mm_dk172_0 : mm_dck cX6_tellLaw ((P_X6_tellLaw.drop 0).take 60) = true := by decide +kernel
theorem mm_dk172_60 : mm_dck cX6_tellLaw ((P_X6_tellLaw.drop 60).take 60) = true := by decide +kernel
set_option maxRecDepth 100000 in
theorem mm_dk172 : mm_dck cX6_tellLaw P_X6_tellLaw = true := by
  have e : P_X6_tellLaw = P_X6_tellLaw.drop 0 := rfl
  rw [e]
  rw [mm_splitn 0 60]
  refine mm_dapp mm_dk172_0 ?_
  rw [mm_splitn 60 60]
  refine mm_dapp mm_dk172_60 ?_
  exact rfl
theorem mm_dk173 : mm_dck cX6_sum P_X6_sum = true := by decide +kernel
theorem mm_dk174 : mm_dck cX6_product P_X6_product = true := by decide +kernel
theorem mm_dk175_0 : mm_dck cX6_unit ((P_X6_unit.drop 0).take 60) = true := by decide +kernel
theorem mm_dk175_60 : mm_dck cX6_unit ((P_X6_unit.drop 60).take 60) = true := by decide +kernel
set_option maxRecDepth 100000 in
theorem mm_dk175 : mm_dck cX6_unit P_X6_unit = true := by
  have e : P_X6_unit = P_X6_unit.drop 0 := rfl
  rw [e]
  rw [mm_splitn 0 60]
  refine mm_dapp mm_dk175_0 ?_
  rw [mm_splitn 60 60]
  refine mm_dapp mm_dk175_60 ?_
  exact rfl
theorem mm_dk176 : mm_dck cX6_takeNewName P_X6_takeNewName = true := by decide +kernel
theorem mm_dk177 : mm_dck cX6_takeInt P_X6_takeInt = true := by decide +kernel
theorem mm_dk178 : mm_dck cX6_takeSpeaker P_X6_takeSpeaker = true := by decide +kernel
theorem mm_dk179 : mm_dck cX6_isTold P_X6_isTold = true := by decide +kernel
theorem mm_dk180 : mm_dck cX6_speakerNamed P_X6_speakerNamed = true := by decide +kernel
theorem mm_dk181 : mm_dck cX6_take P_X6_take = true := by decide +kernel
theorem mm_dk182 : mm_dck cX6_fail P_X6_fail = true := by decide +kernel
theorem mm_dk183 : mm_dck cX6_note P_X6_note = true := by decide +kernel
theorem mm_dk184 : mm_dck cX6_kind P_X6_kind = true := by decide +kernel
theorem mm_dk185 : mm_dck cX6_placeNow P_X6_placeNow = true := by decide +kernel
theorem mm_dk186 : mm_dck cX6_value P_X6_value = true := by decide +kernel
theorem mm_dk187 : mm_dck cX7_init P_X7_init = true := by decide +kernel
theorem mm_dk188 : mm_dck cX7_clear P_X7_clear = true := by decide +kernel
theorem mm_dk189 : mm_dck cX7_hasSpeaker P_X7_hasSpeaker = true := by decide +kernel
theorem mm_dk190 : mm_dck cX7_hasWord P_X7_hasWord = true := by decide +kernel
theorem mm_dk191 : mm_dck cX7_evenStanding P_X7_evenStanding = true := by decide +kernel
theorem mm_dk192 : mm_dck cX7_wagesOfBoth P_X7_wagesOfBoth = true := by decide +kernel
theorem mm_dk193_0 : mm_dck cX7_lawOf ((P_X7_lawOf.drop 0).take 60) = true := by decide +kernel
theorem mm_dk193_60 : mm_dck cX7_lawOf ((P_X7_lawOf.drop 60).take 60) = true := by decide +kernel
set_option maxRecDepth 100000 in
theorem mm_dk193 : mm_dck cX7_lawOf P_X7_lawOf = true := by
  have e : P_X7_lawOf = P_X7_lawOf.drop 0 := rfl
  rw [e]
  rw [mm_splitn 0 60]
  refine mm_dapp mm_dk193_0 ?_
  rw [mm_splitn 60 60]
  refine mm_dapp mm_dk193_60 ?_
  exact rfl
theorem mm_dk194 : mm_dck cX7_tongueOf P_X7_tongueOf = true := by decide +kernel
theorem mm_dk195 : mm_dck cX8_init P_X8_init = true := by decide +kernel
theorem mm_dk196 : mm_dck cX8_append P_X8_append = true := by decide +kernel
theorem mm_dk197 : mm_dck cX8_scan P_X8_scan = true := by decide +kernel
theorem mm_dk198 : mm_dck cX8_put P_X8_put = true := by decide +kernel
theorem mm_dk199 : mm_dck cX8_afterBlanks P_X8_afterBlanks = true := by decide +kernel
theorem mm_dk200 : mm_dck cX8_endOf P_X8_endOf = true := by decide +kernel
theorem mm_dk202 : mm_dck cX8_kindOfLetters P_X8_kindOfLetters = true := by decide +kernel
theorem mm_dk204 : mm_dck cX8_valueOf P_X8_valueOf = true := by decide +kernel
theorem mm_dk205 : mm_dck cX8_isBlank P_X8_isBlank = true := by decide +kernel
theorem mm_dk206 : mm_dck cX8_isLetter P_X8_isLetter = true := by decide +kernel
theorem mm_dk207 : mm_dck cX8_isDigit P_X8_isDigit = true := by decide +kernel
