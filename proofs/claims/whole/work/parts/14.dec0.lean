/-! the bytes are these instructions, 0 -/
theorem mm_dapp {c : ByteArray} {a b : List mm_En} (h1 : mm_dck c a = true) (h2 : mm_dck c b = true) : mm_dck c (a ++ b) = true := by
  unfold mm_dck at *
  rw [List.all_append, h1, h2]
  rfl
theorem mm_dk0_0 : mm_dck cX12_init ((P_X12_init.drop 0).take 27) = true := by decide +kernel
theorem mm_dk0_27 : mm_dck cX12_init ((P_X12_init.drop 27).take 27) = true := by decide +kernel
theorem mm_dk0_54 : mm_dck cX12_init ((P_X12_init.drop 54).take 27) = true := by decide +kernel
theorem mm_dk0_81 : mm_dck cX12_init ((P_X12_init.drop 81).take 27) = true := by decide +kernel
theorem mm_dk0_108 : mm_dck cX12_init ((P_X12_init.drop 108).take 27) = true := by decide +kernel
theorem mm_dk0_135 : mm_dck cX12_init ((P_X12_init.drop 135).take 27) = true := by decide +kernel
theorem mm_dk0_162 : mm_dck cX12_init ((P_X12_init.drop 162).take 27) = true := by decide +kernel
theorem mm_dk0_189 : mm_dck cX12_init ((P_X12_init.drop 189).take 27) = true := by decide +kernel
theorem mm_dk0_216 : mm_dck cX12_init ((P_X12_init.drop 216).take 27) = true := by decide +kernel
theorem mm_dk0_243 : mm_dck cX12_init ((P_X12_init.drop 243).take 27) = true := by decide +kernel
theorem mm_dk0_270 : mm_dck cX12_init ((P_X12_init.drop 270).take 27) = true := by decide +kernel
theorem mm_dk0_297 : mm_dck cX12_init ((P_X12_init.drop 297).take 27) = true := by decide +kernel
theorem mm_dk0_324 : mm_dck cX12_init ((P_X12_init.drop 324).take 27) = true := by decide +kernel
theorem mm_dk0_351 : mm_dck cX12_init ((P_X12_init.drop 351).take 27) = true := by decide +kernel
theorem mm_dk0_378 : mm_dck cX12_init ((P_X12_init.drop 378).take 27) = true := by decide +kernel
theorem mm_dk0_405 : mm_dck cX12_init ((P_X12_init.drop 405).take 27) = true := by decide +kernel
theorem mm_dk0_432 : mm_dck cX12_init ((P_X12_init.drop 432).take 27) = true := by decide +kernel
theorem mm_dk0_459 : mm_dck cX12_init ((P_X12_init.drop 459).take 27) = true := by decide +kernel
set_option maxRecDepth 100000 in
theorem mm_dk0 : mm_dck cX12_init P_X12_init = true := by
  have e : P_X12_init = P_X12_init.drop 0 := rfl
  rw [e]
  rw [mm_splitn 0 27]
  refine mm_dapp mm_dk0_0 ?_
  rw [mm_splitn 27 27]
  refine mm_dapp mm_dk0_27 ?_
  rw [mm_splitn 54 27]
  refine mm_dapp mm_dk0_54 ?_
  rw [mm_splitn 81 27]
  refine mm_dapp mm_dk0_81 ?_
  rw [mm_splitn 108 27]
  refine mm_dapp mm_dk0_108 ?_
  rw [mm_splitn 135 27]
  refine mm_dapp mm_dk0_135 ?_
  rw [mm_splitn 162 27]
  refine mm_dapp mm_dk0_162 ?_
  rw [mm_splitn 189 27]
  refine mm_dapp mm_dk0_189 ?_
  rw [mm_splitn 216 27]
  refine mm_dapp mm_dk0_216 ?_
  rw [mm_splitn 243 27]
  refine mm_dapp mm_dk0_243 ?_
  rw [mm_splitn 270 27]
  refine mm_dapp mm_dk0_270 ?_
  rw [mm_splitn 297 27]
  refine mm_dapp mm_dk0_297 ?_
  rw [mm_splitn 324 27]
  refine mm_dapp mm_dk0_324 ?_
  rw [mm_splitn 351 27]
  refine mm_dapp mm_dk0_351 ?_
  rw [mm_splitn 378 27]
  refine mm_dapp mm_dk0_378 ?_
  rw [mm_splitn 405 27]
  refine mm_dapp mm_dk0_405 ?_
  rw [mm_splitn 432 27]
  refine mm_dapp mm_dk0_432 ?_
  rw [mm_splitn 459 27]
  refine mm_dapp mm_dk0_459 ?_
  exact rfl
theorem mm_dk1 : mm_dck cX12_feed P_X12_feed = true := by decide +kernel
theorem mm_dk2 : mm_dck cX12_lays P_X12_lays = true := by decide +kernel
theorem mm_dk3 : mm_dck cX12_back P_X12_back = true := by decide +kernel
theorem mm_dk4 : mm_dck cX12_byteAt P_X12_byteAt = true := by decide +kernel
theorem mm_dk5 : mm_dck cX12_isDigit P_X12_isDigit = true := by decide +kernel
theorem mm_dk6 : mm_dck cX12_isLetter P_X12_isLetter = true := by decide +kernel
theorem mm_dk7 : mm_dck cX12_appends P_X12_appends = true := by decide +kernel
theorem mm_dk8 : mm_dck cX12_letters P_X12_letters = true := by decide +kernel
theorem mm_dk9 : mm_dck cX12_token P_X12_token = true := by decide +kernel
theorem mm_dk10_0 : mm_dck cX12_cut ((P_X12_cut.drop 0).take 60) = true := by decide +kernel
theorem mm_dk10_60 : mm_dck cX12_cut ((P_X12_cut.drop 60).take 60) = true := by decide +kernel
theorem mm_dk10_120 : mm_dck cX12_cut ((P_X12_cut.drop 120).take 60) = true := by decide +kernel
set_option maxRecDepth 100000 in
theorem mm_dk10 : mm_dck cX12_cut P_X12_cut = true := by
  have e : P_X12_cut = P_X12_cut.drop 0 := rfl
  rw [e]
  rw [mm_splitn 0 60]
  refine mm_dapp mm_dk10_0 ?_
  rw [mm_splitn 60 60]
  refine mm_dapp mm_dk10_60 ?_
  rw [mm_splitn 120 60]
  refine mm_dapp mm_dk10_120 ?_
  exact rfl
theorem mm_dk11 : mm_dck cX12_sign P_X12_sign = true := by decide +kernel
theorem mm_dk12 : mm_dck cX12_is P_X12_is = true := by decide +kernel
theorem mm_dk13 : mm_dck cX12_fail P_X12_fail = true := by decide +kernel
theorem mm_dk14 : mm_dck cX12_wrong P_X12_wrong = true := by decide +kernel
theorem mm_dk15 : mm_dck cX12_goesOn P_X12_goesOn = true := by decide +kernel
theorem mm_dk16 : mm_dck cX12_must P_X12_must = true := by decide +kernel
theorem mm_dk17 : mm_dck cX12_plain P_X12_plain = true := by decide +kernel
theorem mm_dk18_0 : mm_dck cX12_read ((P_X12_read.drop 0).take 60) = true := by decide +kernel
theorem mm_dk18_60 : mm_dck cX12_read ((P_X12_read.drop 60).take 60) = true := by decide +kernel
theorem mm_dk18_120 : mm_dck cX12_read ((P_X12_read.drop 120).take 60) = true := by decide +kernel
set_option maxRecDepth 100000 in
theorem mm_dk18 : mm_dck cX12_read P_X12_read = true := by
  have e : P_X12_read = P_X12_read.drop 0 := rfl
  rw [e]
  rw [mm_splitn 0 60]
  refine mm_dapp mm_dk18_0 ?_
  rw [mm_splitn 60 60]
  refine mm_dapp mm_dk18_60 ?_
  rw [mm_splitn 120 60]
  refine mm_dapp mm_dk18_120 ?_
  exact rfl
theorem mm_dk19 : mm_dck cX12_place P_X12_place = true := by decide +kernel
theorem mm_dk20 : mm_dck cX12_roomFor P_X12_roomFor = true := by decide +kernel
theorem mm_dk21_0 : mm_dck cX12_tellOne ((P_X12_tellOne.drop 0).take 54) = true := by decide +kernel
theorem mm_dk21_54 : mm_dck cX12_tellOne ((P_X12_tellOne.drop 54).take 54) = true := by decide +kernel
theorem mm_dk21_108 : mm_dck cX12_tellOne ((P_X12_tellOne.drop 108).take 54) = true := by decide +kernel
theorem mm_dk21_162 : mm_dck cX12_tellOne ((P_X12_tellOne.drop 162).take 54) = true := by decide +kernel
set_option maxRecDepth 100000 in
theorem mm_dk21 : mm_dck cX12_tellOne P_X12_tellOne = true := by
  have e : P_X12_tellOne = P_X12_tellOne.drop 0 := rfl
  rw [e]
  rw [mm_splitn 0 54]
  refine mm_dapp mm_dk21_0 ?_
  rw [mm_splitn 54 54]
  refine mm_dapp mm_dk21_54 ?_
  rw [mm_splitn 108 54]
  refine mm_dapp mm_dk21_108 ?_
  rw [mm_splitn 162 54]
  refine mm_dapp mm_dk21_162 ?_
  exact rfl
theorem mm_dk22 : mm_dck cX12_named P_X12_named = true := by decide +kernel
theorem mm_dk23 : mm_dck cX12_endsName P_X12_endsName = true := by decide +kernel
theorem mm_dk24 : mm_dck cX12_known P_X12_known = true := by decide +kernel
theorem mm_dk25 : mm_dck cX12_bounded P_X12_bounded = true := by decide +kernel
theorem mm_dk26_0 : mm_dck cX12_tellLaw ((P_X12_tellLaw.drop 0).take 60) = true := by decide +kernel
theorem mm_dk26_60 : mm_dck cX12_tellLaw ((P_X12_tellLaw.drop 60).take 60) = true := by decide +kernel
set_option maxRecDepth 100000 in
theorem mm_dk26 : mm_dck cX12_tellLaw P_X12_tellLaw = true := by
  have e : P_X12_tellLaw = P_X12_tellLaw.drop 0 := rfl
  rw [e]
  rw [mm_splitn 0 60]
  refine mm_dapp mm_dk26_0 ?_
  rw [mm_splitn 60 60]
  refine mm_dapp mm_dk26_60 ?_
  exact rfl
theorem mm_dk27 : mm_dck cX12_term P_X12_term = true := by decide +kernel
theorem mm_dk28 : mm_dck cX12_emit P_X12_emit = true := by decide +kernel
theorem mm_dk29 : mm_dck cX12_comesOut P_X12_comesOut = true := by decide +kernel
theorem mm_dk30_0 : mm_dck cX12_expression ((P_X12_expression.drop 0).take 60) = true := by decide +kernel
theorem mm_dk30_60 : mm_dck cX12_expression ((P_X12_expression.drop 60).take 60) = true := by decide +kernel
theorem mm_dk30_120 : mm_dck cX12_expression ((P_X12_expression.drop 120).take 60) = true := by decide +kernel
set_option maxRecDepth 100000 in
theorem mm_dk30 : mm_dck cX12_expression P_X12_expression = true := by
  have e : P_X12_expression = P_X12_expression.drop 0 := rfl
  rw [e]
  rw [mm_splitn 0 60]
  refine mm_dapp mm_dk30_0 ?_
  rw [mm_splitn 60 60]
  refine mm_dapp mm_dk30_60 ?_
  rw [mm_splitn 120 60]
  refine mm_dapp mm_dk30_120 ?_
  exact rfl
theorem mm_dk31 : mm_dck cX12_unit P_X12_unit = true := by decide +kernel
theorem mm_dk32_0 : mm_dck cX12_termOf ((P_X12_termOf.drop 0).take 60) = true := by decide +kernel
theorem mm_dk32_60 : mm_dck cX12_termOf ((P_X12_termOf.drop 60).take 60) = true := by decide +kernel
set_option maxRecDepth 100000 in
theorem mm_dk32 : mm_dck cX12_termOf P_X12_termOf = true := by
  have e : P_X12_termOf = P_X12_termOf.drop 0 := rfl
  rw [e]
  rw [mm_splitn 0 60]
  refine mm_dapp mm_dk32_0 ?_
  rw [mm_splitn 60 60]
  refine mm_dapp mm_dk32_60 ?_
  exact rfl
theorem mm_dk33 : mm_dck cX12_in P_X12_in = true := by decide +kernel
theorem mm_dk34 : mm_dck cX12_within P_X12_within = true := by decide +kernel
theorem mm_dk35 : mm_dck cX12_bits P_X12_bits = true := by decide +kernel
theorem mm_dk36 : mm_dck cX12_off P_X12_off = true := by decide +kernel
theorem mm_dk37 : mm_dck cX12_isSpeaker P_X12_isSpeaker = true := by decide +kernel
theorem mm_dk38 : mm_dck cX12_isWord P_X12_isWord = true := by decide +kernel
theorem mm_dk39 : mm_dck cX12_setsRow P_X12_setsRow = true := by decide +kernel
theorem mm_dk40 : mm_dck cX12_begins P_X12_begins = true := by decide +kernel
theorem mm_dk41 : mm_dck cX12_keepsRow P_X12_keepsRow = true := by decide +kernel
theorem mm_dk42 : mm_dck cX12_copies P_X12_copies = true := by decide +kernel
theorem mm_dk43 : mm_dck cX12_mixed P_X12_mixed = true := by decide +kernel
theorem mm_dk44 : mm_dck cX12_lotOf P_X12_lotOf = true := by decide +kernel
theorem mm_dk45_0 : mm_dck cX12_lawTells ((P_X12_lawTells.drop 0).take 60) = true := by decide +kernel
theorem mm_dk45_60 : mm_dck cX12_lawTells ((P_X12_lawTells.drop 60).take 60) = true := by decide +kernel
set_option maxRecDepth 100000 in
theorem mm_dk45 : mm_dck cX12_lawTells P_X12_lawTells = true := by
  have e : P_X12_lawTells = P_X12_lawTells.drop 0 := rfl
  rw [e]
  rw [mm_splitn 0 60]
  refine mm_dapp mm_dk45_0 ?_
  rw [mm_splitn 60 60]
  refine mm_dapp mm_dk45_60 ?_
  exact rfl
theorem mm_dk46 : mm_dck cX12_forceAt P_X12_forceAt = true := by decide +kernel
theorem mm_dk47_0 : mm_dck cX12_looks ((P_X12_looks.drop 0).take 60) = true := by decide +kernel
theorem mm_dk47_60 : mm_dck cX12_looks ((P_X12_looks.drop 60).take 60) = true := by decide +kernel
set_option maxRecDepth 100000 in
theorem mm_dk47 : mm_dck cX12_looks P_X12_looks = true := by
  have e : P_X12_looks = P_X12_looks.drop 0 := rfl
  rw [e]
  rw [mm_splitn 0 60]
  refine mm_dapp mm_dk47_0 ?_
  rw [mm_splitn 60 60]
  refine mm_dapp mm_dk47_60 ?_
  exact rfl
theorem mm_dk48 : mm_dck cX12_looksAt P_X12_looksAt = true := by decide +kernel
theorem mm_dk49 : mm_dck cX12_pushesOf P_X12_pushesOf = true := by decide +kernel
theorem mm_dk50 : mm_dck cX12_isBarred P_X12_isBarred = true := by decide +kernel
theorem mm_dk51 : mm_dck cX12_restsNow P_X12_restsNow = true := by decide +kernel
theorem mm_dk52 : mm_dck cX12_wagesOf P_X12_wagesOf = true := by decide +kernel
theorem mm_dk53 : mm_dck cX12_areThere P_X12_areThere = true := by decide +kernel
theorem mm_dk54 : mm_dck cX12_isAsleep P_X12_isAsleep = true := by decide +kernel
theorem mm_dk55 : mm_dck cX12_canSay P_X12_canSay = true := by decide +kernel
theorem mm_dk56 : mm_dck cX12_canBits P_X12_canBits = true := by decide +kernel
theorem mm_dk57 : mm_dck cX12_says P_X12_says = true := by decide +kernel
theorem mm_dk58 : mm_dck cX12_passes P_X12_passes = true := by decide +kernel
