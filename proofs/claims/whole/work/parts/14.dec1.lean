/-! the bytes are these instructions, 1 -/
theorem mm_dk59 : mm_dck cX12_minuteGoes P_X12_minuteGoes = true := by decide +kernel
theorem mm_dk60 : mm_dck cX12_goes P_X12_goes = true := by decide +kernel
theorem mm_dk61 : mm_dck cX12_numberOf P_X12_numberOf = true := by decide +kernel
theorem mm_dk62 : mm_dck cX12_numberNow P_X12_numberNow = true := by decide +kernel
theorem mm_dk63 : mm_dck cX12_loads P_X12_loads = true := by decide +kernel
theorem mm_dk64_0 : mm_dck cX12_fillsFrom ((P_X12_fillsFrom.drop 0).take 60) = true := by decide +kernel
theorem mm_dk64_60 : mm_dck cX12_fillsFrom ((P_X12_fillsFrom.drop 60).take 60) = true := by decide +kernel
set_option maxRecDepth 100000 in
theorem mm_dk64 : mm_dck cX12_fillsFrom P_X12_fillsFrom = true := by
  have e : P_X12_fillsFrom = P_X12_fillsFrom.drop 0 := rfl
  rw [e]
  rw [mm_splitn 0 60]
  refine mm_dapp mm_dk64_0 ?_
  rw [mm_splitn 60 60]
  refine mm_dapp mm_dk64_60 ?_
  exact rfl
theorem mm_dk65 : mm_dck cX12_fillsThen P_X12_fillsThen = true := by decide +kernel
theorem mm_dk66 : mm_dck cX12_isStanding P_X12_isStanding = true := by decide +kernel
theorem mm_dk67_0 : mm_dck cX12_wonAt ((P_X12_wonAt.drop 0).take 60) = true := by decide +kernel
theorem mm_dk67_60 : mm_dck cX12_wonAt ((P_X12_wonAt.drop 60).take 60) = true := by decide +kernel
set_option maxRecDepth 100000 in
theorem mm_dk67 : mm_dck cX12_wonAt P_X12_wonAt = true := by
  have e : P_X12_wonAt = P_X12_wonAt.drop 0 := rfl
  rw [e]
  rw [mm_splitn 0 60]
  refine mm_dapp mm_dk67_0 ?_
  rw [mm_splitn 60 60]
  refine mm_dapp mm_dk67_60 ?_
  exact rfl
theorem mm_dk68_0 : mm_dck cX12_fillsWho ((P_X12_fillsWho.drop 0).take 60) = true := by decide +kernel
theorem mm_dk68_60 : mm_dck cX12_fillsWho ((P_X12_fillsWho.drop 60).take 60) = true := by decide +kernel
set_option maxRecDepth 100000 in
theorem mm_dk68 : mm_dck cX12_fillsWho P_X12_fillsWho = true := by
  have e : P_X12_fillsWho = P_X12_fillsWho.drop 0 := rfl
  rw [e]
  rw [mm_splitn 0 60]
  refine mm_dapp mm_dk68_0 ?_
  rw [mm_splitn 60 60]
  refine mm_dapp mm_dk68_60 ?_
  exact rfl
theorem mm_dk69 : mm_dck cX12_speaker P_X12_speaker = true := by decide +kernel
theorem mm_dk70 : mm_dck cX12_word P_X12_word = true := by decide +kernel
theorem mm_dk71 : mm_dck cX12_records P_X12_records = true := by decide +kernel
theorem mm_dk72 : mm_dck cX12_say P_X12_say = true := by decide +kernel
theorem mm_dk73 : mm_dck cX12_canPass P_X12_canPass = true := by decide +kernel
theorem mm_dk74 : mm_dck cX12_pass P_X12_pass = true := by decide +kernel
theorem mm_dk75_0 : mm_dck cX12_hire ((P_X12_hire.drop 0).take 60) = true := by decide +kernel
theorem mm_dk75_60 : mm_dck cX12_hire ((P_X12_hire.drop 60).take 60) = true := by decide +kernel
set_option maxRecDepth 100000 in
theorem mm_dk75 : mm_dck cX12_hire P_X12_hire = true := by
  have e : P_X12_hire = P_X12_hire.drop 0 := rfl
  rw [e]
  rw [mm_splitn 0 60]
  refine mm_dapp mm_dk75_0 ?_
  rw [mm_splitn 60 60]
  refine mm_dapp mm_dk75_60 ?_
  exact rfl
theorem mm_dk76 : mm_dck cX12_set P_X12_set = true := by decide +kernel
theorem mm_dk77 : mm_dck cX12_isLong P_X12_isLong = true := by decide +kernel
theorem mm_dk78 : mm_dck cX12_minutes P_X12_minutes = true := by decide +kernel
theorem mm_dk79 : mm_dck cX12_undo P_X12_undo = true := by decide +kernel
theorem mm_dk80 : mm_dck cX12_who P_X12_who = true := by decide +kernel
theorem mm_dk81 : mm_dck cX12_soon P_X12_soon = true := by decide +kernel
theorem mm_dk82 : mm_dck cX12_worthOf P_X12_worthOf = true := by decide +kernel
theorem mm_dk83 : mm_dck cX12_best P_X12_best = true := by decide +kernel
theorem mm_dk84 : mm_dck cX12_hangs P_X12_hangs = true := by decide +kernel
theorem mm_dk85 : mm_dck cX12_scale P_X12_scale = true := by decide +kernel
theorem mm_dk86 : mm_dck cX12_isCalm P_X12_isCalm = true := by decide +kernel
theorem mm_dk87 : mm_dck cX12_keepsMore P_X12_keepsMore = true := by decide +kernel
theorem mm_dk88_0 : mm_dck cX12_together ((P_X12_together.drop 0).take 60) = true := by decide +kernel
theorem mm_dk88_60 : mm_dck cX12_together ((P_X12_together.drop 60).take 60) = true := by decide +kernel
set_option maxRecDepth 100000 in
theorem mm_dk88 : mm_dck cX12_together P_X12_together = true := by
  have e : P_X12_together = P_X12_together.drop 0 := rfl
  rw [e]
  rw [mm_splitn 0 60]
  refine mm_dapp mm_dk88_0 ?_
  rw [mm_splitn 60 60]
  refine mm_dapp mm_dk88_60 ?_
  exact rfl
theorem mm_dk89_0 : mm_dck cX12_evens ((P_X12_evens.drop 0).take 60) = true := by decide +kernel
theorem mm_dk89_60 : mm_dck cX12_evens ((P_X12_evens.drop 60).take 60) = true := by decide +kernel
set_option maxRecDepth 100000 in
theorem mm_dk89 : mm_dck cX12_evens P_X12_evens = true := by
  have e : P_X12_evens = P_X12_evens.drop 0 := rfl
  rw [e]
  rw [mm_splitn 0 60]
  refine mm_dapp mm_dk89_0 ?_
  rw [mm_splitn 60 60]
  refine mm_dapp mm_dk89_60 ?_
  exact rfl
theorem mm_dk90 : mm_dck cX12_even P_X12_even = true := by decide +kernel
theorem mm_dk91 : mm_dck cX12_isFew P_X12_isFew = true := by decide +kernel
theorem mm_dk92_0 : mm_dck cX12_rowsOf ((P_X12_rowsOf.drop 0).take 60) = true := by decide +kernel
theorem mm_dk92_60 : mm_dck cX12_rowsOf ((P_X12_rowsOf.drop 60).take 60) = true := by decide +kernel
set_option maxRecDepth 100000 in
theorem mm_dk92 : mm_dck cX12_rowsOf P_X12_rowsOf = true := by
  have e : P_X12_rowsOf = P_X12_rowsOf.drop 0 := rfl
  rw [e]
  rw [mm_splitn 0 60]
  refine mm_dapp mm_dk92_0 ?_
  rw [mm_splitn 60 60]
  refine mm_dapp mm_dk92_60 ?_
  exact rfl
theorem mm_dk93 : mm_dck cX12_ways P_X12_ways = true := by decide +kernel
theorem mm_dk94 : mm_dck cX12_waking P_X12_waking = true := by decide +kernel
theorem mm_dk95_0 : mm_dck cX12_goesThrough ((P_X12_goesThrough.drop 0).take 60) = true := by decide +kernel
theorem mm_dk95_60 : mm_dck cX12_goesThrough ((P_X12_goesThrough.drop 60).take 60) = true := by decide +kernel
set_option maxRecDepth 100000 in
theorem mm_dk95 : mm_dck cX12_goesThrough P_X12_goesThrough = true := by
  have e : P_X12_goesThrough = P_X12_goesThrough.drop 0 := rfl
  rw [e]
  rw [mm_splitn 0 60]
  refine mm_dapp mm_dk95_0 ?_
  rw [mm_splitn 60 60]
  refine mm_dapp mm_dk95_60 ?_
  exact rfl
theorem mm_dk96 : mm_dck cX12_ring P_X12_ring = true := by decide +kernel
theorem mm_dk97 : mm_dck cX12_reach P_X12_reach = true := by decide +kernel
theorem mm_dk98 : mm_dck cX12_slopes P_X12_slopes = true := by decide +kernel
theorem mm_dk99 : mm_dck cX12_calmOf P_X12_calmOf = true := by decide +kernel
theorem mm_dk100 : mm_dck cX12_calm P_X12_calm = true := by decide +kernel
theorem mm_dk101 : mm_dck cX12_fillsCalm P_X12_fillsCalm = true := by decide +kernel
theorem mm_dk102 : mm_dck cX12_lowestOf P_X12_lowestOf = true := by decide +kernel
theorem mm_dk103 : mm_dck cX12_isCouple P_X12_isCouple = true := by decide +kernel
theorem mm_dk104 : mm_dck cX12_couplesWith P_X12_couplesWith = true := by decide +kernel
theorem mm_dk105_0 : mm_dck cX12_fillsCouples ((P_X12_fillsCouples.drop 0).take 60) = true := by decide +kernel
theorem mm_dk105_60 : mm_dck cX12_fillsCouples ((P_X12_fillsCouples.drop 60).take 60) = true := by decide +kernel
set_option maxRecDepth 100000 in
theorem mm_dk105 : mm_dck cX12_fillsCouples P_X12_fillsCouples = true := by
  have e : P_X12_fillsCouples = P_X12_fillsCouples.drop 0 := rfl
  rw [e]
  rw [mm_splitn 0 60]
  refine mm_dapp mm_dk105_0 ?_
  rw [mm_splitn 60 60]
  refine mm_dapp mm_dk105_60 ?_
  exact rfl
theorem mm_dk106 : mm_dck cX12_coupleOf P_X12_coupleOf = true := by decide +kernel
theorem mm_dk107_0 : mm_dck cX12_couples ((P_X12_couples.drop 0).take 60) = true := by decide +kernel
theorem mm_dk107_60 : mm_dck cX12_couples ((P_X12_couples.drop 60).take 60) = true := by decide +kernel
set_option maxRecDepth 100000 in
theorem mm_dk107 : mm_dck cX12_couples P_X12_couples = true := by
  have e : P_X12_couples = P_X12_couples.drop 0 := rfl
  rw [e]
  rw [mm_splitn 0 60]
  refine mm_dapp mm_dk107_0 ?_
  rw [mm_splitn 60 60]
  refine mm_dapp mm_dk107_60 ?_
  exact rfl
theorem mm_dk108 : mm_dck cX12_wagesBoth P_X12_wagesBoth = true := by decide +kernel
theorem mm_dk109_0 : mm_dck cX12_cheapest ((P_X12_cheapest.drop 0).take 60) = true := by decide +kernel
theorem mm_dk109_60 : mm_dck cX12_cheapest ((P_X12_cheapest.drop 60).take 60) = true := by decide +kernel
set_option maxRecDepth 100000 in
theorem mm_dk109 : mm_dck cX12_cheapest P_X12_cheapest = true := by
  have e : P_X12_cheapest = P_X12_cheapest.drop 0 := rfl
  rw [e]
  rw [mm_splitn 0 60]
  refine mm_dapp mm_dk109_0 ?_
  rw [mm_splitn 60 60]
  refine mm_dapp mm_dk109_60 ?_
  exact rfl
theorem mm_dk110 : mm_dck cX12_slopeIn P_X12_slopeIn = true := by decide +kernel
theorem mm_dk111 : mm_dck cX12_year P_X12_year = true := by decide +kernel
theorem mm_dk112 : mm_dck cX12_tell P_X12_tell = true := by decide +kernel
theorem mm_dk113 : mm_dck cX12_forget P_X12_forget = true := by decide +kernel
theorem mm_dk114 : mm_dck cX12_sevens P_X12_sevens = true := by decide +kernel
theorem mm_dk115_0 : mm_dck cX12_doesFit ((P_X12_doesFit.drop 0).take 60) = true := by decide +kernel
theorem mm_dk115_60 : mm_dck cX12_doesFit ((P_X12_doesFit.drop 60).take 60) = true := by decide +kernel
set_option maxRecDepth 100000 in
theorem mm_dk115 : mm_dck cX12_doesFit P_X12_doesFit = true := by
  have e : P_X12_doesFit = P_X12_doesFit.drop 0 := rfl
  rw [e]
  rw [mm_splitn 0 60]
  refine mm_dapp mm_dk115_0 ?_
  rw [mm_splitn 60 60]
  refine mm_dapp mm_dk115_60 ?_
  exact rfl
theorem mm_dk116 : mm_dck cX12_isAsked P_X12_isAsked = true := by decide +kernel
theorem mm_dk117 : mm_dck cX12_rows P_X12_rows = true := by decide +kernel
theorem mm_dk118_0 : mm_dck cX12_listen ((P_X12_listen.drop 0).take 60) = true := by decide +kernel
theorem mm_dk118_60 : mm_dck cX12_listen ((P_X12_listen.drop 60).take 60) = true := by decide +kernel
set_option maxRecDepth 100000 in
theorem mm_dk118 : mm_dck cX12_listen P_X12_listen = true := by
  have e : P_X12_listen = P_X12_listen.drop 0 := rfl
  rw [e]
  rw [mm_splitn 0 60]
  refine mm_dapp mm_dk118_0 ?_
  rw [mm_splitn 60 60]
  refine mm_dapp mm_dk118_60 ?_
  exact rfl
theorem mm_dk119 : mm_dck cX12_hold P_X12_hold = true := by decide +kernel
theorem mm_dk120 : mm_dck cX12_restore P_X12_restore = true := by decide +kernel
theorem mm_dk121_0 : mm_dck cX12_count ((P_X12_count.drop 0).take 60) = true := by decide +kernel
theorem mm_dk121_60 : mm_dck cX12_count ((P_X12_count.drop 60).take 60) = true := by decide +kernel
set_option maxRecDepth 100000 in
theorem mm_dk121 : mm_dck cX12_count P_X12_count = true := by
  have e : P_X12_count = P_X12_count.drop 0 := rfl
  rw [e]
  rw [mm_splitn 0 60]
  refine mm_dapp mm_dk121_0 ?_
  rw [mm_splitn 60 60]
  refine mm_dapp mm_dk121_60 ?_
  exact rfl
theorem mm_dk122 : mm_dck cJ6_bitCount_0f7a4 P_J6_bitCount_0f7a4 = true := by decide +kernel
theorem mm_dk123 : mm_dck cJ7_fill_53178 P_J7_fill_53178 = true := by decide +kernel
theorem mm_dk124 : mm_dck cX0_init P_X0_init = true := by decide +kernel
theorem mm_dk125 : mm_dck cX0_foresee P_X0_foresee = true := by decide +kernel
theorem mm_dk126_0 : mm_dck cX0_spread ((P_X0_spread.drop 0).take 60) = true := by decide +kernel
theorem mm_dk126_60 : mm_dck cX0_spread ((P_X0_spread.drop 60).take 60) = true := by decide +kernel
set_option maxRecDepth 100000 in
theorem mm_dk126 : mm_dck cX0_spread P_X0_spread = true := by
  have e : P_X0_spread = P_X0_spread.drop 0 := rfl
  rw [e]
  rw [mm_splitn 0 60]
  refine mm_dapp mm_dk126_0 ?_
  rw [mm_splitn 60 60]
  refine mm_dapp mm_dk126_60 ?_
  exact rfl
