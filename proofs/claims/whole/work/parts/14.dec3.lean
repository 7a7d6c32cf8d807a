/-! the bytes are these instructions, 3 -/
theorem mm_dk208 : mm_dck cX9_init P_X9_init = true := by decide +kernel
theorem mm_dk209 : mm_dck cX9_add P_X9_add = true := by decide +kernel
theorem mm_dk210 : mm_dck cX9_search P_X9_search = true := by decide +kernel
theorem mm_dk211 : mm_dck cX9_sharpest P_X9_sharpest = true := by decide +kernel
theorem mm_dk212 : mm_dck cX9_goOn P_X9_goOn = true := by decide +kernel
theorem mm_dk213 : mm_dck cX9_takeIn P_X9_takeIn = true := by decide +kernel
theorem mm_dk214 : mm_dck cX9_isWithinLength P_X9_isWithinLength = true := by decide +kernel
theorem mm_dk215 : mm_dck cX9_agrees P_X9_agrees = true := by decide +kernel
theorem mm_dk216 : mm_dck cX10_init P_X10_init = true := by decide +kernel
theorem mm_dk217 : mm_dck cX10_leastLean P_X10_leastLean = true := by decide +kernel
theorem mm_dk218 : mm_dck cX10_asleepRows P_X10_asleepRows = true := by decide +kernel
theorem mm_dk219 : mm_dck cX10_wakingRows P_X10_wakingRows = true := by decide +kernel
theorem mm_dk220 : mm_dck cX10_start P_X10_start = true := by decide +kernel
theorem mm_dk221_0 : mm_dck cX10_leanOn ((P_X10_leanOn.drop 0).take 60) = true := by decide +kernel
theorem mm_dk221_60 : mm_dck cX10_leanOn ((P_X10_leanOn.drop 60).take 60) = true := by decide +kernel
set_option maxRecDepth 100000 in
theorem mm_dk221 : mm_dck cX10_leanOn P_X10_leanOn = true := by
  have e : P_X10_leanOn = P_X10_leanOn.drop 0 := rfl
  rw [e]
  rw [mm_splitn 0 60]
  refine mm_dapp mm_dk221_0 ?_
  rw [mm_splitn 60 60]
  refine mm_dapp mm_dk221_60 ?_
  exact rfl
theorem mm_dk222_0 : mm_dck cX10_countOn ((P_X10_countOn.drop 0).take 60) = true := by decide +kernel
theorem mm_dk222_60 : mm_dck cX10_countOn ((P_X10_countOn.drop 60).take 60) = true := by decide +kernel
set_option maxRecDepth 100000 in
theorem mm_dk222 : mm_dck cX10_countOn P_X10_countOn = true := by
  have e : P_X10_countOn = P_X10_countOn.drop 0 := rfl
  rw [e]
  rw [mm_splitn 0 60]
  refine mm_dapp mm_dk222_0 ?_
  rw [mm_splitn 60 60]
  refine mm_dapp mm_dk222_60 ?_
  exact rfl
theorem mm_dk223 : mm_dck cX10_swap P_X10_swap = true := by decide +kernel
theorem mm_dk224_0 : mm_dck cX11_init ((P_X11_init.drop 0).take 60) = true := by decide +kernel
theorem mm_dk224_60 : mm_dck cX11_init ((P_X11_init.drop 60).take 60) = true := by decide +kernel
set_option maxRecDepth 100000 in
theorem mm_dk224 : mm_dck cX11_init P_X11_init = true := by
  have e : P_X11_init = P_X11_init.drop 0 := rfl
  rw [e]
  rw [mm_splitn 0 60]
  refine mm_dapp mm_dk224_0 ?_
  rw [mm_splitn 60 60]
  refine mm_dapp mm_dk224_60 ?_
  exact rfl
theorem mm_dk225 : mm_dck cX11_feed P_X11_feed = true := by decide +kernel
theorem mm_dk226 : mm_dck cX11_back P_X11_back = true := by decide +kernel
theorem mm_dk227 : mm_dck cX11_read P_X11_read = true := by decide +kernel
theorem mm_dk228 : mm_dck cX11_place P_X11_place = true := by decide +kernel
theorem mm_dk229 : mm_dck cX11_speaker P_X11_speaker = true := by decide +kernel
theorem mm_dk230 : mm_dck cX11_word P_X11_word = true := by decide +kernel
theorem mm_dk231 : mm_dck cX11_say P_X11_say = true := by decide +kernel
theorem mm_dk232 : mm_dck cX11_pass P_X11_pass = true := by decide +kernel
theorem mm_dk233_0 : mm_dck cX11_hire ((P_X11_hire.drop 0).take 60) = true := by decide +kernel
theorem mm_dk233_60 : mm_dck cX11_hire ((P_X11_hire.drop 60).take 60) = true := by decide +kernel
set_option maxRecDepth 100000 in
theorem mm_dk233 : mm_dck cX11_hire P_X11_hire = true := by
  have e : P_X11_hire = P_X11_hire.drop 0 := rfl
  rw [e]
  rw [mm_splitn 0 60]
  refine mm_dapp mm_dk233_0 ?_
  rw [mm_splitn 60 60]
  refine mm_dapp mm_dk233_60 ?_
  exact rfl
theorem mm_dk234 : mm_dck cX11_set P_X11_set = true := by decide +kernel
theorem mm_dk235 : mm_dck cX11_minutes P_X11_minutes = true := by decide +kernel
theorem mm_dk236 : mm_dck cX11_undo P_X11_undo = true := by decide +kernel
theorem mm_dk237 : mm_dck cX11_who P_X11_who = true := by decide +kernel
theorem mm_dk238 : mm_dck cX11_soon P_X11_soon = true := by decide +kernel
theorem mm_dk239 : mm_dck cX11_best P_X11_best = true := by decide +kernel
theorem mm_dk240 : mm_dck cX11_together P_X11_together = true := by decide +kernel
theorem mm_dk241 : mm_dck cX11_even P_X11_even = true := by decide +kernel
theorem mm_dk242 : mm_dck cX11_ways P_X11_ways = true := by decide +kernel
theorem mm_dk243 : mm_dck cX11_waking P_X11_waking = true := by decide +kernel
theorem mm_dk244 : mm_dck cX11_ring P_X11_ring = true := by decide +kernel
theorem mm_dk245 : mm_dck cX11_reach P_X11_reach = true := by decide +kernel
theorem mm_dk246 : mm_dck cX11_slopes P_X11_slopes = true := by decide +kernel
theorem mm_dk247 : mm_dck cX11_hangs P_X11_hangs = true := by decide +kernel
theorem mm_dk248 : mm_dck cX11_scale P_X11_scale = true := by decide +kernel
theorem mm_dk249 : mm_dck cX11_calm P_X11_calm = true := by decide +kernel
theorem mm_dk250_0 : mm_dck cX11_couples ((P_X11_couples.drop 0).take 60) = true := by decide +kernel
theorem mm_dk250_60 : mm_dck cX11_couples ((P_X11_couples.drop 60).take 60) = true := by decide +kernel
set_option maxRecDepth 100000 in
theorem mm_dk250 : mm_dck cX11_couples P_X11_couples = true := by
  have e : P_X11_couples = P_X11_couples.drop 0 := rfl
  rw [e]
  rw [mm_splitn 0 60]
  refine mm_dapp mm_dk250_0 ?_
  rw [mm_splitn 60 60]
  refine mm_dapp mm_dk250_60 ?_
  exact rfl
theorem mm_dk251_0 : mm_dck cX11_cheapest ((P_X11_cheapest.drop 0).take 60) = true := by decide +kernel
theorem mm_dk251_60 : mm_dck cX11_cheapest ((P_X11_cheapest.drop 60).take 60) = true := by decide +kernel
set_option maxRecDepth 100000 in
theorem mm_dk251 : mm_dck cX11_cheapest P_X11_cheapest = true := by
  have e : P_X11_cheapest = P_X11_cheapest.drop 0 := rfl
  rw [e]
  rw [mm_splitn 0 60]
  refine mm_dapp mm_dk251_0 ?_
  rw [mm_splitn 60 60]
  refine mm_dapp mm_dk251_60 ?_
  exact rfl
theorem mm_dk252 : mm_dck cX11_slopeIn P_X11_slopeIn = true := by decide +kernel
theorem mm_dk253 : mm_dck cX11_year P_X11_year = true := by decide +kernel
theorem mm_dk254 : mm_dck cX11_tell P_X11_tell = true := by decide +kernel
theorem mm_dk255 : mm_dck cX11_forget P_X11_forget = true := by decide +kernel
theorem mm_dk256 : mm_dck cX11_rows P_X11_rows = true := by decide +kernel
theorem mm_dk257 : mm_dck cX11_listen P_X11_listen = true := by decide +kernel
theorem mm_dk258 : mm_dck cX11_hold P_X11_hold = true := by decide +kernel
theorem mm_dk259 : mm_dck cX11_restore P_X11_restore = true := by decide +kernel
theorem mm_dk260_0 : mm_dck cX11_count ((P_X11_count.drop 0).take 60) = true := by decide +kernel
theorem mm_dk260_60 : mm_dck cX11_count ((P_X11_count.drop 60).take 60) = true := by decide +kernel
set_option maxRecDepth 100000 in
theorem mm_dk260 : mm_dck cX11_count P_X11_count = true := by
  have e : P_X11_count = P_X11_count.drop 0 := rfl
  rw [e]
  rw [mm_splitn 0 60]
  refine mm_dapp mm_dk260_0 ?_
  rw [mm_splitn 60 60]
  refine mm_dapp mm_dk260_60 ?_
  exact rfl
theorem mm_dk261 : mm_dck cX11_beginAnew P_X11_beginAnew = true := by decide +kernel
theorem mm_dk262 : mm_dck cX11_takeTurn P_X11_takeTurn = true := by decide +kernel
theorem mm_dk263 : mm_dck cX11_sayable P_X11_sayable = true := by decide +kernel
theorem mm_dk264 : mm_dck cX11_areTwo P_X11_areTwo = true := by decide +kernel
theorem mm_dk265 : mm_dck cX11_isKnown P_X11_isKnown = true := by decide +kernel
theorem mm_dk266 : mm_dck cX11_calmOf P_X11_calmOf = true := by decide +kernel
theorem mm_dk267 : mm_dck cX11_heldSlots P_X11_heldSlots = true := by decide +kernel
theorem mm_dk268 : mm_dck cX11_orNotThere P_X11_orNotThere = true := by decide +kernel
theorem mm_dk269 : mm_dck cX11_standingOf P_X11_standingOf = true := by decide +kernel
theorem mm_dk270 : mm_dck cX11_slopeOf P_X11_slopeOf = true := by decide +kernel
theorem mm_dk271 : mm_dck cX11_turnOf P_X11_turnOf = true := by decide +kernel
theorem mm_dk272 : mm_dck cX11_lastOf P_X11_lastOf = true := by decide +kernel
theorem mm_dk273 : mm_dck cX11_isAwake P_X11_isAwake = true := by decide +kernel
theorem mm_dk274 : mm_dck cX11_leanOf P_X11_leanOf = true := by decide +kernel
theorem mm_dk275 : mm_dck cX11_within P_X11_within = true := by decide +kernel
theorem mm_dk276 : mm_dck cX11_lot P_X11_lot = true := by decide +kernel
theorem mm_dk277 : mm_dck cX11_stir P_X11_stir = true := by decide +kernel
set_option maxRecDepth 100000 in
theorem mm_dc0 : ∀ t ∈ (mm_T.drop 0).take 24, mm_dck t.2.1 t.2.2.2.2.2 = true := List.forall_mem_cons.mpr ⟨mm_dk0, List.forall_mem_cons.mpr ⟨mm_dk1, List.forall_mem_cons.mpr ⟨mm_dk2, List.forall_mem_cons.mpr ⟨mm_dk3, List.forall_mem_cons.mpr ⟨mm_dk4, List.forall_mem_cons.mpr ⟨mm_dk5, List.forall_mem_cons.mpr ⟨mm_dk6, List.forall_mem_cons.mpr ⟨mm_dk7, List.forall_mem_cons.mpr ⟨mm_dk8, List.forall_mem_cons.mpr ⟨mm_dk9, List.forall_mem_cons.mpr ⟨mm_dk10, List.forall_mem_cons.mpr ⟨mm_dk11, List.forall_mem_cons.mpr ⟨mm_dk12, List.forall_mem_cons.mpr ⟨mm_dk13, List.forall_mem_cons.mpr ⟨mm_dk14, List.forall_mem_cons.mpr ⟨mm_dk15, List.forall_mem_cons.mpr ⟨mm_dk16, List.forall_mem_cons.mpr ⟨mm_dk17, List.forall_mem_cons.mpr ⟨mm_dk18, List.forall_mem_cons.mpr ⟨mm_dk19, List.forall_mem_cons.mpr ⟨mm_dk20, List.forall_mem_cons.mpr ⟨mm_dk21, List.forall_mem_cons.mpr ⟨mm_dk22, List.forall_mem_cons.mpr ⟨mm_dk23, fun _ h => absurd h List.not_mem_nil⟩⟩⟩⟩⟩⟩⟩⟩⟩⟩⟩⟩⟩⟩⟩⟩⟩⟩⟩⟩⟩⟩⟩⟩
set_option maxRecDepth 100000 in
theorem mm_dc24 : ∀ t ∈ (mm_T.drop 24).take 24, mm_dck t.2.1 t.2.2.2.2.2 = true := List.forall_mem_cons.mpr ⟨mm_dk24, List.forall_mem_cons.mpr ⟨mm_dk25, List.forall_mem_cons.mpr ⟨mm_dk26, List.forall_mem_cons.mpr ⟨mm_dk27, List.forall_mem_cons.mpr ⟨mm_dk28, List.forall_mem_cons.mpr ⟨mm_dk29, List.forall_mem_cons.mpr ⟨mm_dk30, List.forall_mem_cons.mpr ⟨mm_dk31, List.forall_mem_cons.mpr ⟨mm_dk32, List.forall_mem_cons.mpr ⟨mm_dk33, List.forall_mem_cons.mpr ⟨mm_dk34, List.forall_mem_cons.mpr ⟨mm_dk35, List.forall_mem_cons.mpr ⟨mm_dk36, List.forall_mem_cons.mpr ⟨mm_dk37, List.forall_mem_cons.mpr ⟨mm_dk38, List.forall_mem_cons.mpr ⟨mm_dk39, List.forall_mem_cons.mpr ⟨mm_dk40, List.forall_mem_cons.mpr ⟨mm_dk41, List.forall_mem_cons.mpr ⟨mm_dk42, List.forall_mem_cons.mpr ⟨mm_dk43, List.forall_mem_cons.mpr ⟨mm_dk44, List.forall_mem_cons.mpr ⟨mm_dk45, List.forall_mem_cons.mpr ⟨mm_dk46, List.forall_mem_cons.mpr ⟨mm_dk47, fun _ h => absurd h List.not_mem_nil⟩⟩⟩⟩⟩⟩⟩⟩⟩⟩⟩⟩⟩⟩⟩⟩⟩⟩⟩⟩⟩⟩⟩⟩
set_option maxRecDepth 100000 in
theorem mm_dc48 : ∀ t ∈ (mm_T.drop 48).take 24, mm_dck t.2.1 t.2.2.2.2.2 = true := List.forall_mem_cons.mpr ⟨mm_dk48, List.forall_mem_cons.mpr ⟨mm_dk49, List.forall_mem_cons.mpr ⟨mm_dk50, List.forall_mem_cons.mpr ⟨mm_dk51, List.forall_mem_cons.mpr ⟨mm_dk52, List.forall_mem_cons.mpr ⟨mm_dk53, List.forall_mem_cons.mpr ⟨mm_dk54, List.forall_mem_cons.mpr ⟨mm_dk55, List.forall_mem_cons.mpr ⟨mm_dk56, List.forall_mem_cons.mpr ⟨mm_dk57, List.forall_mem_cons.mpr ⟨mm_dk58, List.forall_mem_cons.mpr ⟨mm_dk59, List.forall_mem_cons.mpr ⟨mm_dk60, List.forall_mem_cons.mpr ⟨mm_dk61, List.forall_mem_cons.mpr ⟨mm_dk62, List.forall_mem_cons.mpr ⟨mm_dk63, List.forall_mem_cons.mpr ⟨mm_dk64, List.forall_mem_cons.mpr ⟨mm_dk65, List.forall_mem_cons.mpr ⟨mm_dk66, List.forall_mem_cons.mpr ⟨mm_dk67, List.forall_mem_cons.mpr ⟨mm_dk68, List.forall_mem_cons.mpr ⟨mm_dk69, List.forall_mem_cons.mpr ⟨mm_dk70, List.forall_mem_cons.mpr ⟨mm_dk71, fun _ h => absurd h List.not_mem_nil⟩⟩⟩⟩⟩⟩⟩⟩⟩⟩⟩⟩⟩⟩⟩⟩⟩⟩⟩⟩⟩⟩⟩⟩
set_option maxRecDepth 100000 in
theorem mm_dc72 : ∀ t ∈ (mm_T.drop 72).take 24, mm_dck t.2.1 t.2.2.2.2.2 = true := List.forall_mem_cons.mpr ⟨mm_dk72, List.forall_mem_cons.mpr ⟨mm_dk73, List.forall_mem_cons.mpr ⟨mm_dk74, List.forall_mem_cons.mpr ⟨mm_dk75, List.forall_mem_cons.mpr ⟨mm_dk76, List.forall_mem_cons.mpr ⟨mm_dk77, List.forall_mem_cons.mpr ⟨mm_dk78, List.forall_mem_cons.mpr ⟨mm_dk79, List.forall_mem_cons.mpr ⟨mm_dk80, List.forall_mem_cons.mpr ⟨mm_dk81, List.forall_mem_cons.mpr ⟨mm_dk82, List.forall_mem_cons.mpr ⟨mm_dk83, List.forall_mem_cons.mpr ⟨mm_dk84, List.forall_mem_cons.mpr ⟨mm_dk85, List.forall_mem_cons.mpr ⟨mm_dk86, List.forall_mem_cons.mpr ⟨mm_dk87, List.forall_mem_cons.mpr ⟨mm_dk88, List.forall_mem_cons.mpr ⟨mm_dk89, List.forall_mem_cons.mpr ⟨mm_dk90, List.forall_mem_cons.mpr ⟨mm_dk91, List.forall_mem_cons.mpr ⟨mm_dk92, List.forall_mem_cons.mpr ⟨mm_dk93, List.forall_mem_cons.mpr ⟨mm_dk94, List.forall_mem_cons.mpr ⟨mm_dk95, fun _ h => absurd h List.not_mem_nil⟩⟩⟩⟩⟩⟩⟩⟩⟩⟩⟩⟩⟩⟩⟩⟩⟩⟩⟩⟩⟩⟩⟩⟩
set_option maxRecDepth 100000 in
theorem mm_dc96 : ∀ t ∈ (mm_T.drop 96).take 24, mm_dck t.2.1 t.2.2.2.2.2 = true := List.forall_mem_cons.mpr ⟨mm_dk96, List.forall_mem_cons.mpr ⟨mm_dk97, List.forall_mem_cons.mpr ⟨mm_dk98, List.forall_mem_cons.mpr ⟨mm_dk99, List.forall_mem_cons.mpr ⟨mm_dk100, List.forall_mem_cons.mpr ⟨mm_dk101, List.forall_mem_cons.mpr ⟨mm_dk102, List.forall_mem_cons.mpr ⟨mm_dk103, List.forall_mem_cons.mpr ⟨mm_dk104, List.forall_mem_cons.mpr ⟨mm_dk105, List.forall_mem_cons.mpr ⟨mm_dk106, List.forall_mem_cons.mpr ⟨mm_dk107, List.forall_mem_cons.mpr ⟨mm_dk108, List.forall_mem_cons.mpr ⟨mm_dk109, List.forall_mem_cons.mpr ⟨mm_dk110, List.forall_mem_cons.mpr ⟨mm_dk111, List.forall_mem_cons.mpr ⟨mm_dk112, List.forall_mem_cons.mpr ⟨mm_dk113, List.forall_mem_cons.mpr ⟨mm_dk114, List.forall_mem_cons.mpr ⟨mm_dk115, List.forall_mem_cons.mpr ⟨mm_dk116, List.forall_mem_cons.mpr ⟨mm_dk117, List.forall_mem_cons.mpr ⟨mm_dk118, List.forall_mem_cons.mpr ⟨mm_dk119, fun _ h => absurd h List.not_mem_nil⟩⟩⟩⟩⟩⟩⟩⟩⟩⟩⟩⟩⟩⟩⟩⟩⟩⟩⟩⟩⟩⟩⟩⟩
set_option maxRecDepth 100000 in
theorem mm_dc120 : ∀ t ∈ (mm_T.drop 120).take 24, mm_dck t.2.1 t.2.2.2.2.2 = true := List.forall_mem_cons.mpr ⟨mm_dk120, List.forall_mem_cons.mpr ⟨mm_dk121, List.forall_mem_cons.mpr ⟨mm_dk122, List.forall_mem_cons.mpr ⟨mm_dk123, List.forall_mem_cons.mpr ⟨mm_dk124, List.forall_mem_cons.mpr ⟨mm_dk125, List.forall_mem_cons.mpr ⟨mm_dk126, List.forall_mem_cons.mpr ⟨mm_dk127, List.forall_mem_cons.mpr ⟨mm_dk128, List.forall_mem_cons.mpr ⟨mm_dk129, List.forall_mem_cons.mpr ⟨mm_dk130, List.forall_mem_cons.mpr ⟨mm_dk131, List.forall_mem_cons.mpr ⟨mm_dk132, List.forall_mem_cons.mpr ⟨mm_dk133, List.forall_mem_cons.mpr ⟨mm_dk134, List.forall_mem_cons.mpr ⟨mm_dk135, List.forall_mem_cons.mpr ⟨mm_dk136, List.forall_mem_cons.mpr ⟨mm_dk137, List.forall_mem_cons.mpr ⟨mm_dk138, List.forall_mem_cons.mpr ⟨mm_dk139, List.forall_mem_cons.mpr ⟨mm_dk140, List.forall_mem_cons.mpr ⟨mm_dk141, List.forall_mem_cons.mpr ⟨mm_dk142, List.forall_mem_cons.mpr ⟨mm_dk143, fun _ h => absurd h List.not_mem_nil⟩⟩⟩⟩⟩⟩⟩⟩⟩⟩⟩⟩⟩⟩⟩⟩⟩⟩⟩⟩⟩⟩⟩⟩
set_option maxRecDepth 100000 in
theorem mm_dc144 : ∀ t ∈ (mm_T.drop 144).take 24, mm_dck t.2.1 t.2.2.2.2.2 = true := List.forall_mem_cons.mpr ⟨mm_dk144, List.forall_mem_cons.mpr ⟨mm_dk145, List.forall_mem_cons.mpr ⟨mm_dk146, List.forall_mem_cons.mpr ⟨mm_dk147, List.forall_mem_cons.mpr ⟨mm_dk148, List.forall_mem_cons.mpr ⟨mm_dk149, List.forall_mem_cons.mpr ⟨mm_dk150, List.forall_mem_cons.mpr ⟨mm_dk151, List.forall_mem_cons.mpr ⟨mm_dk152, List.forall_mem_cons.mpr ⟨mm_dk153, List.forall_mem_cons.mpr ⟨mm_dk154, List.forall_mem_cons.mpr ⟨mm_dk155, List.forall_mem_cons.mpr ⟨mm_dk156, List.forall_mem_cons.mpr ⟨mm_dk157, List.forall_mem_cons.mpr ⟨mm_dk158, List.forall_mem_cons.mpr ⟨mm_dk159, List.forall_mem_cons.mpr ⟨mm_dk160, List.forall_mem_cons.mpr ⟨mm_dk161, List.forall_mem_cons.mpr ⟨mm_dk162, List.forall_mem_cons.mpr ⟨mm_dk163, List.forall_mem_cons.mpr ⟨mm_dk164, List.forall_mem_cons.mpr ⟨mm_dk165, List.forall_mem_cons.mpr ⟨mm_dk166, List.forall_mem_cons.mpr ⟨mm_dk167, fun _ h => absurd h List.not_mem_nil⟩⟩⟩⟩⟩⟩⟩⟩⟩⟩⟩⟩⟩⟩⟩⟩⟩⟩⟩⟩⟩⟩⟩⟩
set_option maxRecDepth 100000 in
theorem mm_dc168 : ∀ t ∈ (mm_T.drop 168).take 24, mm_dck t.2.1 t.2.2.2.2.2 = true := List.forall_mem_cons.mpr ⟨mm_dk168, List.forall_mem_cons.mpr ⟨mm_dk169, List.forall_mem_cons.mpr ⟨mm_dk170, List.forall_mem_cons.mpr ⟨mm_dk171, List.forall_mem_cons.mpr ⟨mm_dk172, List.forall_mem_cons.mpr ⟨mm_dk173, List.forall_mem_cons.mpr ⟨mm_dk174, List.forall_mem_cons.mpr ⟨mm_dk175, List.forall_mem_cons.mpr ⟨mm_dk176, List.forall_mem_cons.mpr ⟨mm_dk177, List.forall_mem_cons.mpr ⟨mm_dk178, List.forall_mem_cons.mpr ⟨mm_dk179, List.forall_mem_cons.mpr ⟨mm_dk180, List.forall_mem_cons.mpr ⟨mm_dk181, List.forall_mem_cons.mpr ⟨mm_dk182, List.forall_mem_cons.mpr ⟨mm_dk183, List.forall_mem_cons.mpr ⟨mm_dk184, List.forall_mem_cons.mpr ⟨mm_dk185, List.forall_mem_cons.mpr ⟨mm_dk186, List.forall_mem_cons.mpr ⟨mm_dk187, List.forall_mem_cons.mpr ⟨mm_dk188, List.forall_mem_cons.mpr ⟨mm_dk189, List.forall_mem_cons.mpr ⟨mm_dk190, List.forall_mem_cons.mpr ⟨mm_dk191, fun _ h => absurd h List.not_mem_nil⟩⟩⟩⟩⟩⟩⟩⟩⟩⟩⟩⟩⟩⟩⟩⟩⟩⟩⟩⟩⟩⟩⟩⟩
set_option maxRecDepth 100000 in
theorem mm_dc192 : ∀ t ∈ (mm_T.drop 192).take 24, mm_dck t.2.1 t.2.2.2.2.2 = true := List.forall_mem_cons.mpr ⟨mm_dk192, List.forall_mem_cons.mpr ⟨mm_dk193, List.forall_mem_cons.mpr ⟨mm_dk194, List.forall_mem_cons.mpr ⟨mm_dk195, List.forall_mem_cons.mpr ⟨mm_dk196, List.forall_mem_cons.mpr ⟨mm_dk197, List.forall_mem_cons.mpr ⟨mm_dk198, List.forall_mem_cons.mpr ⟨mm_dk199, List.forall_mem_cons.mpr ⟨mm_dk200, List.forall_mem_cons.mpr ⟨rfl, List.forall_mem_cons.mpr ⟨mm_dk202, List.forall_mem_cons.mpr ⟨rfl, List.forall_mem_cons.mpr ⟨mm_dk204, List.forall_mem_cons.mpr ⟨mm_dk205, List.forall_mem_cons.mpr ⟨mm_dk206, List.forall_mem_cons.mpr ⟨mm_dk207, List.forall_mem_cons.mpr ⟨mm_dk208, List.forall_mem_cons.mpr ⟨mm_dk209, List.forall_mem_cons.mpr ⟨mm_dk210, List.forall_mem_cons.mpr ⟨mm_dk211, List.forall_mem_cons.mpr ⟨mm_dk212, List.forall_mem_cons.mpr ⟨mm_dk213, List.forall_mem_cons.mpr ⟨mm_dk214, List.forall_mem_cons.mpr ⟨mm_dk215, fun _ h => absurd h List.not_mem_nil⟩⟩⟩⟩⟩⟩⟩⟩⟩⟩⟩⟩⟩⟩⟩⟩⟩⟩⟩⟩⟩⟩⟩⟩
set_option maxRecDepth 100000 in
theorem mm_dc216 : ∀ t ∈ (mm_T.drop 216).take 24, mm_dck t.2.1 t.2.2.2.2.2 = true := List.forall_mem_cons.mpr ⟨mm_dk216, List.forall_mem_cons.mpr ⟨mm_dk217, List.forall_mem_cons.mpr ⟨mm_dk218, List.forall_mem_cons.mpr ⟨mm_dk219, List.forall_mem_cons.mpr ⟨mm_dk220, List.forall_mem_cons.mpr ⟨mm_dk221, List.forall_mem_cons.mpr ⟨mm_dk222, List.forall_mem_cons.mpr ⟨mm_dk223, List.forall_mem_cons.mpr ⟨mm_dk224, List.forall_mem_cons.mpr ⟨mm_dk225, List.forall_mem_cons.mpr ⟨mm_dk226, List.forall_mem_cons.mpr ⟨mm_dk227, List.forall_mem_cons.mpr ⟨mm_dk228, List.forall_mem_cons.mpr ⟨mm_dk229, List.forall_mem_cons.mpr ⟨mm_dk230, List.forall_mem_cons.mpr ⟨mm_dk231, List.forall_mem_cons.mpr ⟨mm_dk232, List.forall_mem_cons.mpr ⟨mm_dk233, List.forall_mem_cons.mpr ⟨mm_dk234, List.forall_mem_cons.mpr ⟨mm_dk235, List.forall_mem_cons.mpr ⟨mm_dk236, List.forall_mem_cons.mpr ⟨mm_dk237, List.forall_mem_cons.mpr ⟨mm_dk238, List.forall_mem_cons.mpr ⟨mm_dk239, fun _ h => absurd h List.not_mem_nil⟩⟩⟩⟩⟩⟩⟩⟩⟩⟩⟩⟩⟩⟩⟩⟩⟩⟩⟩⟩⟩⟩⟩⟩
set_option maxRecDepth 100000 in
theorem mm_dc240 : ∀ t ∈ (mm_T.drop 240).take 24, mm_dck t.2.1 t.2.2.2.2.2 = true := List.forall_mem_cons.mpr ⟨mm_dk240, List.forall_mem_cons.mpr ⟨mm_dk241, List.forall_mem_cons.mpr ⟨mm_dk242, List.forall_mem_cons.mpr ⟨mm_dk243, List.forall_mem_cons.mpr ⟨mm_dk244, List.forall_mem_cons.mpr ⟨mm_dk245, List.forall_mem_cons.mpr ⟨mm_dk246, List.forall_mem_cons.mpr ⟨mm_dk247, List.forall_mem_cons.mpr ⟨mm_dk248, List.forall_mem_cons.mpr ⟨mm_dk249, List.forall_mem_cons.mpr ⟨mm_dk250, List.forall_mem_cons.mpr ⟨mm_dk251, List.forall_mem_cons.mpr ⟨mm_dk252, List.forall_mem_cons.mpr ⟨mm_dk253, List.forall_mem_cons.mpr ⟨mm_dk254, List.forall_mem_cons.mpr ⟨mm_dk255, List.forall_mem_cons.mpr ⟨mm_dk256, List.forall_mem_cons.mpr ⟨mm_dk257, List.forall_mem_cons.mpr ⟨mm_dk258, List.forall_mem_cons.mpr ⟨mm_dk259, List.forall_mem_cons.mpr ⟨mm_dk260, List.forall_mem_cons.mpr ⟨mm_dk261, List.forall_mem_cons.mpr ⟨mm_dk262, List.forall_mem_cons.mpr ⟨mm_dk263, fun _ h => absurd h List.not_mem_nil⟩⟩⟩⟩⟩⟩⟩⟩⟩⟩⟩⟩⟩⟩⟩⟩⟩⟩⟩⟩⟩⟩⟩⟩
set_option maxRecDepth 100000 in
theorem mm_dc264 : ∀ t ∈ (mm_T.drop 264).take 24, mm_dck t.2.1 t.2.2.2.2.2 = true := List.forall_mem_cons.mpr ⟨mm_dk264, List.forall_mem_cons.mpr ⟨mm_dk265, List.forall_mem_cons.mpr ⟨mm_dk266, List.forall_mem_cons.mpr ⟨mm_dk267, List.forall_mem_cons.mpr ⟨mm_dk268, List.forall_mem_cons.mpr ⟨mm_dk269, List.forall_mem_cons.mpr ⟨mm_dk270, List.forall_mem_cons.mpr ⟨mm_dk271, List.forall_mem_cons.mpr ⟨mm_dk272, List.forall_mem_cons.mpr ⟨mm_dk273, List.forall_mem_cons.mpr ⟨mm_dk274, List.forall_mem_cons.mpr ⟨mm_dk275, List.forall_mem_cons.mpr ⟨mm_dk276, List.forall_mem_cons.mpr ⟨mm_dk277, fun _ h => absurd h List.not_mem_nil⟩⟩⟩⟩⟩⟩⟩⟩⟩⟩⟩⟩⟩⟩
set_option maxRecDepth 100000 in
theorem mm_dcall : ∀ t ∈ mm_T, mm_dck t.2.1 t.2.2.2.2.2 = true := by
  have e : mm_T = mm_T.drop 0 := rfl
  rw [e]
  rw [mm_splitn 0 24]
  refine List.forall_mem_append.mpr ⟨mm_dc0, ?_⟩
  rw [mm_splitn 24 24]
  refine List.forall_mem_append.mpr ⟨mm_dc24, ?_⟩
  rw [mm_splitn 48 24]
  refine List.forall_mem_append.mpr ⟨mm_dc48, ?_⟩
  rw [mm_splitn 72 24]
  refine List.forall_mem_append.mpr ⟨mm_dc72, ?_⟩
  rw [mm_splitn 96 24]
  refine List.forall_mem_append.mpr ⟨mm_dc96, ?_⟩
  rw [mm_splitn 120 24]
  refine List.forall_mem_append.mpr ⟨mm_dc120, ?_⟩
  rw [mm_splitn 144 24]
  refine List.forall_mem_append.mpr ⟨mm_dc144, ?_⟩
  rw [mm_splitn 168 24]
  refine List.forall_mem_append.mpr ⟨mm_dc168, ?_⟩
  rw [mm_splitn 192 24]
  refine List.forall_mem_append.mpr ⟨mm_dc192, ?_⟩
  rw [mm_splitn 216 24]
  refine List.forall_mem_append.mpr ⟨mm_dc216, ?_⟩
  rw [mm_splitn 240 24]
  refine List.forall_mem_append.mpr ⟨mm_dc240, ?_⟩
  rw [mm_splitn 264 24]
  refine List.forall_mem_append.mpr ⟨mm_dc264, ?_⟩
  intro t h
  have e : mm_T.drop (264 + 24) = [] := rfl
  rw [e] at h
  exact absurd h List.not_mem_nil
theorem mm_all_ok : mm_all := ⟨mm_okall, mm_dcall⟩
