/-! the bytes are these instructions, 3 -/
theorem mm_d208 : mm_dck cX9_init P_X9_init = true := by decide +kernel
theorem mm_d209 : mm_dck cX9_add P_X9_add = true := by decide +kernel
theorem mm_d210 : mm_dck cX9_search P_X9_search = true := by decide +kernel
theorem mm_d211 : mm_dck cX9_sharpest P_X9_sharpest = true := by decide +kernel
theorem mm_d212 : mm_dck cX9_goOn P_X9_goOn = true := by decide +kernel
theorem mm_d213 : mm_dck cX9_takeIn P_X9_takeIn = true := by decide +kernel
theorem mm_d214 : mm_dck cX9_isWithinLength P_X9_isWithinLength = true := by decide +kernel
theorem mm_d215 : mm_dck cX9_agrees P_X9_agrees = true := by decide +kernel
theorem mm_d216 : mm_dck cX10_init P_X10_init = true := by decide +kernel
theorem mm_d217 : mm_dck cX10_leastLean P_X10_leastLean = true := by decide +kernel
theorem mm_d218 : mm_dck cX10_asleepRows P_X10_asleepRows = true := by decide +kernel
theorem mm_d219 : mm_dck cX10_wakingRows P_X10_wakingRows = true := by decide +kernel
theorem mm_d220 : mm_dck cX10_start P_X10_start = true := by decide +kernel
theorem mm_d221_0 : mm_dck cX10_leanOn ((P_X10_leanOn.drop 0).take 60) = true := by decide +kernel
theorem mm_d221_60 : mm_dck cX10_leanOn ((P_X10_leanOn.drop 60).take 60) = true := by decide +kernel
set_option maxRecDepth 100000 in
theorem mm_d221 : mm_dck cX10_leanOn P_X10_leanOn = true := by
  have e : P_X10_leanOn = P_X10_leanOn.drop 0 := rfl
  rw [e]
  rw [mm_splitn 0 60]
  refine mm_dapp mm_d221_0 ?_
  rw [mm_splitn 60 60]
  refine mm_dapp mm_d221_60 ?_
  exact rfl
theorem mm_d222_0 : mm_dck cX10_countOn ((P_X10_countOn.drop 0).take 60) = true := by decide +kernel
theorem mm_d222_60 : mm_dck cX10_countOn ((P_X10_countOn.drop 60).take 60) = true := by decide +kernel
set_option maxRecDepth 100000 in
theorem mm_d222 : mm_dck cX10_countOn P_X10_countOn = true := by
  have e : P_X10_countOn = P_X10_countOn.drop 0 := rfl
  rw [e]
  rw [mm_splitn 0 60]
  refine mm_dapp mm_d222_0 ?_
  rw [mm_splitn 60 60]
  refine mm_dapp mm_d222_60 ?_
  exact rfl
theorem mm_d223 : mm_dck cX10_swap P_X10_swap = true := by decide +kernel
theorem mm_d224_0 : mm_dck cX11_init ((P_X11_init.drop 0).take 60) = true := by decide +kernel
theorem mm_d224_60 : mm_dck cX11_init ((P_X11_init.drop 60).take 60) = true := by decide +kernel
set_option maxRecDepth 100000 in
theorem mm_d224 : mm_dck cX11_init P_X11_init = true := by
  have e : P_X11_init = P_X11_init.drop 0 := rfl
  rw [e]
  rw [mm_splitn 0 60]
  refine mm_dapp mm_d224_0 ?_
  rw [mm_splitn 60 60]
  refine mm_dapp mm_d224_60 ?_
  exact rfl
theorem mm_d225 : mm_dck cX11_feed P_X11_feed = true := by decide +kernel
theorem mm_d226 : mm_dck cX11_back P_X11_back = true := by decide +kernel
theorem mm_d227 : mm_dck cX11_read P_X11_read = true := by decide +kernel
theorem mm_d228 : mm_dck cX11_place P_X11_place = true := by decide +kernel
theorem mm_d229 : mm_dck cX11_speaker P_X11_speaker = true := by decide +kernel
theorem mm_d230 : mm_dck cX11_word P_X11_word = true := by decide +kernel
theorem mm_d231 : mm_dck cX11_say P_X11_say = true := by decide +kernel
theorem mm_d232 : mm_dck cX11_pass P_X11_pass = true := by decide +kernel
theorem mm_d233_0 : mm_dck cX11_hire ((P_X11_hire.drop 0).take 60) = true := by decide +kernel
theorem mm_d233_60 : mm_dck cX11_hire ((P_X11_hire.drop 60).take 60) = true := by decide +kernel
set_option maxRecDepth 100000 in
theorem mm_d233 : mm_dck cX11_hire P_X11_hire = true := by
  have e : P_X11_hire = P_X11_hire.drop 0 := rfl
  rw [e]
  rw [mm_splitn 0 60]
  refine mm_dapp mm_d233_0 ?_
  rw [mm_splitn 60 60]
  refine mm_dapp mm_d233_60 ?_
  exact rfl
theorem mm_d234 : mm_dck cX11_set P_X11_set = true := by decide +kernel
theorem mm_d235 : mm_dck cX11_minutes P_X11_minutes = true := by decide +kernel
theorem mm_d236 : mm_dck cX11_undo P_X11_undo = true := by decide +kernel
theorem mm_d237 : mm_dck cX11_who P_X11_who = true := by decide +kernel
theorem mm_d238 : mm_dck cX11_soon P_X11_soon = true := by decide +kernel
theorem mm_d239 : mm_dck cX11_best P_X11_best = true := by decide +kernel
theorem mm_d240 : mm_dck cX11_together P_X11_together = true := by decide +kernel
theorem mm_d241 : mm_dck cX11_even P_X11_even = true := by decide +kernel
theorem mm_d242 : mm_dck cX11_ways P_X11_ways = true := by decide +kernel
theorem mm_d243 : mm_dck cX11_waking P_X11_waking = true := by decide +kernel
theorem mm_d244 : mm_dck cX11_ring P_X11_ring = true := by decide +kernel
theorem mm_d245 : mm_dck cX11_reach P_X11_reach = true := by decide +kernel
theorem mm_d246 : mm_dck cX11_slopes P_X11_slopes = true := by decide +kernel
theorem mm_d247 : mm_dck cX11_hangs P_X11_hangs = true := by decide +kernel
theorem mm_d248 : mm_dck cX11_scale P_X11_scale = true := by decide +kernel
theorem mm_d249 : mm_dck cX11_calm P_X11_calm = true := by decide +kernel
theorem mm_d250_0 : mm_dck cX11_couples ((P_X11_couples.drop 0).take 60) = true := by decide +kernel
theorem mm_d250_60 : mm_dck cX11_couples ((P_X11_couples.drop 60).take 60) = true := by decide +kernel
set_option maxRecDepth 100000 in
theorem mm_d250 : mm_dck cX11_couples P_X11_couples = true := by
  have e : P_X11_couples = P_X11_couples.drop 0 := rfl
  rw [e]
  rw [mm_splitn 0 60]
  refine mm_dapp mm_d250_0 ?_
  rw [mm_splitn 60 60]
  refine mm_dapp mm_d250_60 ?_
  exact rfl
theorem mm_d251_0 : mm_dck cX11_cheapest ((P_X11_cheapest.drop 0).take 60) = true := by decide +kernel
theorem mm_d251_60 : mm_dck cX11_cheapest ((P_X11_cheapest.drop 60).take 60) = true := by decide +kernel
set_option maxRecDepth 100000 in
theorem mm_d251 : mm_dck cX11_cheapest P_X11_cheapest = true := by
  have e : P_X11_cheapest = P_X11_cheapest.drop 0 := rfl
  rw [e]
  rw [mm_splitn 0 60]
  refine mm_dapp mm_d251_0 ?_
  rw [mm_splitn 60 60]
  refine mm_dapp mm_d251_60 ?_
  exact rfl
theorem mm_d252 : mm_dck cX11_slopeIn P_X11_slopeIn = true := by decide +kernel
theorem mm_d253 : mm_dck cX11_year P_X11_year = true := by decide +kernel
theorem mm_d254 : mm_dck cX11_tell P_X11_tell = true := by decide +kernel
theorem mm_d255 : mm_dck cX11_forget P_X11_forget = true := by decide +kernel
theorem mm_d256 : mm_dck cX11_rows P_X11_rows = true := by decide +kernel
theorem mm_d257 : mm_dck cX11_listen P_X11_listen = true := by decide +kernel
theorem mm_d258 : mm_dck cX11_hold P_X11_hold = true := by decide +kernel
theorem mm_d259 : mm_dck cX11_restore P_X11_restore = true := by decide +kernel
theorem mm_d260_0 : mm_dck cX11_count ((P_X11_count.drop 0).take 60) = true := by decide +kernel
theorem mm_d260_60 : mm_dck cX11_count ((P_X11_count.drop 60).take 60) = true := by decide +kernel
set_option maxRecDepth 100000 in
theorem mm_d260 : mm_dck cX11_count P_X11_count = true := by
  have e : P_X11_count = P_X11_count.drop 0 := rfl
  rw [e]
  rw [mm_splitn 0 60]
  refine mm_dapp mm_d260_0 ?_
  rw [mm_splitn 60 60]
  refine mm_dapp mm_d260_60 ?_
  exact rfl
theorem mm_d261 : mm_dck cX11_beginAnew P_X11_beginAnew = true := by decide +kernel
theorem mm_d262 : mm_dck cX11_takeTurn P_X11_takeTurn = true := by decide +kernel
theorem mm_d263 : mm_dck cX11_sayable P_X11_sayable = true := by decide +kernel
theorem mm_d264 : mm_dck cX11_areTwo P_X11_areTwo = true := by decide +kernel
theorem mm_d265 : mm_dck cX11_isKnown P_X11_isKnown = true := by decide +kernel
theorem mm_d266 : mm_dck cX11_calmOf P_X11_calmOf = true := by decide +kernel
theorem mm_d267 : mm_dck cX11_heldSlots P_X11_heldSlots = true := by decide +kernel
theorem mm_d268 : mm_dck cX11_orNotThere P_X11_orNotThere = true := by decide +kernel
theorem mm_d269 : mm_dck cX11_standingOf P_X11_standingOf = true := by decide +kernel
theorem mm_d270 : mm_dck cX11_slopeOf P_X11_slopeOf = true := by decide +kernel
theorem mm_d271 : mm_dck cX11_turnOf P_X11_turnOf = true := by decide +kernel
theorem mm_d272 : mm_dck cX11_lastOf P_X11_lastOf = true := by decide +kernel
theorem mm_d273 : mm_dck cX11_isAwake P_X11_isAwake = true := by decide +kernel
theorem mm_d274 : mm_dck cX11_leanOf P_X11_leanOf = true := by decide +kernel
theorem mm_d275 : mm_dck cX11_within P_X11_within = true := by decide +kernel
theorem mm_d276 : mm_dck cX11_lot P_X11_lot = true := by decide +kernel
theorem mm_d277 : mm_dck cX11_stir P_X11_stir = true := by decide +kernel
set_option maxRecDepth 100000 in
theorem mm_dc0 : ∀ t ∈ (mm_T.drop 0).take 24, mm_dck t.2.1 t.2.2.2.2.2 = true := List.forall_mem_cons.mpr ⟨mm_d0, List.forall_mem_cons.mpr ⟨mm_d1, List.forall_mem_cons.mpr ⟨mm_d2, List.forall_mem_cons.mpr ⟨mm_d3, List.forall_mem_cons.mpr ⟨mm_d4, List.forall_mem_cons.mpr ⟨mm_d5, List.forall_mem_cons.mpr ⟨mm_d6, List.forall_mem_cons.mpr ⟨mm_d7, List.forall_mem_cons.mpr ⟨mm_d8, List.forall_mem_cons.mpr ⟨mm_d9, List.forall_mem_cons.mpr ⟨mm_d10, List.forall_mem_cons.mpr ⟨mm_d11, List.forall_mem_cons.mpr ⟨mm_d12, List.forall_mem_cons.mpr ⟨mm_d13, List.forall_mem_cons.mpr ⟨mm_d14, List.forall_mem_cons.mpr ⟨mm_d15, List.forall_mem_cons.mpr ⟨mm_d16, List.forall_mem_cons.mpr ⟨mm_d17, List.forall_mem_cons.mpr ⟨mm_d18, List.forall_mem_cons.mpr ⟨mm_d19, List.forall_mem_cons.mpr ⟨mm_d20, List.forall_mem_cons.mpr ⟨mm_d21, List.forall_mem_cons.mpr ⟨mm_d22, List.forall_mem_cons.mpr ⟨mm_d23, fun _ h => absurd h List.not_mem_nil⟩⟩⟩⟩⟩⟩⟩⟩⟩⟩⟩⟩⟩⟩⟩⟩⟩⟩⟩⟩⟩⟩⟩⟩
set_option maxRecDepth 100000 in
theorem mm_dc24 : ∀ t ∈ (mm_T.drop 24).take 24, mm_dck t.2.1 t.2.2.2.2.2 = true := List.forall_mem_cons.mpr ⟨mm_d24, List.forall_mem_cons.mpr ⟨mm_d25, List.forall_mem_cons.mpr ⟨mm_d26, List.forall_mem_cons.mpr ⟨mm_d27, List.forall_mem_cons.mpr ⟨mm_d28, List.forall_mem_cons.mpr ⟨mm_d29, List.forall_mem_cons.mpr ⟨mm_d30, List.forall_mem_cons.mpr ⟨mm_d31, List.forall_mem_cons.mpr ⟨mm_d32, List.forall_mem_cons.mpr ⟨mm_d33, List.forall_mem_cons.mpr ⟨mm_d34, List.forall_mem_cons.mpr ⟨mm_d35, List.forall_mem_cons.mpr ⟨mm_d36, List.forall_mem_cons.mpr ⟨mm_d37, List.forall_mem_cons.mpr ⟨mm_d38, List.forall_mem_cons.mpr ⟨mm_d39, List.forall_mem_cons.mpr ⟨mm_d40, List.forall_mem_cons.mpr ⟨mm_d41, List.forall_mem_cons.mpr ⟨mm_d42, List.forall_mem_cons.mpr ⟨mm_d43, List.forall_mem_cons.mpr ⟨mm_d44, List.forall_mem_cons.mpr ⟨mm_d45, List.forall_mem_cons.mpr ⟨mm_d46, List.forall_mem_cons.mpr ⟨mm_d47, fun _ h => absurd h List.not_mem_nil⟩⟩⟩⟩⟩⟩⟩⟩⟩⟩⟩⟩⟩⟩⟩⟩⟩⟩⟩⟩⟩⟩⟩⟩
set_option maxRecDepth 100000 in
theorem mm_dc48 : ∀ t ∈ (mm_T.drop 48).take 24, mm_dck t.2.1 t.2.2.2.2.2 = true := List.forall_mem_cons.mpr ⟨mm_d48, List.forall_mem_cons.mpr ⟨mm_d49, List.forall_mem_cons.mpr ⟨mm_d50, List.forall_mem_cons.mpr ⟨mm_d51, List.forall_mem_cons.mpr ⟨mm_d52, List.forall_mem_cons.mpr ⟨mm_d53, List.forall_mem_cons.mpr ⟨mm_d54, List.forall_mem_cons.mpr ⟨mm_d55, List.forall_mem_cons.mpr ⟨mm_d56, List.forall_mem_cons.mpr ⟨mm_d57, List.forall_mem_cons.mpr ⟨mm_d58, List.forall_mem_cons.mpr ⟨mm_d59, List.forall_mem_cons.mpr ⟨mm_d60, List.forall_mem_cons.mpr ⟨mm_d61, List.forall_mem_cons.mpr ⟨mm_d62, List.forall_mem_cons.mpr ⟨mm_d63, List.forall_mem_cons.mpr ⟨mm_d64, List.forall_mem_cons.mpr ⟨mm_d65, List.forall_mem_cons.mpr ⟨mm_d66, List.forall_mem_cons.mpr ⟨mm_d67, List.forall_mem_cons.mpr ⟨mm_d68, List.forall_mem_cons.mpr ⟨mm_d69, List.forall_mem_cons.mpr ⟨mm_d70, List.forall_mem_cons.mpr ⟨mm_d71, fun _ h => absurd h List.not_mem_nil⟩⟩⟩⟩⟩⟩⟩⟩⟩⟩⟩⟩⟩⟩⟩⟩⟩⟩⟩⟩⟩⟩⟩⟩
set_option maxRecDepth 100000 in
theorem mm_dc72 : ∀ t ∈ (mm_T.drop 72).take 24, mm_dck t.2.1 t.2.2.2.2.2 = true := List.forall_mem_cons.mpr ⟨mm_d72, List.forall_mem_cons.mpr ⟨mm_d73, List.forall_mem_cons.mpr ⟨mm_d74, List.forall_mem_cons.mpr ⟨mm_d75, List.forall_mem_cons.mpr ⟨mm_d76, List.forall_mem_cons.mpr ⟨mm_d77, List.forall_mem_cons.mpr ⟨mm_d78, List.forall_mem_cons.mpr ⟨mm_d79, List.forall_mem_cons.mpr ⟨mm_d80, List.forall_mem_cons.mpr ⟨mm_d81, List.forall_mem_cons.mpr ⟨mm_d82, List.forall_mem_cons.mpr ⟨mm_d83, List.forall_mem_cons.mpr ⟨mm_d84, List.forall_mem_cons.mpr ⟨mm_d85, List.forall_mem_cons.mpr ⟨mm_d86, List.forall_mem_cons.mpr ⟨mm_d87, List.forall_mem_cons.mpr ⟨mm_d88, List.forall_mem_cons.mpr ⟨mm_d89, List.forall_mem_cons.mpr ⟨mm_d90, List.forall_mem_cons.mpr ⟨mm_d91, List.forall_mem_cons.mpr ⟨mm_d92, List.forall_mem_cons.mpr ⟨mm_d93, List.forall_mem_cons.mpr ⟨mm_d94, List.forall_mem_cons.mpr ⟨mm_d95, fun _ h => absurd h List.not_mem_nil⟩⟩⟩⟩⟩⟩⟩⟩⟩⟩⟩⟩⟩⟩⟩⟩⟩⟩⟩⟩⟩⟩⟩⟩
set_option maxRecDepth 100000 in
theorem mm_dc96 : ∀ t ∈ (mm_T.drop 96).take 24, mm_dck t.2.1 t.2.2.2.2.2 = true := List.forall_mem_cons.mpr ⟨mm_d96, List.forall_mem_cons.mpr ⟨mm_d97, List.forall_mem_cons.mpr ⟨mm_d98, List.forall_mem_cons.mpr ⟨mm_d99, List.forall_mem_cons.mpr ⟨mm_d100, List.forall_mem_cons.mpr ⟨mm_d101, List.forall_mem_cons.mpr ⟨mm_d102, List.forall_mem_cons.mpr ⟨mm_d103, List.forall_mem_cons.mpr ⟨mm_d104, List.forall_mem_cons.mpr ⟨mm_d105, List.forall_mem_cons.mpr ⟨mm_d106, List.forall_mem_cons.mpr ⟨mm_d107, List.forall_mem_cons.mpr ⟨mm_d108, List.forall_mem_cons.mpr ⟨mm_d109, List.forall_mem_cons.mpr ⟨mm_d110, List.forall_mem_cons.mpr ⟨mm_d111, List.forall_mem_cons.mpr ⟨mm_d112, List.forall_mem_cons.mpr ⟨mm_d113, List.forall_mem_cons.mpr ⟨mm_d114, List.forall_mem_cons.mpr ⟨mm_d115, List.forall_mem_cons.mpr ⟨mm_d116, List.forall_mem_cons.mpr ⟨mm_d117, List.forall_mem_cons.mpr ⟨mm_d118, List.forall_mem_cons.mpr ⟨mm_d119, fun _ h => absurd h List.not_mem_nil⟩⟩⟩⟩⟩⟩⟩⟩⟩⟩⟩⟩⟩⟩⟩⟩⟩⟩⟩⟩⟩⟩⟩⟩
set_option maxRecDepth 100000 in
theorem mm_dc120 : ∀ t ∈ (mm_T.drop 120).take 24, mm_dck t.2.1 t.2.2.2.2.2 = true := List.forall_mem_cons.mpr ⟨mm_d120, List.forall_mem_cons.mpr ⟨mm_d121, List.forall_mem_cons.mpr ⟨mm_d122, List.forall_mem_cons.mpr ⟨mm_d123, List.forall_mem_cons.mpr ⟨mm_d124, List.forall_mem_cons.mpr ⟨mm_d125, List.forall_mem_cons.mpr ⟨mm_d126, List.forall_mem_cons.mpr ⟨mm_d127, List.forall_mem_cons.mpr ⟨mm_d128, List.forall_mem_cons.mpr ⟨mm_d129, List.forall_mem_cons.mpr ⟨mm_d130, List.forall_mem_cons.mpr ⟨mm_d131, List.forall_mem_cons.mpr ⟨mm_d132, List.forall_mem_cons.mpr ⟨mm_d133, List.forall_mem_cons.mpr ⟨mm_d134, List.forall_mem_cons.mpr ⟨mm_d135, List.forall_mem_cons.mpr ⟨mm_d136, List.forall_mem_cons.mpr ⟨mm_d137, List.forall_mem_cons.mpr ⟨mm_d138, List.forall_mem_cons.mpr ⟨mm_d139, List.forall_mem_cons.mpr ⟨mm_d140, List.forall_mem_cons.mpr ⟨mm_d141, List.forall_mem_cons.mpr ⟨mm_d142, List.forall_mem_cons.mpr ⟨mm_d143, fun _ h => absurd h List.not_mem_nil⟩⟩⟩⟩⟩⟩⟩⟩⟩⟩⟩⟩⟩⟩⟩⟩⟩⟩⟩⟩⟩⟩⟩⟩
set_option maxRecDepth 100000 in
theorem mm_dc144 : ∀ t ∈ (mm_T.drop 144).take 24, mm_dck t.2.1 t.2.2.2.2.2 = true := List.forall_mem_cons.mpr ⟨mm_d144, List.forall_mem_cons.mpr ⟨mm_d145, List.forall_mem_cons.mpr ⟨mm_d146, List.forall_mem_cons.mpr ⟨mm_d147, List.forall_mem_cons.mpr ⟨mm_d148, List.forall_mem_cons.mpr ⟨mm_d149, List.forall_mem_cons.mpr ⟨mm_d150, List.forall_mem_cons.mpr ⟨mm_d151, List.forall_mem_cons.mpr ⟨mm_d152, List.forall_mem_cons.mpr ⟨mm_d153, List.forall_mem_cons.mpr ⟨mm_d154, List.forall_mem_cons.mpr ⟨mm_d155, List.forall_mem_cons.mpr ⟨mm_d156, List.forall_mem_cons.mpr ⟨mm_d157, List.forall_mem_cons.mpr ⟨mm_d158, List.forall_mem_cons.mpr ⟨mm_d159, List.forall_mem_cons.mpr ⟨mm_d160, List.forall_mem_cons.mpr ⟨mm_d161, List.forall_mem_cons.mpr ⟨mm_d162, List.forall_mem_cons.mpr ⟨mm_d163, List.forall_mem_cons.mpr ⟨mm_d164, List.forall_mem_cons.mpr ⟨mm_d165, List.forall_mem_cons.mpr ⟨mm_d166, List.forall_mem_cons.mpr ⟨mm_d167, fun _ h => absurd h List.not_mem_nil⟩⟩⟩⟩⟩⟩⟩⟩⟩⟩⟩⟩⟩⟩⟩⟩⟩⟩⟩⟩⟩⟩⟩⟩
set_option maxRecDepth 100000 in
theorem mm_dc168 : ∀ t ∈ (mm_T.drop 168).take 24, mm_dck t.2.1 t.2.2.2.2.2 = true := List.forall_mem_cons.mpr ⟨mm_d168, List.forall_mem_cons.mpr ⟨mm_d169, List.forall_mem_cons.mpr ⟨mm_d170, List.forall_mem_cons.mpr ⟨mm_d171, List.forall_mem_cons.mpr ⟨mm_d172, List.forall_mem_cons.mpr ⟨mm_d173, List.forall_mem_cons.mpr ⟨mm_d174, List.forall_mem_cons.mpr ⟨mm_d175, List.forall_mem_cons.mpr ⟨mm_d176, List.forall_mem_cons.mpr ⟨mm_d177, List.forall_mem_cons.mpr ⟨mm_d178, List.forall_mem_cons.mpr ⟨mm_d179, List.forall_mem_cons.mpr ⟨mm_d180, List.forall_mem_cons.mpr ⟨mm_d181, List.forall_mem_cons.mpr ⟨mm_d182, List.forall_mem_cons.mpr ⟨mm_d183, List.forall_mem_cons.mpr ⟨mm_d184, List.forall_mem_cons.mpr ⟨mm_d185, List.forall_mem_cons.mpr ⟨mm_d186, List.forall_mem_cons.mpr ⟨mm_d187, List.forall_mem_cons.mpr ⟨mm_d188, List.forall_mem_cons.mpr ⟨mm_d189, List.forall_mem_cons.mpr ⟨mm_d190, List.forall_mem_cons.mpr ⟨mm_d191, fun _ h => absurd h List.not_mem_nil⟩⟩⟩⟩⟩⟩⟩⟩⟩⟩⟩⟩⟩⟩⟩⟩⟩⟩⟩⟩⟩⟩⟩⟩
set_option maxRecDepth 100000 in
theorem mm_dc192 : ∀ t ∈ (mm_T.drop 192).take 24, mm_dck t.2.1 t.2.2.2.2.2 = true := List.forall_mem_cons.mpr ⟨mm_d192, List.forall_mem_cons.mpr ⟨mm_d193, List.forall_mem_cons.mpr ⟨mm_d194, List.forall_mem_cons.mpr ⟨mm_d195, List.forall_mem_cons.mpr ⟨mm_d196, List.forall_mem_cons.mpr ⟨mm_d197, List.forall_mem_cons.mpr ⟨mm_d198, List.forall_mem_cons.mpr ⟨mm_d199, List.forall_mem_cons.mpr ⟨mm_d200, List.forall_mem_cons.mpr ⟨rfl, List.forall_mem_cons.mpr ⟨mm_d202, List.forall_mem_cons.mpr ⟨rfl, List.forall_mem_cons.mpr ⟨mm_d204, List.forall_mem_cons.mpr ⟨mm_d205, List.forall_mem_cons.mpr ⟨mm_d206, List.forall_mem_cons.mpr ⟨mm_d207, List.forall_mem_cons.mpr ⟨mm_d208, List.forall_mem_cons.mpr ⟨mm_d209, List.forall_mem_cons.mpr ⟨mm_d210, List.forall_mem_cons.mpr ⟨mm_d211, List.forall_mem_cons.mpr ⟨mm_d212, List.forall_mem_cons.mpr ⟨mm_d213, List.forall_mem_cons.mpr ⟨mm_d214, List.forall_mem_cons.mpr ⟨mm_d215, fun _ h => absurd h List.not_mem_nil⟩⟩⟩⟩⟩⟩⟩⟩⟩⟩⟩⟩⟩⟩⟩⟩⟩⟩⟩⟩⟩⟩⟩⟩
set_option maxRecDepth 100000 in
theorem mm_dc216 : ∀ t ∈ (mm_T.drop 216).take 24, mm_dck t.2.1 t.2.2.2.2.2 = true := List.forall_mem_cons.mpr ⟨mm_d216, List.forall_mem_cons.mpr ⟨mm_d217, List.forall_mem_cons.mpr ⟨mm_d218, List.forall_mem_cons.mpr ⟨mm_d219, List.forall_mem_cons.mpr ⟨mm_d220, List.forall_mem_cons.mpr ⟨mm_d221, List.forall_mem_cons.mpr ⟨mm_d222, List.forall_mem_cons.mpr ⟨mm_d223, List.forall_mem_cons.mpr ⟨mm_d224, List.forall_mem_cons.mpr ⟨mm_d225, List.forall_mem_cons.mpr ⟨mm_d226, List.forall_mem_cons.mpr ⟨mm_d227, List.forall_mem_cons.mpr ⟨mm_d228, List.forall_mem_cons.mpr ⟨mm_d229, List.forall_mem_cons.mpr ⟨mm_d230, List.forall_mem_cons.mpr ⟨mm_d231, List.forall_mem_cons.mpr ⟨mm_d232, List.forall_mem_cons.mpr ⟨mm_d233, List.forall_mem_cons.mpr ⟨mm_d234, List.forall_mem_cons.mpr ⟨mm_d235, List.forall_mem_cons.mpr ⟨mm_d236, List.forall_mem_cons.mpr ⟨mm_d237, List.forall_mem_cons.mpr ⟨mm_d238, List.forall_mem_cons.mpr ⟨mm_d239, fun _ h => absurd h List.not_mem_nil⟩⟩⟩⟩⟩⟩⟩⟩⟩⟩⟩⟩⟩⟩⟩⟩⟩⟩⟩⟩⟩⟩⟩⟩
set_option maxRecDepth 100000 in
theorem mm_dc240 : ∀ t ∈ (mm_T.drop 240).take 24, mm_dck t.2.1 t.2.2.2.2.2 = true := List.forall_mem_cons.mpr ⟨mm_d240, List.forall_mem_cons.mpr ⟨mm_d241, List.forall_mem_cons.mpr ⟨mm_d242, List.forall_mem_cons.mpr ⟨mm_d243, List.forall_mem_cons.mpr ⟨mm_d244, List.forall_mem_cons.mpr ⟨mm_d245, List.forall_mem_cons.mpr ⟨mm_d246, List.forall_mem_cons.mpr ⟨mm_d247, List.forall_mem_cons.mpr ⟨mm_d248, List.forall_mem_cons.mpr ⟨mm_d249, List.forall_mem_cons.mpr ⟨mm_d250, List.forall_mem_cons.mpr ⟨mm_d251, List.forall_mem_cons.mpr ⟨mm_d252, List.forall_mem_cons.mpr ⟨mm_d253, List.forall_mem_cons.mpr ⟨mm_d254, List.forall_mem_cons.mpr ⟨mm_d255, List.forall_mem_cons.mpr ⟨mm_d256, List.forall_mem_cons.mpr ⟨mm_d257, List.forall_mem_cons.mpr ⟨mm_d258, List.forall_mem_cons.mpr ⟨mm_d259, List.forall_mem_cons.mpr ⟨mm_d260, List.forall_mem_cons.mpr ⟨mm_d261, List.forall_mem_cons.mpr ⟨mm_d262, List.forall_mem_cons.mpr ⟨mm_d263, fun _ h => absurd h List.not_mem_nil⟩⟩⟩⟩⟩⟩⟩⟩⟩⟩⟩⟩⟩⟩⟩⟩⟩⟩⟩⟩⟩⟩⟩⟩
set_option maxRecDepth 100000 in
theorem mm_dc264 : ∀ t ∈ (mm_T.drop 264).take 24, mm_dck t.2.1 t.2.2.2.2.2 = true := List.forall_mem_cons.mpr ⟨mm_d264, List.forall_mem_cons.mpr ⟨mm_d265, List.forall_mem_cons.mpr ⟨mm_d266, List.forall_mem_cons.mpr ⟨mm_d267, List.forall_mem_cons.mpr ⟨mm_d268, List.forall_mem_cons.mpr ⟨mm_d269, List.forall_mem_cons.mpr ⟨mm_d270, List.forall_mem_cons.mpr ⟨mm_d271, List.forall_mem_cons.mpr ⟨mm_d272, List.forall_mem_cons.mpr ⟨mm_d273, List.forall_mem_cons.mpr ⟨mm_d274, List.forall_mem_cons.mpr ⟨mm_d275, List.forall_mem_cons.mpr ⟨mm_d276, List.forall_mem_cons.mpr ⟨mm_d277, fun _ h => absurd h List.not_mem_nil⟩⟩⟩⟩⟩⟩⟩⟩⟩⟩⟩⟩⟩⟩
set_option maxRecDepth 100000 in
theorem mm_dcall : ∀ t ∈ mm_T, mm_dck t.2.1 t.2.2.2.2.2 = true := by
  have e : mm_T = mm_T.drop 0 := rfl
  rw [e]
  rw [mm_splitn 0 24]
  refine List.forall_mem_append.mpr ⟨mm_dc0, ?_⟩
  rw [mm_splitn 24 24]
  refine List.forall_mem_append.mpr ⟨mm_dc24, ?_⟩
  rw [mm_splitn 48 24]
  refine List.forall_mem_append.mpr ⟨mm_dc48, ?_⟩
  rw [mm_splitn 72 24]
  refine List.forall_mem_append.mpr ⟨mm_dc72, ?_⟩
  rw [mm_splitn 96 24]
  refine List.forall_mem_append.mpr ⟨mm_dc96, ?_⟩
  rw [mm_splitn 120 24]
  refine List.forall_mem_append.mpr ⟨mm_dc120, ?_⟩
  rw [mm_splitn 144 24]
  refine List.forall_mem_append.mpr ⟨mm_dc144, ?_⟩
  rw [mm_splitn 168 24]
  refine List.forall_mem_append.mpr ⟨mm_dc168, ?_⟩
  rw [mm_splitn 192 24]
  refine List.forall_mem_append.mpr ⟨mm_dc192, ?_⟩
  rw [mm_splitn 216 24]
  refine List.forall_mem_append.mpr ⟨mm_dc216, ?_⟩
  rw [mm_splitn 240 24]
  refine List.forall_mem_append.mpr ⟨mm_dc240, ?_⟩
  rw [mm_splitn 264 24]
  refine List.forall_mem_append.mpr ⟨mm_dc264, ?_⟩
  intro t h
  have e : mm_T.drop (264 + 24) = [] := rfl
  rw [e] at h
  exact absurd h List.not_mem_nil
theorem mm_all_ok : mm_all := ⟨mm_okall, mm_dcall⟩
