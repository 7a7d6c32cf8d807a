/-! the law's cases, 0 -/
set_option maxHeartbeats 4000000 in
set_option maxRecDepth 100000 in
theorem lw_k0 {p : Program} {l : Launch} {e : Env} {s : State} {m : MethodId} {below : List Frame} {meth : Method} {c : Code} {b L : Nat} {xs : Nat → Int32} {D : va_G} {E : Nat → ClassId} {Xt : mm_Xt} {Z : State → Prop} (Cx : lw_Cx p s m meth c b L xs D E Xt) (hct : ∀ (d mi : Nat) (as : List Value) (h : mm_H) (Q : mm_R), mm_ct xB mm_Mk mm_Fk mm_PC d mi as h Q → ∃ t1, mm_at mm_T mi = some t1 ∧ t1.2.2.1 ≤ 40 ∧ mm_Met l D E Xt (d + 12) t1 (mm_Mk mi).1 (mm_Mk mi).2 as h Q) {R : Nat → xs_S → ms_S → Prop} (hR : lw_s0 R) {n i cells slots : Nat} (hn : n < 512) (hL : L ≤ 3072) (hi : i + 6 ≤ L) (hfit : cells ≤ 600000 ∧ slots ≤ 7302249) {sx : xs_S} {sm : ms_S} {adx adm : Nat → Nat} {pr : Value} {H : Heap} {locs : List Loc} {ls : Array Slot} (hRR : R n sx sm) (hP : va_P D vwCl (mm_wr E adx (xs_H (.ref 9) (.ref 17) (.ref 9) pr sx) ++ mm_wr E adm (ms_H sm)) H) (hD : va_D (fun q : Nat => s.heap.size ≤ q) (mm_wr E adx (xs_H (.ref 9) (.ref 17) (.ref 9) pr sx) ++ mm_wr E adm (ms_H sm))) (hS : va_S (fun q : Nat => s.heap.size ≤ q) s.heap H locs) (hl : lv_has ls 4 [(0, .ref b), (1, .ref (adx 0)), (2, .ref (adm 0)), (3, .int (nI i))]) (kk : ∀ (sx2 : xs_S) (sm2 : ms_S) (adx2 : Nat → Nat) (pr2 : Value) (H1 : Heap) (locs1 : List Loc), R (n + 1) sx2 sm2 → adx2 0 = adx 0 → va_P D vwCl (mm_wr E adx2 (xs_H (.ref 9) (.ref 17) (.ref 9) pr2 sx2) ++ mm_wr E adm (ms_H sm2)) H1 → va_D (fun q : Nat => s.heap.size ≤ q) (mm_wr E adx2 (xs_H (.ref 9) (.ref 17) (.ref 9) pr2 sx2) ++ mm_wr E adm (ms_H sm2)) → va_S (fun q : Nat => s.heap.size ≤ q) s.heap H1 locs1 → W p l e room_1 s m #[Value.ref b] below meth c H1 locs1 cells slots Z (F0 m 1046 ls [])) : W p l e room_1 s m #[Value.ref b] below meth c H locs cells slots Z (F0 m 192 ls []) := by
  obtain ⟨v, s2, m2, hf, hg, hRn⟩ := hR n sx sm (xs (i + 1)) (xs (i + 2)) (xs (i + 3)) (xs (i + 4)) (xs (i + 5)) hRR hn
  have C0 := Cx.1
  obtain ⟨hx, hb, hr, hml, hown, hts, hX, hbl, hlocks, hgv⟩ := id C0
  refine lv_aload_n hx hb d_law_192 rfl (lv_at hl 1 rfl) ?_
  refine lw_arg1 C0 hL hi hS hl d_law_193 d_law_194 d_law_195 d_law_196 d_law_197 ?_
  refine lw_arg2 C0 hL hi hS hl d_law_198 d_law_199 d_law_200 d_law_201 d_law_202 ?_
  refine lw_arg3 C0 hL hi hS hl d_law_203 d_law_204 d_law_205 d_law_206 d_law_207 ?_
  refine lw_arg4 C0 hL hi hS hl d_law_208 d_law_209 d_law_210 d_law_211 d_law_212 ?_
  refine lw_arg5 C0 hL hi hS hl d_law_213 d_law_214 d_law_215 d_law_216 d_law_217 ?_
  refine lw_vcall Cx (As := [.int (xs (i + 1)), .int (xs (i + 2)), .int (xs (i + 3)), .int (xs (i + 4)), .int (xs (i + 5))]) (rest := []) (w2 := mm_wr E adm (ms_H sm)) (h := xs_H (.ref 9) (.ref 17) (.ref 9) pr sx) (ad := adx) (Q := fun v2 h2 => v2 = some (.int v) ∧ h2 = xs_H (.ref 9) (.ref 17) (.ref 9) pr s2) (hct (0 + 2) 225 _ _ _ (xt_11_feed xB 0 (.ref 9) (.ref 17) (.ref 9) pr sx (xs (i + 1)) (xs (i + 2)) (xs (i + 3)) (xs (i + 4)) (xs (i + 5)) v s2 _ hf ⟨rfl, rfl⟩)) (by decide +kernel) (na := 6) (ci := 11) (by decide +kernel) rfl rfl lw_ln_13 rfl (by decide) (Nat.le_of_ble_eq_true rfl) hl.1 d_law_218 hP hD hS hfit (fun v2 h2 H1 locs1 hq _ hP hD hS => ?_)
  obtain ⟨rfl, rfl⟩ := hq
  show W p l e room_1 s m #[Value.ref b] below meth c H1 locs1 cells slots Z (F0 m 221 ls [.int v])
  obtain ⟨hP, hD⟩ := lw_comm hP hD
  generalize H1 = H at hP hS ⊢
  generalize locs1 = locs at hS ⊢
  refine lv_aload_n hx hb d_law_221 rfl (lv_at hl 2 rfl) ?_
  refine lw_arg1 C0 hL hi hS hl d_law_222 d_law_223 d_law_224 d_law_225 d_law_226 ?_
  refine lw_arg2 C0 hL hi hS hl d_law_227 d_law_228 d_law_229 d_law_230 d_law_231 ?_
  refine lw_arg3 C0 hL hi hS hl d_law_232 d_law_233 d_law_234 d_law_235 d_law_236 ?_
  refine lw_arg4 C0 hL hi hS hl d_law_237 d_law_238 d_law_239 d_law_240 d_law_241 ?_
  refine lw_arg5 C0 hL hi hS hl d_law_242 d_law_243 d_law_244 d_law_245 d_law_246 ?_
  refine lw_vcall Cx (As := [.int (xs (i + 1)), .int (xs (i + 2)), .int (xs (i + 3)), .int (xs (i + 4)), .int (xs (i + 5))]) (rest := [.int v]) (w2 := mm_wr E adx (xs_H (.ref 9) (.ref 17) (.ref 9) pr s2)) (h := ms_H sm) (ad := adm) (Q := fun v2 h2 => v2 = some (.int v) ∧ h2 = ms_H m2) (hct (0 + 2) 1 _ _ _ (mt_feed xB 0 sm (xs (i + 1)) (xs (i + 2)) (xs (i + 3)) (xs (i + 4)) (xs (i + 5)) v m2 _ hg ⟨rfl, rfl⟩)) (by decide +kernel) (na := 6) (ci := 12) (by decide +kernel) rfl rfl lw_ln_17 rfl (by decide) (Nat.le_of_ble_eq_true rfl) hl.1 d_law_247 hP hD hS hfit (fun v2 h2 H1 locs1 hq _ hP hD hS => ?_)
  obtain ⟨rfl, rfl⟩ := hq
  show W p l e room_1 s m #[Value.ref b] below meth c H1 locs1 cells slots Z (F0 m 250 ls [.int v, .int v])
  obtain ⟨hP, hD⟩ := lw_comm hP hD
  refine lv_icmp_eq (tgt := 1046) hx hb d_law_250 (by decide) (fun c1 => ?_) (fun c1 => absurd rfl c1)
  exact kk s2 m2 adx pr H1 locs1 hRn rfl hP hD hS
set_option maxHeartbeats 4000000 in
set_option maxRecDepth 100000 in
theorem lw_k1 {p : Program} {l : Launch} {e : Env} {s : State} {m : MethodId} {below : List Frame} {meth : Method} {c : Code} {b L : Nat} {xs : Nat → Int32} {D : va_G} {E : Nat → ClassId} {Xt : mm_Xt} {Z : State → Prop} (Cx : lw_Cx p s m meth c b L xs D E Xt) (hct : ∀ (d mi : Nat) (as : List Value) (h : mm_H) (Q : mm_R), mm_ct xB mm_Mk mm_Fk mm_PC d mi as h Q → ∃ t1, mm_at mm_T mi = some t1 ∧ t1.2.2.1 ≤ 40 ∧ mm_Met l D E Xt (d + 12) t1 (mm_Mk mi).1 (mm_Mk mi).2 as h Q) {R : Nat → xs_S → ms_S → Prop} (hR : lw_s1 R) {n i cells slots : Nat} (hn : n < 512) (hL : L ≤ 3072) (hi : i + 6 ≤ L) (hfit : cells ≤ 600000 ∧ slots ≤ 7302249) {sx : xs_S} {sm : ms_S} {adx adm : Nat → Nat} {pr : Value} {H : Heap} {locs : List Loc} {ls : Array Slot} (hRR : R n sx sm) (hP : va_P D vwCl (mm_wr E adx (xs_H (.ref 9) (.ref 17) (.ref 9) pr sx) ++ mm_wr E adm (ms_H sm)) H) (hD : va_D (fun q : Nat => s.heap.size ≤ q) (mm_wr E adx (xs_H (.ref 9) (.ref 17) (.ref 9) pr sx) ++ mm_wr E adm (ms_H sm))) (hS : va_S (fun q : Nat => s.heap.size ≤ q) s.heap H locs) (hl : lv_has ls 4 [(0, .ref b), (1, .ref (adx 0)), (2, .ref (adm 0)), (3, .int (nI i))]) (kk : ∀ (sx2 : xs_S) (sm2 : ms_S) (adx2 : Nat → Nat) (pr2 : Value) (H1 : Heap) (locs1 : List Loc), R (n + 1) sx2 sm2 → adx2 0 = adx 0 → va_P D vwCl (mm_wr E adx2 (xs_H (.ref 9) (.ref 17) (.ref 9) pr2 sx2) ++ mm_wr E adm (ms_H sm2)) H1 → va_D (fun q : Nat => s.heap.size ≤ q) (mm_wr E adx2 (xs_H (.ref 9) (.ref 17) (.ref 9) pr2 sx2) ++ mm_wr E adm (ms_H sm2)) → va_S (fun q : Nat => s.heap.size ≤ q) s.heap H1 locs1 → W p l e room_1 s m #[Value.ref b] below meth c H1 locs1 cells slots Z (F0 m 1046 ls [])) : W p l e room_1 s m #[Value.ref b] below meth c H locs cells slots Z (F0 m 255 ls []) := by
  obtain ⟨v, s2, m2, hf, hg, hRn⟩ := hR n sx sm (xs (i + 1)) hRR hn
  have C0 := Cx.1
  obtain ⟨hx, hb, hr, hml, hown, hts, hX, hbl, hlocks, hgv⟩ := id C0
  refine lv_aload_n hx hb d_law_255 rfl (lv_at hl 1 rfl) ?_
  refine lw_arg1 C0 hL hi hS hl d_law_256 d_law_257 d_law_258 d_law_259 d_law_260 ?_
  refine lw_vcall Cx (As := [.int (xs (i + 1))]) (rest := []) (w2 := mm_wr E adm (ms_H sm)) (h := xs_H (.ref 9) (.ref 17) (.ref 9) pr sx) (ad := adx) (Q := fun v2 h2 => v2 = some (.int v) ∧ h2 = xs_H (.ref 9) (.ref 17) (.ref 9) pr s2) (hct (0 + 1) 226 _ _ _ (xt_11_back xB 0 (.ref 9) (.ref 17) (.ref 9) pr sx (xs (i + 1)) v s2 _ hf ⟨rfl, rfl⟩)) (by decide +kernel) (na := 2) (ci := 11) (by decide +kernel) rfl rfl lw_ln_18 rfl (by decide) (Nat.le_of_ble_eq_true rfl) hl.1 d_law_261 hP hD hS hfit (fun v2 h2 H1 locs1 hq _ hP hD hS => ?_)
  obtain ⟨rfl, rfl⟩ := hq
  show W p l e room_1 s m #[Value.ref b] below meth c H1 locs1 cells slots Z (F0 m 264 ls [.int v])
  obtain ⟨hP, hD⟩ := lw_comm hP hD
  generalize H1 = H at hP hS ⊢
  generalize locs1 = locs at hS ⊢
  refine lv_aload_n hx hb d_law_264 rfl (lv_at hl 2 rfl) ?_
  refine lw_arg1 C0 hL hi hS hl d_law_265 d_law_266 d_law_267 d_law_268 d_law_269 ?_
  refine lw_vcall Cx (As := [.int (xs (i + 1))]) (rest := [.int v]) (w2 := mm_wr E adx (xs_H (.ref 9) (.ref 17) (.ref 9) pr s2)) (h := ms_H sm) (ad := adm) (Q := fun v2 h2 => v2 = some (.int v) ∧ h2 = ms_H m2) (hct (0 + 1) 3 _ _ _ (mt_back xB 0 sm (xs (i + 1)) v m2 _ hg ⟨rfl, rfl⟩)) (by decide +kernel) (na := 2) (ci := 12) (by decide +kernel) rfl rfl lw_ln_22 rfl (by decide) (Nat.le_of_ble_eq_true rfl) hl.1 d_law_270 hP hD hS hfit (fun v2 h2 H1 locs1 hq _ hP hD hS => ?_)
  obtain ⟨rfl, rfl⟩ := hq
  show W p l e room_1 s m #[Value.ref b] below meth c H1 locs1 cells slots Z (F0 m 273 ls [.int v, .int v])
  obtain ⟨hP, hD⟩ := lw_comm hP hD
  refine lv_icmp_eq (tgt := 1046) hx hb d_law_273 (by decide) (fun c1 => ?_) (fun c1 => absurd rfl c1)
  exact kk s2 m2 adx pr H1 locs1 hRn rfl hP hD hS
set_option maxHeartbeats 4000000 in
set_option maxRecDepth 100000 in
theorem lw_k2 {p : Program} {l : Launch} {e : Env} {s : State} {m : MethodId} {below : List Frame} {meth : Method} {c : Code} {b L : Nat} {xs : Nat → Int32} {D : va_G} {E : Nat → ClassId} {Xt : mm_Xt} {Z : State → Prop} (Cx : lw_Cx p s m meth c b L xs D E Xt) (hct : ∀ (d mi : Nat) (as : List Value) (h : mm_H) (Q : mm_R), mm_ct xB mm_Mk mm_Fk mm_PC d mi as h Q → ∃ t1, mm_at mm_T mi = some t1 ∧ t1.2.2.1 ≤ 40 ∧ mm_Met l D E Xt (d + 12) t1 (mm_Mk mi).1 (mm_Mk mi).2 as h Q) {R : Nat → xs_S → ms_S → Prop} (hR : lw_s2 R) {n i cells slots : Nat} (hn : n < 512) (hL : L ≤ 3072) (hi : i + 6 ≤ L) (hfit : cells ≤ 600000 ∧ slots ≤ 7302249) {sx : xs_S} {sm : ms_S} {adx adm : Nat → Nat} {pr : Value} {H : Heap} {locs : List Loc} {ls : Array Slot} (hRR : R n sx sm) (hP : va_P D vwCl (mm_wr E adx (xs_H (.ref 9) (.ref 17) (.ref 9) pr sx) ++ mm_wr E adm (ms_H sm)) H) (hD : va_D (fun q : Nat => s.heap.size ≤ q) (mm_wr E adx (xs_H (.ref 9) (.ref 17) (.ref 9) pr sx) ++ mm_wr E adm (ms_H sm))) (hS : va_S (fun q : Nat => s.heap.size ≤ q) s.heap H locs) (hl : lv_has ls 4 [(0, .ref b), (1, .ref (adx 0)), (2, .ref (adm 0)), (3, .int (nI i))]) (kk : ∀ (sx2 : xs_S) (sm2 : ms_S) (adx2 : Nat → Nat) (pr2 : Value) (H1 : Heap) (locs1 : List Loc), R (n + 1) sx2 sm2 → adx2 0 = adx 0 → va_P D vwCl (mm_wr E adx2 (xs_H (.ref 9) (.ref 17) (.ref 9) pr2 sx2) ++ mm_wr E adm (ms_H sm2)) H1 → va_D (fun q : Nat => s.heap.size ≤ q) (mm_wr E adx2 (xs_H (.ref 9) (.ref 17) (.ref 9) pr2 sx2) ++ mm_wr E adm (ms_H sm2)) → va_S (fun q : Nat => s.heap.size ≤ q) s.heap H1 locs1 → W p l e room_1 s m #[Value.ref b] below meth c H1 locs1 cells slots Z (F0 m 1046 ls [])) : W p l e room_1 s m #[Value.ref b] below meth c H locs cells slots Z (F0 m 278 ls []) := by
  obtain ⟨v, s2, m2, hf, hg, hRn⟩ := hR n sx sm  hRR hn
  have C0 := Cx.1
  obtain ⟨hx, hb, hr, hml, hown, hts, hX, hbl, hlocks, hgv⟩ := id C0
  refine lv_aload_n hx hb d_law_278 rfl (lv_at hl 1 rfl) ?_
  refine lw_vcall Cx (As := []) (rest := []) (w2 := mm_wr E adm (ms_H sm)) (h := xs_H (.ref 9) (.ref 17) (.ref 9) pr sx) (ad := adx) (Q := fun v2 h2 => v2 = some (.int v) ∧ h2 = xr_end v s2) (hct (0 + 29) 227 _ _ _ (xt_11_read_u 0 pr sx  v s2 _ hf ⟨rfl, rfl⟩)) (by decide +kernel) (na := 1) (ci := 11) (by decide +kernel) rfl rfl lw_ln_23 rfl (by decide) (Nat.le_of_ble_eq_true rfl) hl.1 d_law_279 hP hD hS hfit (fun v2 h2 H1 locs1 hq _ hP hD hS => ?_)
  obtain ⟨rfl, rfl⟩ := hq
  show W p l e room_1 s m #[Value.ref b] below meth c H1 locs1 cells slots Z (F0 m 282 ls [.int v])
  obtain ⟨hP, hD⟩ := lw_comm hP hD
  generalize H1 = H at hP hS ⊢
  generalize locs1 = locs at hS ⊢
  refine lv_aload_n hx hb d_law_282 rfl (lv_at hl 2 rfl) ?_
  refine lw_vcall Cx (As := []) (rest := [.int v]) (w2 := mm_wr E adx (xr_end v s2)) (h := ms_H sm) (ad := adm) (Q := fun v2 h2 => v2 = some (.int v) ∧ h2 = ms_H m2) (hct (0 + 8) 18 _ _ _ (mt_read xB 0 sm  v m2 _ hg ⟨rfl, rfl⟩)) (by decide +kernel) (na := 1) (ci := 12) (by decide +kernel) rfl rfl lw_ln_27 rfl (by decide) (Nat.le_of_ble_eq_true rfl) hl.1 d_law_283 hP hD hS hfit (fun v2 h2 H1 locs1 hq _ hP hD hS => ?_)
  obtain ⟨rfl, rfl⟩ := hq
  show W p l e room_1 s m #[Value.ref b] below meth c H1 locs1 cells slots Z (F0 m 286 ls [.int v, .int v])
  obtain ⟨hP, hD⟩ := lw_comm hP hD
  refine lv_icmp_eq (tgt := 1046) hx hb d_law_286 (by decide) (fun c1 => ?_) (fun c1 => absurd rfl c1)
  unfold xr_end at hP hD
  unfold xs_ren at hRn
  by_cases hv : v = 0
  · rw [if_pos hv] at hP hD hRn
    obtain ⟨hP, hD⟩ := lw_perm lw_is lw_ren (by decide) hP hD
    exact kk (xs_sg s2) m2 (fun k => adx (xs_sgA k)) (.ref 9) H1 locs1 hRn rfl hP hD hS
  · rw [if_neg hv] at hP hD hRn
    exact kk s2 m2 adx (.ref 17) H1 locs1 hRn rfl hP hD hS
set_option maxHeartbeats 4000000 in
set_option maxRecDepth 100000 in
theorem lw_k3 {p : Program} {l : Launch} {e : Env} {s : State} {m : MethodId} {below : List Frame} {meth : Method} {c : Code} {b L : Nat} {xs : Nat → Int32} {D : va_G} {E : Nat → ClassId} {Xt : mm_Xt} {Z : State → Prop} (Cx : lw_Cx p s m meth c b L xs D E Xt) (hct : ∀ (d mi : Nat) (as : List Value) (h : mm_H) (Q : mm_R), mm_ct xB mm_Mk mm_Fk mm_PC d mi as h Q → ∃ t1, mm_at mm_T mi = some t1 ∧ t1.2.2.1 ≤ 40 ∧ mm_Met l D E Xt (d + 12) t1 (mm_Mk mi).1 (mm_Mk mi).2 as h Q) {R : Nat → xs_S → ms_S → Prop} (hR : lw_s3 R) {n i cells slots : Nat} (hn : n < 512) (hL : L ≤ 3072) (hi : i + 6 ≤ L) (hfit : cells ≤ 600000 ∧ slots ≤ 7302249) {sx : xs_S} {sm : ms_S} {adx adm : Nat → Nat} {pr : Value} {H : Heap} {locs : List Loc} {ls : Array Slot} (hRR : R n sx sm) (hP : va_P D vwCl (mm_wr E adx (xs_H (.ref 9) (.ref 17) (.ref 9) pr sx) ++ mm_wr E adm (ms_H sm)) H) (hD : va_D (fun q : Nat => s.heap.size ≤ q) (mm_wr E adx (xs_H (.ref 9) (.ref 17) (.ref 9) pr sx) ++ mm_wr E adm (ms_H sm))) (hS : va_S (fun q : Nat => s.heap.size ≤ q) s.heap H locs) (hl : lv_has ls 4 [(0, .ref b), (1, .ref (adx 0)), (2, .ref (adm 0)), (3, .int (nI i))]) (kk : ∀ (sx2 : xs_S) (sm2 : ms_S) (adx2 : Nat → Nat) (pr2 : Value) (H1 : Heap) (locs1 : List Loc), R (n + 1) sx2 sm2 → adx2 0 = adx 0 → va_P D vwCl (mm_wr E adx2 (xs_H (.ref 9) (.ref 17) (.ref 9) pr2 sx2) ++ mm_wr E adm (ms_H sm2)) H1 → va_D (fun q : Nat => s.heap.size ≤ q) (mm_wr E adx2 (xs_H (.ref 9) (.ref 17) (.ref 9) pr2 sx2) ++ mm_wr E adm (ms_H sm2)) → va_S (fun q : Nat => s.heap.size ≤ q) s.heap H1 locs1 → W p l e room_1 s m #[Value.ref b] below meth c H1 locs1 cells slots Z (F0 m 1046 ls [])) : W p l e room_1 s m #[Value.ref b] below meth c H locs cells slots Z (F0 m 291 ls []) := by
  obtain ⟨v, s2, m2, hf, hg, hRn⟩ := hR n sx sm  hRR hn
  have C0 := Cx.1
  obtain ⟨hx, hb, hr, hml, hown, hts, hX, hbl, hlocks, hgv⟩ := id C0
  refine lv_aload_n hx hb d_law_291 rfl (lv_at hl 1 rfl) ?_
  refine lw_vcall Cx (As := []) (rest := []) (w2 := mm_wr E adm (ms_H sm)) (h := xs_H (.ref 9) (.ref 17) (.ref 9) pr sx) (ad := adx) (Q := fun v2 h2 => v2 = some (.int v) ∧ h2 = xs_H (.ref 9) (.ref 17) (.ref 9) pr s2) (hct (0 + 1) 228 _ _ _ (xt_11_place xB 0 (.ref 9) (.ref 17) (.ref 9) pr sx  v s2 _ hf ⟨rfl, rfl⟩)) (by decide +kernel) (na := 1) (ci := 11) (by decide +kernel) rfl rfl lw_ln_28 rfl (by decide) (Nat.le_of_ble_eq_true rfl) hl.1 d_law_292 hP hD hS hfit (fun v2 h2 H1 locs1 hq _ hP hD hS => ?_)
  obtain ⟨rfl, rfl⟩ := hq
  show W p l e room_1 s m #[Value.ref b] below meth c H1 locs1 cells slots Z (F0 m 295 ls [.int v])
  obtain ⟨hP, hD⟩ := lw_comm hP hD
  generalize H1 = H at hP hS ⊢
  generalize locs1 = locs at hS ⊢
  refine lv_aload_n hx hb d_law_295 rfl (lv_at hl 2 rfl) ?_
  refine lw_vcall Cx (As := []) (rest := [.int v]) (w2 := mm_wr E adx (xs_H (.ref 9) (.ref 17) (.ref 9) pr s2)) (h := ms_H sm) (ad := adm) (Q := fun v2 h2 => v2 = some (.int v) ∧ h2 = ms_H m2) (hct (0 + 1) 19 _ _ _ (mt_place xB 0 sm  v m2 _ hg ⟨rfl, rfl⟩)) (by decide +kernel) (na := 1) (ci := 12) (by decide +kernel) rfl rfl lw_ln_31 rfl (by decide) (Nat.le_of_ble_eq_true rfl) hl.1 d_law_296 hP hD hS hfit (fun v2 h2 H1 locs1 hq _ hP hD hS => ?_)
  obtain ⟨rfl, rfl⟩ := hq
  show W p l e room_1 s m #[Value.ref b] below meth c H1 locs1 cells slots Z (F0 m 299 ls [.int v, .int v])
  obtain ⟨hP, hD⟩ := lw_comm hP hD
  refine lv_icmp_eq (tgt := 1046) hx hb d_law_299 (by decide) (fun c1 => ?_) (fun c1 => absurd rfl c1)
  exact kk s2 m2 adx pr H1 locs1 hRn rfl hP hD hS
set_option maxHeartbeats 4000000 in
set_option maxRecDepth 100000 in
theorem lw_k4 {p : Program} {l : Launch} {e : Env} {s : State} {m : MethodId} {below : List Frame} {meth : Method} {c : Code} {b L : Nat} {xs : Nat → Int32} {D : va_G} {E : Nat → ClassId} {Xt : mm_Xt} {Z : State → Prop} (Cx : lw_Cx p s m meth c b L xs D E Xt) (hct : ∀ (d mi : Nat) (as : List Value) (h : mm_H) (Q : mm_R), mm_ct xB mm_Mk mm_Fk mm_PC d mi as h Q → ∃ t1, mm_at mm_T mi = some t1 ∧ t1.2.2.1 ≤ 40 ∧ mm_Met l D E Xt (d + 12) t1 (mm_Mk mi).1 (mm_Mk mi).2 as h Q) {R : Nat → xs_S → ms_S → Prop} (hR : lw_s4 R) {n i cells slots : Nat} (hn : n < 512) (hL : L ≤ 3072) (hi : i + 6 ≤ L) (hfit : cells ≤ 600000 ∧ slots ≤ 7302249) {sx : xs_S} {sm : ms_S} {adx adm : Nat → Nat} {pr : Value} {H : Heap} {locs : List Loc} {ls : Array Slot} (hRR : R n sx sm) (hP : va_P D vwCl (mm_wr E adx (xs_H (.ref 9) (.ref 17) (.ref 9) pr sx) ++ mm_wr E adm (ms_H sm)) H) (hD : va_D (fun q : Nat => s.heap.size ≤ q) (mm_wr E adx (xs_H (.ref 9) (.ref 17) (.ref 9) pr sx) ++ mm_wr E adm (ms_H sm))) (hS : va_S (fun q : Nat => s.heap.size ≤ q) s.heap H locs) (hl : lv_has ls 4 [(0, .ref b), (1, .ref (adx 0)), (2, .ref (adm 0)), (3, .int (nI i))]) (kk : ∀ (sx2 : xs_S) (sm2 : ms_S) (adx2 : Nat → Nat) (pr2 : Value) (H1 : Heap) (locs1 : List Loc), R (n + 1) sx2 sm2 → adx2 0 = adx 0 → va_P D vwCl (mm_wr E adx2 (xs_H (.ref 9) (.ref 17) (.ref 9) pr2 sx2) ++ mm_wr E adm (ms_H sm2)) H1 → va_D (fun q : Nat => s.heap.size ≤ q) (mm_wr E adx2 (xs_H (.ref 9) (.ref 17) (.ref 9) pr2 sx2) ++ mm_wr E adm (ms_H sm2)) → va_S (fun q : Nat => s.heap.size ≤ q) s.heap H1 locs1 → W p l e room_1 s m #[Value.ref b] below meth c H1 locs1 cells slots Z (F0 m 1046 ls [])) : W p l e room_1 s m #[Value.ref b] below meth c H locs cells slots Z (F0 m 304 ls []) := by
  obtain ⟨v, s2, m2, hf, hg, hRn⟩ := hR n sx sm (xs (i + 1)) (xs (i + 2)) hRR hn
  have C0 := Cx.1
  obtain ⟨hx, hb, hr, hml, hown, hts, hX, hbl, hlocks, hgv⟩ := id C0
  refine lv_aload_n hx hb d_law_304 rfl (lv_at hl 1 rfl) ?_
  refine lw_arg1 C0 hL hi hS hl d_law_305 d_law_306 d_law_307 d_law_308 d_law_309 ?_
  refine lw_arg2 C0 hL hi hS hl d_law_310 d_law_311 d_law_312 d_law_313 d_law_314 ?_
  refine lw_vcall Cx (As := [.int (xs (i + 1)), .int (xs (i + 2))]) (rest := []) (w2 := mm_wr E adm (ms_H sm)) (h := xs_H (.ref 9) (.ref 17) (.ref 9) pr sx) (ad := adx) (Q := fun v2 h2 => v2 = some (.int v) ∧ h2 = xs_H (.ref 9) (.ref 17) (.ref 9) pr s2) (hct (0 + 2) 229 _ _ _ (xt_11_speaker xB 0 (.ref 17) (.ref 9) pr sx (xs (i + 1)) (xs (i + 2)) v s2 _ hf ⟨rfl, rfl⟩)) (by decide +kernel) (na := 3) (ci := 11) (by decide +kernel) rfl rfl lw_ln_32 rfl (by decide) (Nat.le_of_ble_eq_true rfl) hl.1 d_law_315 hP hD hS hfit (fun v2 h2 H1 locs1 hq _ hP hD hS => ?_)
  obtain ⟨rfl, rfl⟩ := hq
  show W p l e room_1 s m #[Value.ref b] below meth c H1 locs1 cells slots Z (F0 m 318 ls [.int v])
  obtain ⟨hP, hD⟩ := lw_comm hP hD
  generalize H1 = H at hP hS ⊢
  generalize locs1 = locs at hS ⊢
  refine lv_aload_n hx hb d_law_318 rfl (lv_at hl 2 rfl) ?_
  refine lw_arg1 C0 hL hi hS hl d_law_319 d_law_320 d_law_321 d_law_322 d_law_323 ?_
  refine lw_arg2 C0 hL hi hS hl d_law_324 d_law_325 d_law_326 d_law_327 d_law_328 ?_
  refine lw_vcall Cx (As := [.int (xs (i + 1)), .int (xs (i + 2))]) (rest := [.int v]) (w2 := mm_wr E adx (xs_H (.ref 9) (.ref 17) (.ref 9) pr s2)) (h := ms_H sm) (ad := adm) (Q := fun v2 h2 => v2 = some (.int v) ∧ h2 = ms_H m2) (hct (0 + 3) 69 _ _ _ (mt_speaker xB 0 sm (xs (i + 1)) (xs (i + 2)) v m2 _ hg ⟨rfl, rfl⟩)) (by decide +kernel) (na := 3) (ci := 12) (by decide +kernel) rfl rfl lw_ln_36 rfl (by decide) (Nat.le_of_ble_eq_true rfl) hl.1 d_law_329 hP hD hS hfit (fun v2 h2 H1 locs1 hq _ hP hD hS => ?_)
  obtain ⟨rfl, rfl⟩ := hq
  show W p l e room_1 s m #[Value.ref b] below meth c H1 locs1 cells slots Z (F0 m 332 ls [.int v, .int v])
  obtain ⟨hP, hD⟩ := lw_comm hP hD
  refine lv_icmp_eq (tgt := 1046) hx hb d_law_332 (by decide) (fun c1 => ?_) (fun c1 => absurd rfl c1)
  exact kk s2 m2 adx pr H1 locs1 hRn rfl hP hD hS
set_option maxHeartbeats 4000000 in
set_option maxRecDepth 100000 in
theorem lw_k5 {p : Program} {l : Launch} {e : Env} {s : State} {m : MethodId} {below : List Frame} {meth : Method} {c : Code} {b L : Nat} {xs : Nat → Int32} {D : va_G} {E : Nat → ClassId} {Xt : mm_Xt} {Z : State → Prop} (Cx : lw_Cx p s m meth c b L xs D E Xt) (hct : ∀ (d mi : Nat) (as : List Value) (h : mm_H) (Q : mm_R), mm_ct xB mm_Mk mm_Fk mm_PC d mi as h Q → ∃ t1, mm_at mm_T mi = some t1 ∧ t1.2.2.1 ≤ 40 ∧ mm_Met l D E Xt (d + 12) t1 (mm_Mk mi).1 (mm_Mk mi).2 as h Q) {R : Nat → xs_S → ms_S → Prop} (hR : lw_s5 R) {n i cells slots : Nat} (hn : n < 512) (hL : L ≤ 3072) (hi : i + 6 ≤ L) (hfit : cells ≤ 600000 ∧ slots ≤ 7302249) {sx : xs_S} {sm : ms_S} {adx adm : Nat → Nat} {pr : Value} {H : Heap} {locs : List Loc} {ls : Array Slot} (hRR : R n sx sm) (hP : va_P D vwCl (mm_wr E adx (xs_H (.ref 9) (.ref 17) (.ref 9) pr sx) ++ mm_wr E adm (ms_H sm)) H) (hD : va_D (fun q : Nat => s.heap.size ≤ q) (mm_wr E adx (xs_H (.ref 9) (.ref 17) (.ref 9) pr sx) ++ mm_wr E adm (ms_H sm))) (hS : va_S (fun q : Nat => s.heap.size ≤ q) s.heap H locs) (hl : lv_has ls 4 [(0, .ref b), (1, .ref (adx 0)), (2, .ref (adm 0)), (3, .int (nI i))]) (kk : ∀ (sx2 : xs_S) (sm2 : ms_S) (adx2 : Nat → Nat) (pr2 : Value) (H1 : Heap) (locs1 : List Loc), R (n + 1) sx2 sm2 → adx2 0 = adx 0 → va_P D vwCl (mm_wr E adx2 (xs_H (.ref 9) (.ref 17) (.ref 9) pr2 sx2) ++ mm_wr E adm (ms_H sm2)) H1 → va_D (fun q : Nat => s.heap.size ≤ q) (mm_wr E adx2 (xs_H (.ref 9) (.ref 17) (.ref 9) pr2 sx2) ++ mm_wr E adm (ms_H sm2)) → va_S (fun q : Nat => s.heap.size ≤ q) s.heap H1 locs1 → W p l e room_1 s m #[Value.ref b] below meth c H1 locs1 cells slots Z (F0 m 1046 ls [])) : W p l e room_1 s m #[Value.ref b] below meth c H locs cells slots Z (F0 m 337 ls []) := by
  obtain ⟨v, s2, m2, hf, hg, hRn⟩ := hR n sx sm (xs (i + 1)) (xs (i + 2)) hRR hn
  have C0 := Cx.1
  obtain ⟨hx, hb, hr, hml, hown, hts, hX, hbl, hlocks, hgv⟩ := id C0
  refine lv_aload_n hx hb d_law_337 rfl (lv_at hl 1 rfl) ?_
  refine lw_arg1 C0 hL hi hS hl d_law_338 d_law_339 d_law_340 d_law_341 d_law_342 ?_
  refine lw_arg2 C0 hL hi hS hl d_law_343 d_law_344 d_law_345 d_law_346 d_law_347 ?_
  refine lw_vcall Cx (As := [.int (xs (i + 1)), .int (xs (i + 2))]) (rest := []) (w2 := mm_wr E adm (ms_H sm)) (h := xs_H (.ref 9) (.ref 17) (.ref 9) pr sx) (ad := adx) (Q := fun v2 h2 => v2 = some (.int v) ∧ h2 = xs_H (.ref 9) (.ref 17) (.ref 9) pr s2) (hct (0 + 6) 230 _ _ _ (xt_11_word xB 0 (.ref 17) pr sx (xs (i + 1)) (xs (i + 2)) v s2 _ hf ⟨rfl, rfl⟩)) (by decide +kernel) (na := 3) (ci := 11) (by decide +kernel) rfl rfl lw_ln_37 rfl (by decide) (Nat.le_of_ble_eq_true rfl) hl.1 d_law_348 hP hD hS hfit (fun v2 h2 H1 locs1 hq _ hP hD hS => ?_)
  obtain ⟨rfl, rfl⟩ := hq
  show W p l e room_1 s m #[Value.ref b] below meth c H1 locs1 cells slots Z (F0 m 351 ls [.int v])
  obtain ⟨hP, hD⟩ := lw_comm hP hD
  generalize H1 = H at hP hS ⊢
  generalize locs1 = locs at hS ⊢
  refine lv_aload_n hx hb d_law_351 rfl (lv_at hl 2 rfl) ?_
  refine lw_arg1 C0 hL hi hS hl d_law_352 d_law_353 d_law_354 d_law_355 d_law_356 ?_
  refine lw_arg2 C0 hL hi hS hl d_law_357 d_law_358 d_law_359 d_law_360 d_law_361 ?_
  refine lw_vcall Cx (As := [.int (xs (i + 1)), .int (xs (i + 2))]) (rest := [.int v]) (w2 := mm_wr E adx (xs_H (.ref 9) (.ref 17) (.ref 9) pr s2)) (h := ms_H sm) (ad := adm) (Q := fun v2 h2 => v2 = some (.int v) ∧ h2 = ms_H m2) (hct (0 + 5) 70 _ _ _ (mt_word xB 0 sm (xs (i + 1)) (xs (i + 2)) v m2 _ hg ⟨rfl, rfl⟩)) (by decide +kernel) (na := 3) (ci := 12) (by decide +kernel) rfl rfl lw_ln_40 rfl (by decide) (Nat.le_of_ble_eq_true rfl) hl.1 d_law_362 hP hD hS hfit (fun v2 h2 H1 locs1 hq _ hP hD hS => ?_)
  obtain ⟨rfl, rfl⟩ := hq
  show W p l e room_1 s m #[Value.ref b] below meth c H1 locs1 cells slots Z (F0 m 365 ls [.int v, .int v])
  obtain ⟨hP, hD⟩ := lw_comm hP hD
  refine lv_icmp_eq (tgt := 1046) hx hb d_law_365 (by decide) (fun c1 => ?_) (fun c1 => absurd rfl c1)
  exact kk s2 m2 adx pr H1 locs1 hRn rfl hP hD hS
set_option maxHeartbeats 4000000 in
set_option maxRecDepth 100000 in
theorem lw_k6 {p : Program} {l : Launch} {e : Env} {s : State} {m : MethodId} {below : List Frame} {meth : Method} {c : Code} {b L : Nat} {xs : Nat → Int32} {D : va_G} {E : Nat → ClassId} {Xt : mm_Xt} {Z : State → Prop} (Cx : lw_Cx p s m meth c b L xs D E Xt) (hct : ∀ (d mi : Nat) (as : List Value) (h : mm_H) (Q : mm_R), mm_ct xB mm_Mk mm_Fk mm_PC d mi as h Q → ∃ t1, mm_at mm_T mi = some t1 ∧ t1.2.2.1 ≤ 40 ∧ mm_Met l D E Xt (d + 12) t1 (mm_Mk mi).1 (mm_Mk mi).2 as h Q) {R : Nat → xs_S → ms_S → Prop} (hR : lw_s6 R) {n i cells slots : Nat} (hn : n < 512) (hL : L ≤ 3072) (hi : i + 6 ≤ L) (hfit : cells ≤ 600000 ∧ slots ≤ 7302249) {sx : xs_S} {sm : ms_S} {adx adm : Nat → Nat} {pr : Value} {H : Heap} {locs : List Loc} {ls : Array Slot} (hRR : R n sx sm) (hP : va_P D vwCl (mm_wr E adx (xs_H (.ref 9) (.ref 17) (.ref 9) pr sx) ++ mm_wr E adm (ms_H sm)) H) (hD : va_D (fun q : Nat => s.heap.size ≤ q) (mm_wr E adx (xs_H (.ref 9) (.ref 17) (.ref 9) pr sx) ++ mm_wr E adm (ms_H sm))) (hS : va_S (fun q : Nat => s.heap.size ≤ q) s.heap H locs) (hl : lv_has ls 4 [(0, .ref b), (1, .ref (adx 0)), (2, .ref (adm 0)), (3, .int (nI i))]) (kk : ∀ (sx2 : xs_S) (sm2 : ms_S) (adx2 : Nat → Nat) (pr2 : Value) (H1 : Heap) (locs1 : List Loc), R (n + 1) sx2 sm2 → adx2 0 = adx 0 → va_P D vwCl (mm_wr E adx2 (xs_H (.ref 9) (.ref 17) (.ref 9) pr2 sx2) ++ mm_wr E adm (ms_H sm2)) H1 → va_D (fun q : Nat => s.heap.size ≤ q) (mm_wr E adx2 (xs_H (.ref 9) (.ref 17) (.ref 9) pr2 sx2) ++ mm_wr E adm (ms_H sm2)) → va_S (fun q : Nat => s.heap.size ≤ q) s.heap H1 locs1 → W p l e room_1 s m #[Value.ref b] below meth c H1 locs1 cells slots Z (F0 m 1046 ls [])) : W p l e room_1 s m #[Value.ref b] below meth c H locs cells slots Z (F0 m 370 ls []) := by
  obtain ⟨v, s2, m2, hf, hg, hRn⟩ := hR n sx sm (xs (i + 1)) hRR hn
  have C0 := Cx.1
  obtain ⟨hx, hb, hr, hml, hown, hts, hX, hbl, hlocks, hgv⟩ := id C0
  refine lv_aload_n hx hb d_law_370 rfl (lv_at hl 1 rfl) ?_
  refine lw_arg1 C0 hL hi hS hl d_law_371 d_law_372 d_law_373 d_law_374 d_law_375 ?_
  refine lw_vcall Cx (As := [.int (xs (i + 1))]) (rest := []) (w2 := mm_wr E adm (ms_H sm)) (h := xs_H (.ref 9) (.ref 17) (.ref 9) pr sx) (ad := adx) (Q := fun v2 h2 => v2 = some (.int v) ∧ h2 = xs_H (.ref 9) (.ref 17) (.ref 9) pr s2) (hct (0 + 6) 231 _ _ _ (xt_11_say xB 0 (.ref 17) pr sx (xs (i + 1)) v s2 _ hf ⟨rfl, rfl⟩)) (by decide +kernel) (na := 2) (ci := 11) (by decide +kernel) rfl rfl lw_ln_41 rfl (by decide) (Nat.le_of_ble_eq_true rfl) hl.1 d_law_376 hP hD hS hfit (fun v2 h2 H1 locs1 hq _ hP hD hS => ?_)
  obtain ⟨rfl, rfl⟩ := hq
  show W p l e room_1 s m #[Value.ref b] below meth c H1 locs1 cells slots Z (F0 m 379 ls [.int v])
  obtain ⟨hP, hD⟩ := lw_comm hP hD
  generalize H1 = H at hP hS ⊢
  generalize locs1 = locs at hS ⊢
  refine lv_aload_n hx hb d_law_379 rfl (lv_at hl 2 rfl) ?_
  refine lw_arg1 C0 hL hi hS hl d_law_380 d_law_381 d_law_382 d_law_383 d_law_384 ?_
  refine lw_vcall Cx (As := [.int (xs (i + 1))]) (rest := [.int v]) (w2 := mm_wr E adx (xs_H (.ref 9) (.ref 17) (.ref 9) pr s2)) (h := ms_H sm) (ad := adm) (Q := fun v2 h2 => v2 = some (.int v) ∧ h2 = ms_H m2) (hct (0 + 5) 72 _ _ _ (mt_say xB 0 sm (xs (i + 1)) v m2 _ hg ⟨rfl, rfl⟩)) (by decide +kernel) (na := 2) (ci := 12) (by decide +kernel) rfl rfl lw_ln_44 rfl (by decide) (Nat.le_of_ble_eq_true rfl) hl.1 d_law_385 hP hD hS hfit (fun v2 h2 H1 locs1 hq _ hP hD hS => ?_)
  obtain ⟨rfl, rfl⟩ := hq
  show W p l e room_1 s m #[Value.ref b] below meth c H1 locs1 cells slots Z (F0 m 388 ls [.int v, .int v])
  obtain ⟨hP, hD⟩ := lw_comm hP hD
  refine lv_icmp_eq (tgt := 1046) hx hb d_law_388 (by decide) (fun c1 => ?_) (fun c1 => absurd rfl c1)
  exact kk s2 m2 adx pr H1 locs1 hRn rfl hP hD hS
set_option maxHeartbeats 4000000 in
set_option maxRecDepth 100000 in
theorem lw_k7 {p : Program} {l : Launch} {e : Env} {s : State} {m : MethodId} {below : List Frame} {meth : Method} {c : Code} {b L : Nat} {xs : Nat → Int32} {D : va_G} {E : Nat → ClassId} {Xt : mm_Xt} {Z : State → Prop} (Cx : lw_Cx p s m meth c b L xs D E Xt) (hct : ∀ (d mi : Nat) (as : List Value) (h : mm_H) (Q : mm_R), mm_ct xB mm_Mk mm_Fk mm_PC d mi as h Q → ∃ t1, mm_at mm_T mi = some t1 ∧ t1.2.2.1 ≤ 40 ∧ mm_Met l D E Xt (d + 12) t1 (mm_Mk mi).1 (mm_Mk mi).2 as h Q) {R : Nat → xs_S → ms_S → Prop} (hR : lw_s7 R) {n i cells slots : Nat} (hn : n < 512) (hL : L ≤ 3072) (hi : i + 6 ≤ L) (hfit : cells ≤ 600000 ∧ slots ≤ 7302249) {sx : xs_S} {sm : ms_S} {adx adm : Nat → Nat} {pr : Value} {H : Heap} {locs : List Loc} {ls : Array Slot} (hRR : R n sx sm) (hP : va_P D vwCl (mm_wr E adx (xs_H (.ref 9) (.ref 17) (.ref 9) pr sx) ++ mm_wr E adm (ms_H sm)) H) (hD : va_D (fun q : Nat => s.heap.size ≤ q) (mm_wr E adx (xs_H (.ref 9) (.ref 17) (.ref 9) pr sx) ++ mm_wr E adm (ms_H sm))) (hS : va_S (fun q : Nat => s.heap.size ≤ q) s.heap H locs) (hl : lv_has ls 4 [(0, .ref b), (1, .ref (adx 0)), (2, .ref (adm 0)), (3, .int (nI i))]) (kk : ∀ (sx2 : xs_S) (sm2 : ms_S) (adx2 : Nat → Nat) (pr2 : Value) (H1 : Heap) (locs1 : List Loc), R (n + 1) sx2 sm2 → adx2 0 = adx 0 → va_P D vwCl (mm_wr E adx2 (xs_H (.ref 9) (.ref 17) (.ref 9) pr2 sx2) ++ mm_wr E adm (ms_H sm2)) H1 → va_D (fun q : Nat => s.heap.size ≤ q) (mm_wr E adx2 (xs_H (.ref 9) (.ref 17) (.ref 9) pr2 sx2) ++ mm_wr E adm (ms_H sm2)) → va_S (fun q : Nat => s.heap.size ≤ q) s.heap H1 locs1 → W p l e room_1 s m #[Value.ref b] below meth c H1 locs1 cells slots Z (F0 m 1046 ls [])) : W p l e room_1 s m #[Value.ref b] below meth c H locs cells slots Z (F0 m 393 ls []) := by
  obtain ⟨v, s2, m2, hf, hg, hRn⟩ := hR n sx sm  hRR hn
  have C0 := Cx.1
  obtain ⟨hx, hb, hr, hml, hown, hts, hX, hbl, hlocks, hgv⟩ := id C0
  refine lv_aload_n hx hb d_law_393 rfl (lv_at hl 1 rfl) ?_
  refine lw_vcall Cx (As := []) (rest := []) (w2 := mm_wr E adm (ms_H sm)) (h := xs_H (.ref 9) (.ref 17) (.ref 9) pr sx) (ad := adx) (Q := fun v2 h2 => v2 = some (.int v) ∧ h2 = xs_H (.ref 9) (.ref 17) (.ref 9) pr s2) (hct (0 + 6) 232 _ _ _ (xt_11_pass xB 0 (.ref 9) (.ref 17) pr sx  v s2 _ hf ⟨rfl, rfl⟩)) (by decide +kernel) (na := 1) (ci := 11) (by decide +kernel) rfl rfl lw_ln_45 rfl (by decide) (Nat.le_of_ble_eq_true rfl) hl.1 d_law_394 hP hD hS hfit (fun v2 h2 H1 locs1 hq _ hP hD hS => ?_)
  obtain ⟨rfl, rfl⟩ := hq
  show W p l e room_1 s m #[Value.ref b] below meth c H1 locs1 cells slots Z (F0 m 397 ls [.int v])
  obtain ⟨hP, hD⟩ := lw_comm hP hD
  generalize H1 = H at hP hS ⊢
  generalize locs1 = locs at hS ⊢
  refine lv_aload_n hx hb d_law_397 rfl (lv_at hl 2 rfl) ?_
  refine lw_vcall Cx (As := []) (rest := [.int v]) (w2 := mm_wr E adx (xs_H (.ref 9) (.ref 17) (.ref 9) pr s2)) (h := ms_H sm) (ad := adm) (Q := fun v2 h2 => v2 = some (.int v) ∧ h2 = ms_H m2) (hct (0 + 7) 74 _ _ _ (mt_pass xB 0 sm  v m2 _ hg ⟨rfl, rfl⟩)) (by decide +kernel) (na := 1) (ci := 12) (by decide +kernel) rfl rfl lw_ln_48 rfl (by decide) (Nat.le_of_ble_eq_true rfl) hl.1 d_law_398 hP hD hS hfit (fun v2 h2 H1 locs1 hq _ hP hD hS => ?_)
  obtain ⟨rfl, rfl⟩ := hq
  show W p l e room_1 s m #[Value.ref b] below meth c H1 locs1 cells slots Z (F0 m 401 ls [.int v, .int v])
  obtain ⟨hP, hD⟩ := lw_comm hP hD
  refine lv_icmp_eq (tgt := 1046) hx hb d_law_401 (by decide) (fun c1 => ?_) (fun c1 => absurd rfl c1)
  exact kk s2 m2 adx pr H1 locs1 hRn rfl hP hD hS
set_option maxHeartbeats 4000000 in
set_option maxRecDepth 100000 in
theorem lw_k8 {p : Program} {l : Launch} {e : Env} {s : State} {m : MethodId} {below : List Frame} {meth : Method} {c : Code} {b L : Nat} {xs : Nat → Int32} {D : va_G} {E : Nat → ClassId} {Xt : mm_Xt} {Z : State → Prop} (Cx : lw_Cx p s m meth c b L xs D E Xt) (hct : ∀ (d mi : Nat) (as : List Value) (h : mm_H) (Q : mm_R), mm_ct xB mm_Mk mm_Fk mm_PC d mi as h Q → ∃ t1, mm_at mm_T mi = some t1 ∧ t1.2.2.1 ≤ 40 ∧ mm_Met l D E Xt (d + 12) t1 (mm_Mk mi).1 (mm_Mk mi).2 as h Q) {R : Nat → xs_S → ms_S → Prop} (hR : lw_s8 R) {n i cells slots : Nat} (hn : n < 512) (hL : L ≤ 3072) (hi : i + 6 ≤ L) (hfit : cells ≤ 600000 ∧ slots ≤ 7302249) {sx : xs_S} {sm : ms_S} {adx adm : Nat → Nat} {pr : Value} {H : Heap} {locs : List Loc} {ls : Array Slot} (hRR : R n sx sm) (hP : va_P D vwCl (mm_wr E adx (xs_H (.ref 9) (.ref 17) (.ref 9) pr sx) ++ mm_wr E adm (ms_H sm)) H) (hD : va_D (fun q : Nat => s.heap.size ≤ q) (mm_wr E adx (xs_H (.ref 9) (.ref 17) (.ref 9) pr sx) ++ mm_wr E adm (ms_H sm))) (hS : va_S (fun q : Nat => s.heap.size ≤ q) s.heap H locs) (hl : lv_has ls 4 [(0, .ref b), (1, .ref (adx 0)), (2, .ref (adm 0)), (3, .int (nI i))]) (kk : ∀ (sx2 : xs_S) (sm2 : ms_S) (adx2 : Nat → Nat) (pr2 : Value) (H1 : Heap) (locs1 : List Loc), R (n + 1) sx2 sm2 → adx2 0 = adx 0 → va_P D vwCl (mm_wr E adx2 (xs_H (.ref 9) (.ref 17) (.ref 9) pr2 sx2) ++ mm_wr E adm (ms_H sm2)) H1 → va_D (fun q : Nat => s.heap.size ≤ q) (mm_wr E adx2 (xs_H (.ref 9) (.ref 17) (.ref 9) pr2 sx2) ++ mm_wr E adm (ms_H sm2)) → va_S (fun q : Nat => s.heap.size ≤ q) s.heap H1 locs1 → W p l e room_1 s m #[Value.ref b] below meth c H1 locs1 cells slots Z (F0 m 1046 ls [])) : W p l e room_1 s m #[Value.ref b] below meth c H locs cells slots Z (F0 m 406 ls []) := by
  obtain ⟨v, s2, m2, hf, hg, hRn⟩ := hR n sx sm (xs (i + 1)) (xs (i + 2)) hRR hn
  have C0 := Cx.1
  obtain ⟨hx, hb, hr, hml, hown, hts, hX, hbl, hlocks, hgv⟩ := id C0
  refine lv_aload_n hx hb d_law_406 rfl (lv_at hl 1 rfl) ?_
  refine lw_arg1 C0 hL hi hS hl d_law_407 d_law_408 d_law_409 d_law_410 d_law_411 ?_
  refine lw_arg2 C0 hL hi hS hl d_law_412 d_law_413 d_law_414 d_law_415 d_law_416 ?_
  refine lw_vcall Cx (As := [.int (xs (i + 1)), .int (xs (i + 2))]) (rest := []) (w2 := mm_wr E adm (ms_H sm)) (h := xs_H (.ref 9) (.ref 17) (.ref 9) pr sx) (ad := adx) (Q := fun v2 h2 => v2 = some (.int v) ∧ h2 = xs_H (.ref 9) (.ref 17) (.ref 9) pr s2) (hct (0 + 5) 233 _ _ _ (xt_11_hire xB 0 (.ref 17) pr sx (xs (i + 1)) (xs (i + 2)) v s2 _ hf ⟨rfl, rfl⟩)) (by decide +kernel) (na := 3) (ci := 11) (by decide +kernel) rfl rfl lw_ln_49 rfl (by decide) (Nat.le_of_ble_eq_true rfl) hl.1 d_law_417 hP hD hS hfit (fun v2 h2 H1 locs1 hq _ hP hD hS => ?_)
  obtain ⟨rfl, rfl⟩ := hq
  show W p l e room_1 s m #[Value.ref b] below meth c H1 locs1 cells slots Z (F0 m 420 ls [.int v])
  obtain ⟨hP, hD⟩ := lw_comm hP hD
  generalize H1 = H at hP hS ⊢
  generalize locs1 = locs at hS ⊢
  refine lv_aload_n hx hb d_law_420 rfl (lv_at hl 2 rfl) ?_
  refine lw_arg1 C0 hL hi hS hl d_law_421 d_law_422 d_law_423 d_law_424 d_law_425 ?_
  refine lw_arg2 C0 hL hi hS hl d_law_426 d_law_427 d_law_428 d_law_429 d_law_430 ?_
  refine lw_vcall Cx (As := [.int (xs (i + 1)), .int (xs (i + 2))]) (rest := [.int v]) (w2 := mm_wr E adx (xs_H (.ref 9) (.ref 17) (.ref 9) pr s2)) (h := ms_H sm) (ad := adm) (Q := fun v2 h2 => v2 = some (.int v) ∧ h2 = ms_H m2) (hct (0 + 4) 75 _ _ _ (mt_hire xB 0 sm (xs (i + 1)) (xs (i + 2)) v m2 _ hg ⟨rfl, rfl⟩)) (by decide +kernel) (na := 3) (ci := 12) (by decide +kernel) rfl rfl lw_ln_52 rfl (by decide) (Nat.le_of_ble_eq_true rfl) hl.1 d_law_431 hP hD hS hfit (fun v2 h2 H1 locs1 hq _ hP hD hS => ?_)
  obtain ⟨rfl, rfl⟩ := hq
  show W p l e room_1 s m #[Value.ref b] below meth c H1 locs1 cells slots Z (F0 m 434 ls [.int v, .int v])
  obtain ⟨hP, hD⟩ := lw_comm hP hD
  refine lv_icmp_eq (tgt := 1046) hx hb d_law_434 (by decide) (fun c1 => ?_) (fun c1 => absurd rfl c1)
  exact kk s2 m2 adx pr H1 locs1 hRn rfl hP hD hS
set_option maxHeartbeats 4000000 in
set_option maxRecDepth 100000 in
theorem lw_k9 {p : Program} {l : Launch} {e : Env} {s : State} {m : MethodId} {below : List Frame} {meth : Method} {c : Code} {b L : Nat} {xs : Nat → Int32} {D : va_G} {E : Nat → ClassId} {Xt : mm_Xt} {Z : State → Prop} (Cx : lw_Cx p s m meth c b L xs D E Xt) (hct : ∀ (d mi : Nat) (as : List Value) (h : mm_H) (Q : mm_R), mm_ct xB mm_Mk mm_Fk mm_PC d mi as h Q → ∃ t1, mm_at mm_T mi = some t1 ∧ t1.2.2.1 ≤ 40 ∧ mm_Met l D E Xt (d + 12) t1 (mm_Mk mi).1 (mm_Mk mi).2 as h Q) {R : Nat → xs_S → ms_S → Prop} (hR : lw_s9 R) {n i cells slots : Nat} (hn : n < 512) (hL : L ≤ 3072) (hi : i + 6 ≤ L) (hfit : cells ≤ 600000 ∧ slots ≤ 7302249) {sx : xs_S} {sm : ms_S} {adx adm : Nat → Nat} {pr : Value} {H : Heap} {locs : List Loc} {ls : Array Slot} (hRR : R n sx sm) (hP : va_P D vwCl (mm_wr E adx (xs_H (.ref 9) (.ref 17) (.ref 9) pr sx) ++ mm_wr E adm (ms_H sm)) H) (hD : va_D (fun q : Nat => s.heap.size ≤ q) (mm_wr E adx (xs_H (.ref 9) (.ref 17) (.ref 9) pr sx) ++ mm_wr E adm (ms_H sm))) (hS : va_S (fun q : Nat => s.heap.size ≤ q) s.heap H locs) (hl : lv_has ls 4 [(0, .ref b), (1, .ref (adx 0)), (2, .ref (adm 0)), (3, .int (nI i))]) (kk : ∀ (sx2 : xs_S) (sm2 : ms_S) (adx2 : Nat → Nat) (pr2 : Value) (H1 : Heap) (locs1 : List Loc), R (n + 1) sx2 sm2 → adx2 0 = adx 0 → va_P D vwCl (mm_wr E adx2 (xs_H (.ref 9) (.ref 17) (.ref 9) pr2 sx2) ++ mm_wr E adm (ms_H sm2)) H1 → va_D (fun q : Nat => s.heap.size ≤ q) (mm_wr E adx2 (xs_H (.ref 9) (.ref 17) (.ref 9) pr2 sx2) ++ mm_wr E adm (ms_H sm2)) → va_S (fun q : Nat => s.heap.size ≤ q) s.heap H1 locs1 → W p l e room_1 s m #[Value.ref b] below meth c H1 locs1 cells slots Z (F0 m 1046 ls [])) : W p l e room_1 s m #[Value.ref b] below meth c H locs cells slots Z (F0 m 439 ls []) := by
  obtain ⟨v, s2, m2, hf, hg, hRn⟩ := hR n sx sm  hRR hn
  have C0 := Cx.1
  obtain ⟨hx, hb, hr, hml, hown, hts, hX, hbl, hlocks, hgv⟩ := id C0
  refine lv_aload_n hx hb d_law_439 rfl (lv_at hl 1 rfl) ?_
  refine lw_vcall Cx (As := []) (rest := []) (w2 := mm_wr E adm (ms_H sm)) (h := xs_H (.ref 9) (.ref 17) (.ref 9) pr sx) (ad := adx) (Q := fun v2 h2 => v2 = some (.int v) ∧ h2 = xs_H (.ref 9) (.ref 17) (.ref 9) pr s2) (hct (0 + 3) 234 _ _ _ (xt_11_set xB 0 (.ref 17) (.ref 9) pr sx  v s2 _ hf ⟨rfl, rfl⟩)) (by decide +kernel) (na := 1) (ci := 11) (by decide +kernel) rfl rfl lw_ln_53 rfl (by decide) (Nat.le_of_ble_eq_true rfl) hl.1 d_law_440 hP hD hS hfit (fun v2 h2 H1 locs1 hq _ hP hD hS => ?_)
  obtain ⟨rfl, rfl⟩ := hq
  show W p l e room_1 s m #[Value.ref b] below meth c H1 locs1 cells slots Z (F0 m 443 ls [.int v])
  obtain ⟨hP, hD⟩ := lw_comm hP hD
  generalize H1 = H at hP hS ⊢
  generalize locs1 = locs at hS ⊢
  refine lv_aload_n hx hb d_law_443 rfl (lv_at hl 2 rfl) ?_
  refine lw_vcall Cx (As := []) (rest := [.int v]) (w2 := mm_wr E adx (xs_H (.ref 9) (.ref 17) (.ref 9) pr s2)) (h := ms_H sm) (ad := adm) (Q := fun v2 h2 => v2 = some (.int v) ∧ h2 = ms_H m2) (hct (0 + 3) 76 _ _ _ (mt_set xB 0 sm  v m2 _ hg ⟨rfl, rfl⟩)) (by decide +kernel) (na := 1) (ci := 12) (by decide +kernel) rfl rfl lw_ln_57 rfl (by decide) (Nat.le_of_ble_eq_true rfl) hl.1 d_law_444 hP hD hS hfit (fun v2 h2 H1 locs1 hq _ hP hD hS => ?_)
  obtain ⟨rfl, rfl⟩ := hq
  show W p l e room_1 s m #[Value.ref b] below meth c H1 locs1 cells slots Z (F0 m 447 ls [.int v, .int v])
  obtain ⟨hP, hD⟩ := lw_comm hP hD
  refine lv_icmp_eq (tgt := 1046) hx hb d_law_447 (by decide) (fun c1 => ?_) (fun c1 => absurd rfl c1)
  exact kk s2 m2 adx pr H1 locs1 hRn rfl hP hD hS
set_option maxHeartbeats 4000000 in
set_option maxRecDepth 100000 in
theorem lw_k10 {p : Program} {l : Launch} {e : Env} {s : State} {m : MethodId} {below : List Frame} {meth : Method} {c : Code} {b L : Nat} {xs : Nat → Int32} {D : va_G} {E : Nat → ClassId} {Xt : mm_Xt} {Z : State → Prop} (Cx : lw_Cx p s m meth c b L xs D E Xt) (hct : ∀ (d mi : Nat) (as : List Value) (h : mm_H) (Q : mm_R), mm_ct xB mm_Mk mm_Fk mm_PC d mi as h Q → ∃ t1, mm_at mm_T mi = some t1 ∧ t1.2.2.1 ≤ 40 ∧ mm_Met l D E Xt (d + 12) t1 (mm_Mk mi).1 (mm_Mk mi).2 as h Q) {R : Nat → xs_S → ms_S → Prop} (hR : lw_s10 R) {n i cells slots : Nat} (hn : n < 512) (hL : L ≤ 3072) (hi : i + 6 ≤ L) (hfit : cells ≤ 600000 ∧ slots ≤ 7302249) {sx : xs_S} {sm : ms_S} {adx adm : Nat → Nat} {pr : Value} {H : Heap} {locs : List Loc} {ls : Array Slot} (hRR : R n sx sm) (hP : va_P D vwCl (mm_wr E adx (xs_H (.ref 9) (.ref 17) (.ref 9) pr sx) ++ mm_wr E adm (ms_H sm)) H) (hD : va_D (fun q : Nat => s.heap.size ≤ q) (mm_wr E adx (xs_H (.ref 9) (.ref 17) (.ref 9) pr sx) ++ mm_wr E adm (ms_H sm))) (hS : va_S (fun q : Nat => s.heap.size ≤ q) s.heap H locs) (hl : lv_has ls 4 [(0, .ref b), (1, .ref (adx 0)), (2, .ref (adm 0)), (3, .int (nI i))]) (kk : ∀ (sx2 : xs_S) (sm2 : ms_S) (adx2 : Nat → Nat) (pr2 : Value) (H1 : Heap) (locs1 : List Loc), R (n + 1) sx2 sm2 → adx2 0 = adx 0 → va_P D vwCl (mm_wr E adx2 (xs_H (.ref 9) (.ref 17) (.ref 9) pr2 sx2) ++ mm_wr E adm (ms_H sm2)) H1 → va_D (fun q : Nat => s.heap.size ≤ q) (mm_wr E adx2 (xs_H (.ref 9) (.ref 17) (.ref 9) pr2 sx2) ++ mm_wr E adm (ms_H sm2)) → va_S (fun q : Nat => s.heap.size ≤ q) s.heap H1 locs1 → W p l e room_1 s m #[Value.ref b] below meth c H1 locs1 cells slots Z (F0 m 1046 ls [])) : W p l e room_1 s m #[Value.ref b] below meth c H locs cells slots Z (F0 m 452 ls []) := by
  obtain ⟨v, s2, m2, hf, hg, hRn⟩ := hR n sx sm (xs (i + 1)) hRR hn
  have C0 := Cx.1
  obtain ⟨hx, hb, hr, hml, hown, hts, hX, hbl, hlocks, hgv⟩ := id C0
  refine lv_aload_n hx hb d_law_452 rfl (lv_at hl 1 rfl) ?_
  refine lw_arg1 C0 hL hi hS hl d_law_453 d_law_454 d_law_455 d_law_456 d_law_457 ?_
  refine lw_vcall Cx (As := [.int (xs (i + 1))]) (rest := []) (w2 := mm_wr E adm (ms_H sm)) (h := xs_H (.ref 9) (.ref 17) (.ref 9) pr sx) (ad := adx) (Q := fun v2 h2 => v2 = some (.int v) ∧ h2 = xs_H (.ref 9) (.ref 17) (.ref 9) pr s2) (hct (0 + 6) 235 _ _ _ (xt_11_minutes xB 0 (.ref 17) pr sx (xs (i + 1)) v s2 _ hf ⟨rfl, rfl⟩)) (by decide +kernel) (na := 2) (ci := 11) (by decide +kernel) rfl rfl lw_ln_58 rfl (by decide) (Nat.le_of_ble_eq_true rfl) hl.1 d_law_458 hP hD hS hfit (fun v2 h2 H1 locs1 hq _ hP hD hS => ?_)
  obtain ⟨rfl, rfl⟩ := hq
  show W p l e room_1 s m #[Value.ref b] below meth c H1 locs1 cells slots Z (F0 m 461 ls [.int v])
  obtain ⟨hP, hD⟩ := lw_comm hP hD
  generalize H1 = H at hP hS ⊢
  generalize locs1 = locs at hS ⊢
  refine lv_aload_n hx hb d_law_461 rfl (lv_at hl 2 rfl) ?_
  refine lw_arg1 C0 hL hi hS hl d_law_462 d_law_463 d_law_464 d_law_465 d_law_466 ?_
  refine lw_vcall Cx (As := [.int (xs (i + 1))]) (rest := [.int v]) (w2 := mm_wr E adx (xs_H (.ref 9) (.ref 17) (.ref 9) pr s2)) (h := ms_H sm) (ad := adm) (Q := fun v2 h2 => v2 = some (.int v) ∧ h2 = ms_H m2) (hct (0 + 8) 78 _ _ _ (mt_minutes xB 0 sm (xs (i + 1)) v m2 _ hg ⟨rfl, rfl⟩)) (by decide +kernel) (na := 2) (ci := 12) (by decide +kernel) rfl rfl lw_ln_61 rfl (by decide) (Nat.le_of_ble_eq_true rfl) hl.1 d_law_467 hP hD hS hfit (fun v2 h2 H1 locs1 hq _ hP hD hS => ?_)
  obtain ⟨rfl, rfl⟩ := hq
  show W p l e room_1 s m #[Value.ref b] below meth c H1 locs1 cells slots Z (F0 m 470 ls [.int v, .int v])
  obtain ⟨hP, hD⟩ := lw_comm hP hD
  refine lv_icmp_eq (tgt := 1046) hx hb d_law_470 (by decide) (fun c1 => ?_) (fun c1 => absurd rfl c1)
  exact kk s2 m2 adx pr H1 locs1 hRn rfl hP hD hS
set_option maxHeartbeats 4000000 in
set_option maxRecDepth 100000 in
theorem lw_k11 {p : Program} {l : Launch} {e : Env} {s : State} {m : MethodId} {below : List Frame} {meth : Method} {c : Code} {b L : Nat} {xs : Nat → Int32} {D : va_G} {E : Nat → ClassId} {Xt : mm_Xt} {Z : State → Prop} (Cx : lw_Cx p s m meth c b L xs D E Xt) (hct : ∀ (d mi : Nat) (as : List Value) (h : mm_H) (Q : mm_R), mm_ct xB mm_Mk mm_Fk mm_PC d mi as h Q → ∃ t1, mm_at mm_T mi = some t1 ∧ t1.2.2.1 ≤ 40 ∧ mm_Met l D E Xt (d + 12) t1 (mm_Mk mi).1 (mm_Mk mi).2 as h Q) {R : Nat → xs_S → ms_S → Prop} (hR : lw_s11 R) {n i cells slots : Nat} (hn : n < 512) (hL : L ≤ 3072) (hi : i + 6 ≤ L) (hfit : cells ≤ 600000 ∧ slots ≤ 7302249) {sx : xs_S} {sm : ms_S} {adx adm : Nat → Nat} {pr : Value} {H : Heap} {locs : List Loc} {ls : Array Slot} (hRR : R n sx sm) (hP : va_P D vwCl (mm_wr E adx (xs_H (.ref 9) (.ref 17) (.ref 9) pr sx) ++ mm_wr E adm (ms_H sm)) H) (hD : va_D (fun q : Nat => s.heap.size ≤ q) (mm_wr E adx (xs_H (.ref 9) (.ref 17) (.ref 9) pr sx) ++ mm_wr E adm (ms_H sm))) (hS : va_S (fun q : Nat => s.heap.size ≤ q) s.heap H locs) (hl : lv_has ls 4 [(0, .ref b), (1, .ref (adx 0)), (2, .ref (adm 0)), (3, .int (nI i))]) (kk : ∀ (sx2 : xs_S) (sm2 : ms_S) (adx2 : Nat → Nat) (pr2 : Value) (H1 : Heap) (locs1 : List Loc), R (n + 1) sx2 sm2 → adx2 0 = adx 0 → va_P D vwCl (mm_wr E adx2 (xs_H (.ref 9) (.ref 17) (.ref 9) pr2 sx2) ++ mm_wr E adm (ms_H sm2)) H1 → va_D (fun q : Nat => s.heap.size ≤ q) (mm_wr E adx2 (xs_H (.ref 9) (.ref 17) (.ref 9) pr2 sx2) ++ mm_wr E adm (ms_H sm2)) → va_S (fun q : Nat => s.heap.size ≤ q) s.heap H1 locs1 → W p l e room_1 s m #[Value.ref b] below meth c H1 locs1 cells slots Z (F0 m 1046 ls [])) : W p l e room_1 s m #[Value.ref b] below meth c H locs cells slots Z (F0 m 475 ls []) := by
  obtain ⟨v, s2, m2, hf, hg, hRn⟩ := hR n sx sm  hRR hn
  have C0 := Cx.1
  obtain ⟨hx, hb, hr, hml, hown, hts, hX, hbl, hlocks, hgv⟩ := id C0
  refine lv_aload_n hx hb d_law_475 rfl (lv_at hl 1 rfl) ?_
  refine lw_vcall Cx (As := []) (rest := []) (w2 := mm_wr E adm (ms_H sm)) (h := xs_H (.ref 9) (.ref 17) (.ref 9) pr sx) (ad := adx) (Q := fun v2 h2 => v2 = some (.int v) ∧ h2 = xs_H (.ref 9) (.ref 17) (.ref 9) pr s2) (hct (0 + 3) 236 _ _ _ (xt_11_undo xB 0 (.ref 17) pr sx  v s2 _ hf ⟨rfl, rfl⟩)) (by decide +kernel) (na := 1) (ci := 11) (by decide +kernel) rfl rfl lw_ln_62 rfl (by decide) (Nat.le_of_ble_eq_true rfl) hl.1 d_law_476 hP hD hS hfit (fun v2 h2 H1 locs1 hq _ hP hD hS => ?_)
  obtain ⟨rfl, rfl⟩ := hq
  show W p l e room_1 s m #[Value.ref b] below meth c H1 locs1 cells slots Z (F0 m 479 ls [.int v])
  obtain ⟨hP, hD⟩ := lw_comm hP hD
  generalize H1 = H at hP hS ⊢
  generalize locs1 = locs at hS ⊢
  refine lv_aload_n hx hb d_law_479 rfl (lv_at hl 2 rfl) ?_
  refine lw_vcall Cx (As := []) (rest := [.int v]) (w2 := mm_wr E adx (xs_H (.ref 9) (.ref 17) (.ref 9) pr s2)) (h := ms_H sm) (ad := adm) (Q := fun v2 h2 => v2 = some (.int v) ∧ h2 = ms_H m2) (hct (0 + 1) 79 _ _ _ (mt_undo xB 0 sm  v m2 _ hg ⟨rfl, rfl⟩)) (by decide +kernel) (na := 1) (ci := 12) (by decide +kernel) rfl rfl lw_ln_65 rfl (by decide) (Nat.le_of_ble_eq_true rfl) hl.1 d_law_480 hP hD hS hfit (fun v2 h2 H1 locs1 hq _ hP hD hS => ?_)
  obtain ⟨rfl, rfl⟩ := hq
  show W p l e room_1 s m #[Value.ref b] below meth c H1 locs1 cells slots Z (F0 m 483 ls [.int v, .int v])
  obtain ⟨hP, hD⟩ := lw_comm hP hD
  refine lv_icmp_eq (tgt := 1046) hx hb d_law_483 (by decide) (fun c1 => ?_) (fun c1 => absurd rfl c1)
  exact kk s2 m2 adx pr H1 locs1 hRn rfl hP hD hS
