/-! the law's cases, 1 -/
set_option maxHeartbeats 4000000 in
set_option maxRecDepth 100000 in
theorem lw_k12 {p : Program} {l : Launch} {e : Env} {s : State} {m : MethodId} {below : List Frame} {meth : Method} {c : Code} {b L : Nat} {xs : Nat → Int32} {D : va_G} {E : Nat → ClassId} {Xt : mm_Xt} {Z : State → Prop} (Cx : lw_Cx p s m meth c b L xs D E Xt) (hct : ∀ (d mi : Nat) (as : List Value) (h : mm_H) (Q : mm_R), mm_ct xB mm_Mk mm_Fk mm_PC d mi as h Q → ∃ t1, mm_at mm_T mi = some t1 ∧ t1.2.2.1 ≤ 40 ∧ mm_Met l D E Xt (d + 12) t1 (mm_Mk mi).1 (mm_Mk mi).2 as h Q) {R : Nat → xs_S → ms_S → Prop} (hR : lw_s12 R) {n i cells slots : Nat} (hn : n < 512) (hL : L ≤ 3072) (hi : i + 6 ≤ L) (hfit : cells ≤ 600000 ∧ slots ≤ 7302249) {sx : xs_S} {sm : ms_S} {adx adm : Nat → Nat} {pr : Value} {H : Heap} {locs : List Loc} {ls : Array Slot} (hRR : R n sx sm) (hP : va_P D vwCl (mm_wr E adx (xs_H (.ref 9) (.ref 17) (.ref 9) pr sx) ++ mm_wr E adm (ms_H sm)) H) (hD : va_D (fun q : Nat => s.heap.size ≤ q) (mm_wr E adx (xs_H (.ref 9) (.ref 17) (.ref 9) pr sx) ++ mm_wr E adm (ms_H sm))) (hS : va_S (fun q : Nat => s.heap.size ≤ q) s.heap H locs) (hl : lv_has ls 4 [(0, .ref b), (1, .ref (adx 0)), (2, .ref (adm 0)), (3, .int (nI i))]) (kk : ∀ (sx2 : xs_S) (sm2 : ms_S) (adx2 : Nat → Nat) (pr2 : Value) (H1 : Heap) (locs1 : List Loc), R (n + 1) sx2 sm2 → adx2 0 = adx 0 → va_P D vwCl (mm_wr E adx2 (xs_H (.ref 9) (.ref 17) (.ref 9) pr2 sx2) ++ mm_wr E adm (ms_H sm2)) H1 → va_D (fun q : Nat => s.heap.size ≤ q) (mm_wr E adx2 (xs_H (.ref 9) (.ref 17) (.ref 9) pr2 sx2) ++ mm_wr E adm (ms_H sm2)) → va_S (fun q : Nat => s.heap.size ≤ q) s.heap H1 locs1 → W p l e room_1 s m #[Value.ref b] below meth c H1 locs1 cells slots Z (F0 m 1046 ls [])) : W p l e room_1 s m #[Value.ref b] below meth c H locs cells slots Z (F0 m 488 ls []) := by
  obtain ⟨v, s2, m2, hf, hg, hRn⟩ := hR n sx sm  hRR hn
  have C0 := Cx.1
  obtain ⟨hx, hb, hr, hml, hown, hts, hX, hbl, hlocks, hgv⟩ := id C0
  refine lv_aload_n hx hb d_law_488 rfl (lv_at hl 1 rfl) ?_
  refine lw_vcall Cx (As := []) (rest := []) (w2 := mm_wr E adm (ms_H sm)) (h := xs_H (.ref 9) (.ref 17) (.ref 9) pr sx) (ad := adx) (Q := fun v2 h2 => v2 = some (.int v) ∧ h2 = xs_H (.ref 9) (.ref 17) (.ref 9) pr s2) (hct (0 + 7) 237 _ _ _ (xt_11_who xB 0 (.ref 9) (.ref 17) pr sx  v s2 _ hf ⟨rfl, rfl⟩)) (by decide +kernel) (na := 1) (ci := 11) (by decide +kernel) rfl rfl lw_ln_66 rfl (by decide) (Nat.le_of_ble_eq_true rfl) hl.1 d_law_489 hP hD hS hfit (fun v2 h2 H1 locs1 hq _ hP hD hS => ?_)
  obtain ⟨rfl, rfl⟩ := hq
  show W p l e room_1 s m #[Value.ref b] below meth c H1 locs1 cells slots Z (F0 m 492 ls [.int v])
  obtain ⟨hP, hD⟩ := lw_comm hP hD
  generalize H1 = H at hP hS ⊢
  generalize locs1 = locs at hS ⊢
  refine lv_aload_n hx hb d_law_492 rfl (lv_at hl 2 rfl) ?_
  refine lw_vcall Cx (As := []) (rest := [.int v]) (w2 := mm_wr E adx (xs_H (.ref 9) (.ref 17) (.ref 9) pr s2)) (h := ms_H sm) (ad := adm) (Q := fun v2 h2 => v2 = some (.int v) ∧ h2 = ms_H m2) (hct (0 + 9) 80 _ _ _ (mt_who xB 0 sm  v m2 _ hg ⟨rfl, rfl⟩)) (by decide +kernel) (na := 1) (ci := 12) (by decide +kernel) rfl rfl lw_ln_69 rfl (by decide) (Nat.le_of_ble_eq_true rfl) hl.1 d_law_493 hP hD hS hfit (fun v2 h2 H1 locs1 hq _ hP hD hS => ?_)
  obtain ⟨rfl, rfl⟩ := hq
  show W p l e room_1 s m #[Value.ref b] below meth c H1 locs1 cells slots Z (F0 m 496 ls [.int v, .int v])
  obtain ⟨hP, hD⟩ := lw_comm hP hD
  refine lv_icmp_eq (tgt := 1046) hx hb d_law_496 (by decide) (fun c1 => ?_) (fun c1 => absurd rfl c1)
  exact kk s2 m2 adx pr H1 locs1 hRn rfl hP hD hS
set_option maxHeartbeats 4000000 in
set_option maxRecDepth 100000 in
theorem lw_k13 {p : Program} {l : Launch} {e : Env} {s : State} {m : MethodId} {below : List Frame} {meth : Method} {c : Code} {b L : Nat} {xs : Nat → Int32} {D : va_G} {E : Nat → ClassId} {Xt : mm_Xt} {Z : State → Prop} (Cx : lw_Cx p s m meth c b L xs D E Xt) (hct : ∀ (d mi : Nat) (as : List Value) (h : mm_H) (Q : mm_R), mm_ct xB mm_Mk mm_Fk mm_PC d mi as h Q → ∃ t1, mm_at mm_T mi = some t1 ∧ t1.2.2.1 ≤ 40 ∧ mm_Met l D E Xt (d + 12) t1 (mm_Mk mi).1 (mm_Mk mi).2 as h Q) {R : Nat → xs_S → ms_S → Prop} (hR : lw_s13 R) {n i cells slots : Nat} (hn : n < 512) (hL : L ≤ 3072) (hi : i + 6 ≤ L) (hfit : cells ≤ 600000 ∧ slots ≤ 7302249) {sx : xs_S} {sm : ms_S} {adx adm : Nat → Nat} {pr : Value} {H : Heap} {locs : List Loc} {ls : Array Slot} (hRR : R n sx sm) (hP : va_P D vwCl (mm_wr E adx (xs_H (.ref 9) (.ref 17) (.ref 9) pr sx) ++ mm_wr E adm (ms_H sm)) H) (hD : va_D (fun q : Nat => s.heap.size ≤ q) (mm_wr E adx (xs_H (.ref 9) (.ref 17) (.ref 9) pr sx) ++ mm_wr E adm (ms_H sm))) (hS : va_S (fun q : Nat => s.heap.size ≤ q) s.heap H locs) (hl : lv_has ls 4 [(0, .ref b), (1, .ref (adx 0)), (2, .ref (adm 0)), (3, .int (nI i))]) (kk : ∀ (sx2 : xs_S) (sm2 : ms_S) (adx2 : Nat → Nat) (pr2 : Value) (H1 : Heap) (locs1 : List Loc), R (n + 1) sx2 sm2 → adx2 0 = adx 0 → va_P D vwCl (mm_wr E adx2 (xs_H (.ref 9) (.ref 17) (.ref 9) pr2 sx2) ++ mm_wr E adm (ms_H sm2)) H1 → va_D (fun q : Nat => s.heap.size ≤ q) (mm_wr E adx2 (xs_H (.ref 9) (.ref 17) (.ref 9) pr2 sx2) ++ mm_wr E adm (ms_H sm2)) → va_S (fun q : Nat => s.heap.size ≤ q) s.heap H1 locs1 → W p l e room_1 s m #[Value.ref b] below meth c H1 locs1 cells slots Z (F0 m 1046 ls [])) : W p l e room_1 s m #[Value.ref b] below meth c H locs cells slots Z (F0 m 501 ls []) := by
  obtain ⟨v, s2, m2, hf, hg, hRn⟩ := hR n sx sm  hRR hn
  have C0 := Cx.1
  obtain ⟨hx, hb, hr, hml, hown, hts, hX, hbl, hlocks, hgv⟩ := id C0
  refine lv_aload_n hx hb d_law_501 rfl (lv_at hl 1 rfl) ?_
  refine lw_vcall Cx (As := []) (rest := []) (w2 := mm_wr E adm (ms_H sm)) (h := xs_H (.ref 9) (.ref 17) (.ref 9) pr sx) (ad := adx) (Q := fun v2 h2 => v2 = some (.int v) ∧ h2 = xs_H (.ref 9) (.ref 17) (.ref 9) pr s2) (hct (0 + 7) 238 _ _ _ (xt_11_soon xB 0 (.ref 9) (.ref 17) pr sx  v s2 _ hf ⟨rfl, rfl⟩)) (by decide +kernel) (na := 1) (ci := 11) (by decide +kernel) rfl rfl lw_ln_70 rfl (by decide) (Nat.le_of_ble_eq_true rfl) hl.1 d_law_502 hP hD hS hfit (fun v2 h2 H1 locs1 hq _ hP hD hS => ?_)
  obtain ⟨rfl, rfl⟩ := hq
  show W p l e room_1 s m #[Value.ref b] below meth c H1 locs1 cells slots Z (F0 m 505 ls [.int v])
  obtain ⟨hP, hD⟩ := lw_comm hP hD
  generalize H1 = H at hP hS ⊢
  generalize locs1 = locs at hS ⊢
  refine lv_aload_n hx hb d_law_505 rfl (lv_at hl 2 rfl) ?_
  refine lw_vcall Cx (As := []) (rest := [.int v]) (w2 := mm_wr E adx (xs_H (.ref 9) (.ref 17) (.ref 9) pr s2)) (h := ms_H sm) (ad := adm) (Q := fun v2 h2 => v2 = some (.int v) ∧ h2 = ms_H m2) (hct (0 + 9) 81 _ _ _ (mt_soon xB 0 sm  v m2 _ hg ⟨rfl, rfl⟩)) (by decide +kernel) (na := 1) (ci := 12) (by decide +kernel) rfl rfl lw_ln_73 rfl (by decide) (Nat.le_of_ble_eq_true rfl) hl.1 d_law_506 hP hD hS hfit (fun v2 h2 H1 locs1 hq _ hP hD hS => ?_)
  obtain ⟨rfl, rfl⟩ := hq
  show W p l e room_1 s m #[Value.ref b] below meth c H1 locs1 cells slots Z (F0 m 509 ls [.int v, .int v])
  obtain ⟨hP, hD⟩ := lw_comm hP hD
  refine lv_icmp_eq (tgt := 1046) hx hb d_law_509 (by decide) (fun c1 => ?_) (fun c1 => absurd rfl c1)
  exact kk s2 m2 adx pr H1 locs1 hRn rfl hP hD hS
set_option maxHeartbeats 4000000 in
set_option maxRecDepth 100000 in
theorem lw_k14 {p : Program} {l : Launch} {e : Env} {s : State} {m : MethodId} {below : List Frame} {meth : Method} {c : Code} {b L : Nat} {xs : Nat → Int32} {D : va_G} {E : Nat → ClassId} {Xt : mm_Xt} {Z : State → Prop} (Cx : lw_Cx p s m meth c b L xs D E Xt) (hct : ∀ (d mi : Nat) (as : List Value) (h : mm_H) (Q : mm_R), mm_ct xB mm_Mk mm_Fk mm_PC d mi as h Q → ∃ t1, mm_at mm_T mi = some t1 ∧ t1.2.2.1 ≤ 40 ∧ mm_Met l D E Xt (d + 12) t1 (mm_Mk mi).1 (mm_Mk mi).2 as h Q) {R : Nat → xs_S → ms_S → Prop} (hR : lw_s14 R) {n i cells slots : Nat} (hn : n < 512) (hL : L ≤ 3072) (hi : i + 6 ≤ L) (hfit : cells ≤ 600000 ∧ slots ≤ 7302249) {sx : xs_S} {sm : ms_S} {adx adm : Nat → Nat} {pr : Value} {H : Heap} {locs : List Loc} {ls : Array Slot} (hRR : R n sx sm) (hP : va_P D vwCl (mm_wr E adx (xs_H (.ref 9) (.ref 17) (.ref 9) pr sx) ++ mm_wr E adm (ms_H sm)) H) (hD : va_D (fun q : Nat => s.heap.size ≤ q) (mm_wr E adx (xs_H (.ref 9) (.ref 17) (.ref 9) pr sx) ++ mm_wr E adm (ms_H sm))) (hS : va_S (fun q : Nat => s.heap.size ≤ q) s.heap H locs) (hl : lv_has ls 4 [(0, .ref b), (1, .ref (adx 0)), (2, .ref (adm 0)), (3, .int (nI i))]) (kk : ∀ (sx2 : xs_S) (sm2 : ms_S) (adx2 : Nat → Nat) (pr2 : Value) (H1 : Heap) (locs1 : List Loc), R (n + 1) sx2 sm2 → adx2 0 = adx 0 → va_P D vwCl (mm_wr E adx2 (xs_H (.ref 9) (.ref 17) (.ref 9) pr2 sx2) ++ mm_wr E adm (ms_H sm2)) H1 → va_D (fun q : Nat => s.heap.size ≤ q) (mm_wr E adx2 (xs_H (.ref 9) (.ref 17) (.ref 9) pr2 sx2) ++ mm_wr E adm (ms_H sm2)) → va_S (fun q : Nat => s.heap.size ≤ q) s.heap H1 locs1 → W p l e room_1 s m #[Value.ref b] below meth c H1 locs1 cells slots Z (F0 m 1046 ls [])) : W p l e room_1 s m #[Value.ref b] below meth c H locs cells slots Z (F0 m 514 ls []) := by
  obtain ⟨v, s2, m2, hf, hg, hRn⟩ := hR n sx sm  hRR hn
  have C0 := Cx.1
  obtain ⟨hx, hb, hr, hml, hown, hts, hX, hbl, hlocks, hgv⟩ := id C0
  refine lv_aload_n hx hb d_law_514 rfl (lv_at hl 1 rfl) ?_
  refine lw_vcall Cx (As := []) (rest := []) (w2 := mm_wr E adm (ms_H sm)) (h := xs_H (.ref 9) (.ref 17) (.ref 9) pr sx) (ad := adx) (Q := fun v2 h2 => v2 = some (.int v) ∧ h2 = xs_H (.ref 9) (.ref 17) (.ref 9) pr s2) (hct (0 + 8) 239 _ _ _ (xt_11_best xB 0 (.ref 9) (.ref 17) pr sx  v s2 _ hf ⟨rfl, rfl⟩)) (by decide +kernel) (na := 1) (ci := 11) (by decide +kernel) rfl rfl lw_ln_74 rfl (by decide) (Nat.le_of_ble_eq_true rfl) hl.1 d_law_515 hP hD hS hfit (fun v2 h2 H1 locs1 hq _ hP hD hS => ?_)
  obtain ⟨rfl, rfl⟩ := hq
  show W p l e room_1 s m #[Value.ref b] below meth c H1 locs1 cells slots Z (F0 m 518 ls [.int v])
  obtain ⟨hP, hD⟩ := lw_comm hP hD
  generalize H1 = H at hP hS ⊢
  generalize locs1 = locs at hS ⊢
  refine lv_aload_n hx hb d_law_518 rfl (lv_at hl 2 rfl) ?_
  refine lw_vcall Cx (As := []) (rest := [.int v]) (w2 := mm_wr E adx (xs_H (.ref 9) (.ref 17) (.ref 9) pr s2)) (h := ms_H sm) (ad := adm) (Q := fun v2 h2 => v2 = some (.int v) ∧ h2 = ms_H m2) (hct (0 + 9) 83 _ _ _ (mt_best xB 0 sm  v m2 _ hg ⟨rfl, rfl⟩)) (by decide +kernel) (na := 1) (ci := 12) (by decide +kernel) rfl rfl lw_ln_77 rfl (by decide) (Nat.le_of_ble_eq_true rfl) hl.1 d_law_519 hP hD hS hfit (fun v2 h2 H1 locs1 hq _ hP hD hS => ?_)
  obtain ⟨rfl, rfl⟩ := hq
  show W p l e room_1 s m #[Value.ref b] below meth c H1 locs1 cells slots Z (F0 m 522 ls [.int v, .int v])
  obtain ⟨hP, hD⟩ := lw_comm hP hD
  refine lv_icmp_eq (tgt := 1046) hx hb d_law_522 (by decide) (fun c1 => ?_) (fun c1 => absurd rfl c1)
  exact kk s2 m2 adx pr H1 locs1 hRn rfl hP hD hS
set_option maxHeartbeats 4000000 in
set_option maxRecDepth 100000 in
theorem lw_k15 {p : Program} {l : Launch} {e : Env} {s : State} {m : MethodId} {below : List Frame} {meth : Method} {c : Code} {b L : Nat} {xs : Nat → Int32} {D : va_G} {E : Nat → ClassId} {Xt : mm_Xt} {Z : State → Prop} (Cx : lw_Cx p s m meth c b L xs D E Xt) (hct : ∀ (d mi : Nat) (as : List Value) (h : mm_H) (Q : mm_R), mm_ct xB mm_Mk mm_Fk mm_PC d mi as h Q → ∃ t1, mm_at mm_T mi = some t1 ∧ t1.2.2.1 ≤ 40 ∧ mm_Met l D E Xt (d + 12) t1 (mm_Mk mi).1 (mm_Mk mi).2 as h Q) {R : Nat → xs_S → ms_S → Prop} (hR : lw_s15 R) {n i cells slots : Nat} (hn : n < 512) (hL : L ≤ 3072) (hi : i + 6 ≤ L) (hfit : cells ≤ 600000 ∧ slots ≤ 7302249) {sx : xs_S} {sm : ms_S} {adx adm : Nat → Nat} {pr : Value} {H : Heap} {locs : List Loc} {ls : Array Slot} (hRR : R n sx sm) (hP : va_P D vwCl (mm_wr E adx (xs_H (.ref 9) (.ref 17) (.ref 9) pr sx) ++ mm_wr E adm (ms_H sm)) H) (hD : va_D (fun q : Nat => s.heap.size ≤ q) (mm_wr E adx (xs_H (.ref 9) (.ref 17) (.ref 9) pr sx) ++ mm_wr E adm (ms_H sm))) (hS : va_S (fun q : Nat => s.heap.size ≤ q) s.heap H locs) (hl : lv_has ls 4 [(0, .ref b), (1, .ref (adx 0)), (2, .ref (adm 0)), (3, .int (nI i))]) (kk : ∀ (sx2 : xs_S) (sm2 : ms_S) (adx2 : Nat → Nat) (pr2 : Value) (H1 : Heap) (locs1 : List Loc), R (n + 1) sx2 sm2 → adx2 0 = adx 0 → va_P D vwCl (mm_wr E adx2 (xs_H (.ref 9) (.ref 17) (.ref 9) pr2 sx2) ++ mm_wr E adm (ms_H sm2)) H1 → va_D (fun q : Nat => s.heap.size ≤ q) (mm_wr E adx2 (xs_H (.ref 9) (.ref 17) (.ref 9) pr2 sx2) ++ mm_wr E adm (ms_H sm2)) → va_S (fun q : Nat => s.heap.size ≤ q) s.heap H1 locs1 → W p l e room_1 s m #[Value.ref b] below meth c H1 locs1 cells slots Z (F0 m 1046 ls [])) : W p l e room_1 s m #[Value.ref b] below meth c H locs cells slots Z (F0 m 527 ls []) := by
  obtain ⟨v, s2, m2, hf, hg, hRn⟩ := hR n sx sm  hRR hn
  have C0 := Cx.1
  obtain ⟨hx, hb, hr, hml, hown, hts, hX, hbl, hlocks, hgv⟩ := id C0
  refine lv_aload_n hx hb d_law_527 rfl (lv_at hl 1 rfl) ?_
  refine lw_vcall Cx (As := []) (rest := []) (w2 := mm_wr E adm (ms_H sm)) (h := xs_H (.ref 9) (.ref 17) (.ref 9) pr sx) (ad := adx) (Q := fun v2 h2 => v2 = some (.int v) ∧ h2 = xs_H (.ref 9) (.ref 17) (.ref 9) pr s2) (hct (0 + 7) 240 _ _ _ (xt_11_together xB 0 (.ref 9) (.ref 17) pr sx  v s2 _ hf ⟨rfl, rfl⟩)) (by decide +kernel) (na := 1) (ci := 11) (by decide +kernel) rfl rfl lw_ln_78 rfl (by decide) (Nat.le_of_ble_eq_true rfl) hl.1 d_law_528 hP hD hS hfit (fun v2 h2 H1 locs1 hq _ hP hD hS => ?_)
  obtain ⟨rfl, rfl⟩ := hq
  show W p l e room_1 s m #[Value.ref b] below meth c H1 locs1 cells slots Z (F0 m 531 ls [.int v])
  obtain ⟨hP, hD⟩ := lw_comm hP hD
  generalize H1 = H at hP hS ⊢
  generalize locs1 = locs at hS ⊢
  refine lv_aload_n hx hb d_law_531 rfl (lv_at hl 2 rfl) ?_
  refine lw_vcall Cx (As := []) (rest := [.int v]) (w2 := mm_wr E adx (xs_H (.ref 9) (.ref 17) (.ref 9) pr s2)) (h := ms_H sm) (ad := adm) (Q := fun v2 h2 => v2 = some (.int v) ∧ h2 = ms_H m2) (hct (0 + 8) 88 _ _ _ (mt_together xB 0 sm  v m2 _ hg ⟨rfl, rfl⟩)) (by decide +kernel) (na := 1) (ci := 12) (by decide +kernel) rfl rfl lw_ln_81 rfl (by decide) (Nat.le_of_ble_eq_true rfl) hl.1 d_law_532 hP hD hS hfit (fun v2 h2 H1 locs1 hq _ hP hD hS => ?_)
  obtain ⟨rfl, rfl⟩ := hq
  show W p l e room_1 s m #[Value.ref b] below meth c H1 locs1 cells slots Z (F0 m 535 ls [.int v, .int v])
  obtain ⟨hP, hD⟩ := lw_comm hP hD
  refine lv_icmp_eq (tgt := 1046) hx hb d_law_535 (by decide) (fun c1 => ?_) (fun c1 => absurd rfl c1)
  exact kk s2 m2 adx pr H1 locs1 hRn rfl hP hD hS
set_option maxHeartbeats 4000000 in
set_option maxRecDepth 100000 in
theorem lw_k16 {p : Program} {l : Launch} {e : Env} {s : State} {m : MethodId} {below : List Frame} {meth : Method} {c : Code} {b L : Nat} {xs : Nat → Int32} {D : va_G} {E : Nat → ClassId} {Xt : mm_Xt} {Z : State → Prop} (Cx : lw_Cx p s m meth c b L xs D E Xt) (hct : ∀ (d mi : Nat) (as : List Value) (h : mm_H) (Q : mm_R), mm_ct xB mm_Mk mm_Fk mm_PC d mi as h Q → ∃ t1, mm_at mm_T mi = some t1 ∧ t1.2.2.1 ≤ 40 ∧ mm_Met l D E Xt (d + 12) t1 (mm_Mk mi).1 (mm_Mk mi).2 as h Q) {R : Nat → xs_S → ms_S → Prop} (hR : lw_s16 R) {n i cells slots : Nat} (hn : n < 512) (hL : L ≤ 3072) (hi : i + 6 ≤ L) (hfit : cells ≤ 600000 ∧ slots ≤ 7302249) {sx : xs_S} {sm : ms_S} {adx adm : Nat → Nat} {pr : Value} {H : Heap} {locs : List Loc} {ls : Array Slot} (hRR : R n sx sm) (hP : va_P D vwCl (mm_wr E adx (xs_H (.ref 9) (.ref 17) (.ref 9) pr sx) ++ mm_wr E adm (ms_H sm)) H) (hD : va_D (fun q : Nat => s.heap.size ≤ q) (mm_wr E adx (xs_H (.ref 9) (.ref 17) (.ref 9) pr sx) ++ mm_wr E adm (ms_H sm))) (hS : va_S (fun q : Nat => s.heap.size ≤ q) s.heap H locs) (hl : lv_has ls 4 [(0, .ref b), (1, .ref (adx 0)), (2, .ref (adm 0)), (3, .int (nI i))]) (kk : ∀ (sx2 : xs_S) (sm2 : ms_S) (adx2 : Nat → Nat) (pr2 : Value) (H1 : Heap) (locs1 : List Loc), R (n + 1) sx2 sm2 → adx2 0 = adx 0 → va_P D vwCl (mm_wr E adx2 (xs_H (.ref 9) (.ref 17) (.ref 9) pr2 sx2) ++ mm_wr E adm (ms_H sm2)) H1 → va_D (fun q : Nat => s.heap.size ≤ q) (mm_wr E adx2 (xs_H (.ref 9) (.ref 17) (.ref 9) pr2 sx2) ++ mm_wr E adm (ms_H sm2)) → va_S (fun q : Nat => s.heap.size ≤ q) s.heap H1 locs1 → W p l e room_1 s m #[Value.ref b] below meth c H1 locs1 cells slots Z (F0 m 1046 ls [])) : W p l e room_1 s m #[Value.ref b] below meth c H locs cells slots Z (F0 m 540 ls []) := by
  obtain ⟨v, s2, m2, hf, hg, hRn⟩ := hR n sx sm (xs (i + 1)) hRR hn
  have C0 := Cx.1
  obtain ⟨hx, hb, hr, hml, hown, hts, hX, hbl, hlocks, hgv⟩ := id C0
  refine lv_aload_n hx hb d_law_540 rfl (lv_at hl 1 rfl) ?_
  refine lw_arg1 C0 hL hi hS hl d_law_541 d_law_542 d_law_543 d_law_544 d_law_545 ?_
  refine lw_vcall Cx (As := [.int (xs (i + 1))]) (rest := []) (w2 := mm_wr E adm (ms_H sm)) (h := xs_H (.ref 9) (.ref 17) (.ref 9) pr sx) (ad := adx) (Q := fun v2 h2 => v2 = some (.int v) ∧ h2 = xs_H (.ref 9) (.ref 17) (.ref 9) pr s2) (hct (0 + 7) 241 _ _ _ (xt_11_even xB 0 (.ref 9) (.ref 17) pr sx (xs (i + 1)) v s2 _ hf ⟨rfl, rfl⟩)) (by decide +kernel) (na := 2) (ci := 11) (by decide +kernel) rfl rfl lw_ln_82 rfl (by decide) (Nat.le_of_ble_eq_true rfl) hl.1 d_law_546 hP hD hS hfit (fun v2 h2 H1 locs1 hq _ hP hD hS => ?_)
  obtain ⟨rfl, rfl⟩ := hq
  show W p l e room_1 s m #[Value.ref b] below meth c H1 locs1 cells slots Z (F0 m 549 ls [.int v])
  obtain ⟨hP, hD⟩ := lw_comm hP hD
  generalize H1 = H at hP hS ⊢
  generalize locs1 = locs at hS ⊢
  refine lv_aload_n hx hb d_law_549 rfl (lv_at hl 2 rfl) ?_
  refine lw_arg1 C0 hL hi hS hl d_law_550 d_law_551 d_law_552 d_law_553 d_law_554 ?_
  refine lw_vcall Cx (As := [.int (xs (i + 1))]) (rest := [.int v]) (w2 := mm_wr E adx (xs_H (.ref 9) (.ref 17) (.ref 9) pr s2)) (h := ms_H sm) (ad := adm) (Q := fun v2 h2 => v2 = some (.int v) ∧ h2 = ms_H m2) (hct (0 + 8) 90 _ _ _ (mt_even xB 0 sm (xs (i + 1)) v m2 _ hg ⟨rfl, rfl⟩)) (by decide +kernel) (na := 2) (ci := 12) (by decide +kernel) rfl rfl lw_ln_85 rfl (by decide) (Nat.le_of_ble_eq_true rfl) hl.1 d_law_555 hP hD hS hfit (fun v2 h2 H1 locs1 hq _ hP hD hS => ?_)
  obtain ⟨rfl, rfl⟩ := hq
  show W p l e room_1 s m #[Value.ref b] below meth c H1 locs1 cells slots Z (F0 m 558 ls [.int v, .int v])
  obtain ⟨hP, hD⟩ := lw_comm hP hD
  refine lv_icmp_eq (tgt := 1046) hx hb d_law_558 (by decide) (fun c1 => ?_) (fun c1 => absurd rfl c1)
  exact kk s2 m2 adx pr H1 locs1 hRn rfl hP hD hS
set_option maxHeartbeats 4000000 in
set_option maxRecDepth 100000 in
theorem lw_k17 {p : Program} {l : Launch} {e : Env} {s : State} {m : MethodId} {below : List Frame} {meth : Method} {c : Code} {b L : Nat} {xs : Nat → Int32} {D : va_G} {E : Nat → ClassId} {Xt : mm_Xt} {Z : State → Prop} (Cx : lw_Cx p s m meth c b L xs D E Xt) (hct : ∀ (d mi : Nat) (as : List Value) (h : mm_H) (Q : mm_R), mm_ct xB mm_Mk mm_Fk mm_PC d mi as h Q → ∃ t1, mm_at mm_T mi = some t1 ∧ t1.2.2.1 ≤ 40 ∧ mm_Met l D E Xt (d + 12) t1 (mm_Mk mi).1 (mm_Mk mi).2 as h Q) {R : Nat → xs_S → ms_S → Prop} (hR : lw_s17 R) {n i cells slots : Nat} (hn : n < 512) (hL : L ≤ 3072) (hi : i + 6 ≤ L) (hfit : cells ≤ 600000 ∧ slots ≤ 7302249) {sx : xs_S} {sm : ms_S} {adx adm : Nat → Nat} {pr : Value} {H : Heap} {locs : List Loc} {ls : Array Slot} (hRR : R n sx sm) (hP : va_P D vwCl (mm_wr E adx (xs_H (.ref 9) (.ref 17) (.ref 9) pr sx) ++ mm_wr E adm (ms_H sm)) H) (hD : va_D (fun q : Nat => s.heap.size ≤ q) (mm_wr E adx (xs_H (.ref 9) (.ref 17) (.ref 9) pr sx) ++ mm_wr E adm (ms_H sm))) (hS : va_S (fun q : Nat => s.heap.size ≤ q) s.heap H locs) (hl : lv_has ls 4 [(0, .ref b), (1, .ref (adx 0)), (2, .ref (adm 0)), (3, .int (nI i))]) (kk : ∀ (sx2 : xs_S) (sm2 : ms_S) (adx2 : Nat → Nat) (pr2 : Value) (H1 : Heap) (locs1 : List Loc), R (n + 1) sx2 sm2 → adx2 0 = adx 0 → va_P D vwCl (mm_wr E adx2 (xs_H (.ref 9) (.ref 17) (.ref 9) pr2 sx2) ++ mm_wr E adm (ms_H sm2)) H1 → va_D (fun q : Nat => s.heap.size ≤ q) (mm_wr E adx2 (xs_H (.ref 9) (.ref 17) (.ref 9) pr2 sx2) ++ mm_wr E adm (ms_H sm2)) → va_S (fun q : Nat => s.heap.size ≤ q) s.heap H1 locs1 → W p l e room_1 s m #[Value.ref b] below meth c H1 locs1 cells slots Z (F0 m 1046 ls [])) : W p l e room_1 s m #[Value.ref b] below meth c H locs cells slots Z (F0 m 563 ls []) := by
  obtain ⟨v, s2, m2, hf, hg, hRn⟩ := hR n sx sm (xs (i + 1)) hRR hn
  have C0 := Cx.1
  obtain ⟨hx, hb, hr, hml, hown, hts, hX, hbl, hlocks, hgv⟩ := id C0
  refine lv_aload_n hx hb d_law_563 rfl (lv_at hl 1 rfl) ?_
  refine lw_arg1 C0 hL hi hS hl d_law_564 d_law_565 d_law_566 d_law_567 d_law_568 ?_
  refine lw_vcall Cx (As := [.int (xs (i + 1))]) (rest := []) (w2 := mm_wr E adm (ms_H sm)) (h := xs_H (.ref 9) (.ref 17) (.ref 9) pr sx) (ad := adx) (Q := fun v2 h2 => v2 = some (.int v) ∧ h2 = xs_H (.ref 9) (.ref 17) (.ref 9) pr s2) (hct (0 + 7) 242 _ _ _ (xt_11_ways xB 0 (.ref 9) (.ref 17) pr sx (xs (i + 1)) v s2 _ hf ⟨rfl, rfl⟩)) (by decide +kernel) (na := 2) (ci := 11) (by decide +kernel) rfl rfl lw_ln_86 rfl (by decide) (Nat.le_of_ble_eq_true rfl) hl.1 d_law_569 hP hD hS hfit (fun v2 h2 H1 locs1 hq _ hP hD hS => ?_)
  obtain ⟨rfl, rfl⟩ := hq
  show W p l e room_1 s m #[Value.ref b] below meth c H1 locs1 cells slots Z (F0 m 572 ls [.int v])
  obtain ⟨hP, hD⟩ := lw_comm hP hD
  generalize H1 = H at hP hS ⊢
  generalize locs1 = locs at hS ⊢
  refine lv_aload_n hx hb d_law_572 rfl (lv_at hl 2 rfl) ?_
  refine lw_arg1 C0 hL hi hS hl d_law_573 d_law_574 d_law_575 d_law_576 d_law_577 ?_
  refine lw_vcall Cx (As := [.int (xs (i + 1))]) (rest := [.int v]) (w2 := mm_wr E adx (xs_H (.ref 9) (.ref 17) (.ref 9) pr s2)) (h := ms_H sm) (ad := adm) (Q := fun v2 h2 => v2 = some (.int v) ∧ h2 = ms_H m2) (hct (0 + 9) 93 _ _ _ (mt_ways xB 0 sm (xs (i + 1)) v m2 _ hg ⟨rfl, rfl⟩)) (by decide +kernel) (na := 2) (ci := 12) (by decide +kernel) rfl rfl lw_ln_89 rfl (by decide) (Nat.le_of_ble_eq_true rfl) hl.1 d_law_578 hP hD hS hfit (fun v2 h2 H1 locs1 hq _ hP hD hS => ?_)
  obtain ⟨rfl, rfl⟩ := hq
  show W p l e room_1 s m #[Value.ref b] below meth c H1 locs1 cells slots Z (F0 m 581 ls [.int v, .int v])
  obtain ⟨hP, hD⟩ := lw_comm hP hD
  refine lv_icmp_eq (tgt := 1046) hx hb d_law_581 (by decide) (fun c1 => ?_) (fun c1 => absurd rfl c1)
  exact kk s2 m2 adx pr H1 locs1 hRn rfl hP hD hS
set_option maxHeartbeats 4000000 in
set_option maxRecDepth 100000 in
theorem lw_k18 {p : Program} {l : Launch} {e : Env} {s : State} {m : MethodId} {below : List Frame} {meth : Method} {c : Code} {b L : Nat} {xs : Nat → Int32} {D : va_G} {E : Nat → ClassId} {Xt : mm_Xt} {Z : State → Prop} (Cx : lw_Cx p s m meth c b L xs D E Xt) (hct : ∀ (d mi : Nat) (as : List Value) (h : mm_H) (Q : mm_R), mm_ct xB mm_Mk mm_Fk mm_PC d mi as h Q → ∃ t1, mm_at mm_T mi = some t1 ∧ t1.2.2.1 ≤ 40 ∧ mm_Met l D E Xt (d + 12) t1 (mm_Mk mi).1 (mm_Mk mi).2 as h Q) {R : Nat → xs_S → ms_S → Prop} (hR : lw_s18 R) {n i cells slots : Nat} (hn : n < 512) (hL : L ≤ 3072) (hi : i + 6 ≤ L) (hfit : cells ≤ 600000 ∧ slots ≤ 7302249) {sx : xs_S} {sm : ms_S} {adx adm : Nat → Nat} {pr : Value} {H : Heap} {locs : List Loc} {ls : Array Slot} (hRR : R n sx sm) (hP : va_P D vwCl (mm_wr E adx (xs_H (.ref 9) (.ref 17) (.ref 9) pr sx) ++ mm_wr E adm (ms_H sm)) H) (hD : va_D (fun q : Nat => s.heap.size ≤ q) (mm_wr E adx (xs_H (.ref 9) (.ref 17) (.ref 9) pr sx) ++ mm_wr E adm (ms_H sm))) (hS : va_S (fun q : Nat => s.heap.size ≤ q) s.heap H locs) (hl : lv_has ls 4 [(0, .ref b), (1, .ref (adx 0)), (2, .ref (adm 0)), (3, .int (nI i))]) (kk : ∀ (sx2 : xs_S) (sm2 : ms_S) (adx2 : Nat → Nat) (pr2 : Value) (H1 : Heap) (locs1 : List Loc), R (n + 1) sx2 sm2 → adx2 0 = adx 0 → va_P D vwCl (mm_wr E adx2 (xs_H (.ref 9) (.ref 17) (.ref 9) pr2 sx2) ++ mm_wr E adm (ms_H sm2)) H1 → va_D (fun q : Nat => s.heap.size ≤ q) (mm_wr E adx2 (xs_H (.ref 9) (.ref 17) (.ref 9) pr2 sx2) ++ mm_wr E adm (ms_H sm2)) → va_S (fun q : Nat => s.heap.size ≤ q) s.heap H1 locs1 → W p l e room_1 s m #[Value.ref b] below meth c H1 locs1 cells slots Z (F0 m 1046 ls [])) : W p l e room_1 s m #[Value.ref b] below meth c H locs cells slots Z (F0 m 586 ls []) := by
  obtain ⟨v, s2, m2, hf, hg, hRn⟩ := hR n sx sm (xs (i + 1)) hRR hn
  have C0 := Cx.1
  obtain ⟨hx, hb, hr, hml, hown, hts, hX, hbl, hlocks, hgv⟩ := id C0
  refine lv_aload_n hx hb d_law_586 rfl (lv_at hl 1 rfl) ?_
  refine lw_arg1 C0 hL hi hS hl d_law_587 d_law_588 d_law_589 d_law_590 d_law_591 ?_
  refine lw_vcall Cx (As := [.int (xs (i + 1))]) (rest := []) (w2 := mm_wr E adm (ms_H sm)) (h := xs_H (.ref 9) (.ref 17) (.ref 9) pr sx) (ad := adx) (Q := fun v2 h2 => v2 = some (.int v) ∧ h2 = xs_H (.ref 9) (.ref 17) (.ref 9) pr s2) (hct (0 + 7) 243 _ _ _ (xt_11_waking xB 0 (.ref 9) (.ref 17) pr sx (xs (i + 1)) v s2 _ hf ⟨rfl, rfl⟩)) (by decide +kernel) (na := 2) (ci := 11) (by decide +kernel) rfl rfl lw_ln_90 rfl (by decide) (Nat.le_of_ble_eq_true rfl) hl.1 d_law_592 hP hD hS hfit (fun v2 h2 H1 locs1 hq _ hP hD hS => ?_)
  obtain ⟨rfl, rfl⟩ := hq
  show W p l e room_1 s m #[Value.ref b] below meth c H1 locs1 cells slots Z (F0 m 595 ls [.int v])
  obtain ⟨hP, hD⟩ := lw_comm hP hD
  generalize H1 = H at hP hS ⊢
  generalize locs1 = locs at hS ⊢
  refine lv_aload_n hx hb d_law_595 rfl (lv_at hl 2 rfl) ?_
  refine lw_arg1 C0 hL hi hS hl d_law_596 d_law_597 d_law_598 d_law_599 d_law_600 ?_
  refine lw_vcall Cx (As := [.int (xs (i + 1))]) (rest := [.int v]) (w2 := mm_wr E adx (xs_H (.ref 9) (.ref 17) (.ref 9) pr s2)) (h := ms_H sm) (ad := adm) (Q := fun v2 h2 => v2 = some (.int v) ∧ h2 = ms_H m2) (hct (0 + 9) 94 _ _ _ (mt_waking xB 0 sm (xs (i + 1)) v m2 _ hg ⟨rfl, rfl⟩)) (by decide +kernel) (na := 2) (ci := 12) (by decide +kernel) rfl rfl lw_ln_93 rfl (by decide) (Nat.le_of_ble_eq_true rfl) hl.1 d_law_601 hP hD hS hfit (fun v2 h2 H1 locs1 hq _ hP hD hS => ?_)
  obtain ⟨rfl, rfl⟩ := hq
  show W p l e room_1 s m #[Value.ref b] below meth c H1 locs1 cells slots Z (F0 m 604 ls [.int v, .int v])
  obtain ⟨hP, hD⟩ := lw_comm hP hD
  refine lv_icmp_eq (tgt := 1046) hx hb d_law_604 (by decide) (fun c1 => ?_) (fun c1 => absurd rfl c1)
  exact kk s2 m2 adx pr H1 locs1 hRn rfl hP hD hS
set_option maxHeartbeats 4000000 in
set_option maxRecDepth 100000 in
theorem lw_k19 {p : Program} {l : Launch} {e : Env} {s : State} {m : MethodId} {below : List Frame} {meth : Method} {c : Code} {b L : Nat} {xs : Nat → Int32} {D : va_G} {E : Nat → ClassId} {Xt : mm_Xt} {Z : State → Prop} (Cx : lw_Cx p s m meth c b L xs D E Xt) (hct : ∀ (d mi : Nat) (as : List Value) (h : mm_H) (Q : mm_R), mm_ct xB mm_Mk mm_Fk mm_PC d mi as h Q → ∃ t1, mm_at mm_T mi = some t1 ∧ t1.2.2.1 ≤ 40 ∧ mm_Met l D E Xt (d + 12) t1 (mm_Mk mi).1 (mm_Mk mi).2 as h Q) {R : Nat → xs_S → ms_S → Prop} (hR : lw_s19 R) {n i cells slots : Nat} (hn : n < 512) (hL : L ≤ 3072) (hi : i + 6 ≤ L) (hfit : cells ≤ 600000 ∧ slots ≤ 7302249) {sx : xs_S} {sm : ms_S} {adx adm : Nat → Nat} {pr : Value} {H : Heap} {locs : List Loc} {ls : Array Slot} (hRR : R n sx sm) (hP : va_P D vwCl (mm_wr E adx (xs_H (.ref 9) (.ref 17) (.ref 9) pr sx) ++ mm_wr E adm (ms_H sm)) H) (hD : va_D (fun q : Nat => s.heap.size ≤ q) (mm_wr E adx (xs_H (.ref 9) (.ref 17) (.ref 9) pr sx) ++ mm_wr E adm (ms_H sm))) (hS : va_S (fun q : Nat => s.heap.size ≤ q) s.heap H locs) (hl : lv_has ls 4 [(0, .ref b), (1, .ref (adx 0)), (2, .ref (adm 0)), (3, .int (nI i))]) (kk : ∀ (sx2 : xs_S) (sm2 : ms_S) (adx2 : Nat → Nat) (pr2 : Value) (H1 : Heap) (locs1 : List Loc), R (n + 1) sx2 sm2 → adx2 0 = adx 0 → va_P D vwCl (mm_wr E adx2 (xs_H (.ref 9) (.ref 17) (.ref 9) pr2 sx2) ++ mm_wr E adm (ms_H sm2)) H1 → va_D (fun q : Nat => s.heap.size ≤ q) (mm_wr E adx2 (xs_H (.ref 9) (.ref 17) (.ref 9) pr2 sx2) ++ mm_wr E adm (ms_H sm2)) → va_S (fun q : Nat => s.heap.size ≤ q) s.heap H1 locs1 → W p l e room_1 s m #[Value.ref b] below meth c H1 locs1 cells slots Z (F0 m 1046 ls [])) : W p l e room_1 s m #[Value.ref b] below meth c H locs cells slots Z (F0 m 609 ls []) := by
  obtain ⟨v, s2, m2, hf, hg, hRn⟩ := hR n sx sm  hRR hn
  have C0 := Cx.1
  obtain ⟨hx, hb, hr, hml, hown, hts, hX, hbl, hlocks, hgv⟩ := id C0
  refine lv_aload_n hx hb d_law_609 rfl (lv_at hl 1 rfl) ?_
  refine lw_vcall Cx (As := []) (rest := []) (w2 := mm_wr E adm (ms_H sm)) (h := xs_H (.ref 9) (.ref 17) (.ref 9) pr sx) (ad := adx) (Q := fun v2 h2 => v2 = some (.int v) ∧ h2 = xs_H (.ref 9) (.ref 17) (.ref 9) pr s2) (hct (0 + 7) 244 _ _ _ (xt_11_ring xB 0 (.ref 9) (.ref 17) pr sx  v s2 _ hf ⟨rfl, rfl⟩)) (by decide +kernel) (na := 1) (ci := 11) (by decide +kernel) rfl rfl lw_ln_94 rfl (by decide) (Nat.le_of_ble_eq_true rfl) hl.1 d_law_610 hP hD hS hfit (fun v2 h2 H1 locs1 hq _ hP hD hS => ?_)
  obtain ⟨rfl, rfl⟩ := hq
  show W p l e room_1 s m #[Value.ref b] below meth c H1 locs1 cells slots Z (F0 m 613 ls [.int v])
  obtain ⟨hP, hD⟩ := lw_comm hP hD
  generalize H1 = H at hP hS ⊢
  generalize locs1 = locs at hS ⊢
  refine lv_aload_n hx hb d_law_613 rfl (lv_at hl 2 rfl) ?_
  refine lw_vcall Cx (As := []) (rest := [.int v]) (w2 := mm_wr E adx (xs_H (.ref 9) (.ref 17) (.ref 9) pr s2)) (h := ms_H sm) (ad := adm) (Q := fun v2 h2 => v2 = some (.int v) ∧ h2 = ms_H m2) (hct (0 + 9) 96 _ _ _ (mt_ring xB 0 sm  v m2 _ hg ⟨rfl, rfl⟩)) (by decide +kernel) (na := 1) (ci := 12) (by decide +kernel) rfl rfl lw_ln_97 rfl (by decide) (Nat.le_of_ble_eq_true rfl) hl.1 d_law_614 hP hD hS hfit (fun v2 h2 H1 locs1 hq _ hP hD hS => ?_)
  obtain ⟨rfl, rfl⟩ := hq
  show W p l e room_1 s m #[Value.ref b] below meth c H1 locs1 cells slots Z (F0 m 617 ls [.int v, .int v])
  obtain ⟨hP, hD⟩ := lw_comm hP hD
  refine lv_icmp_eq (tgt := 1046) hx hb d_law_617 (by decide) (fun c1 => ?_) (fun c1 => absurd rfl c1)
  exact kk s2 m2 adx pr H1 locs1 hRn rfl hP hD hS
set_option maxHeartbeats 4000000 in
set_option maxRecDepth 100000 in
theorem lw_k20 {p : Program} {l : Launch} {e : Env} {s : State} {m : MethodId} {below : List Frame} {meth : Method} {c : Code} {b L : Nat} {xs : Nat → Int32} {D : va_G} {E : Nat → ClassId} {Xt : mm_Xt} {Z : State → Prop} (Cx : lw_Cx p s m meth c b L xs D E Xt) (hct : ∀ (d mi : Nat) (as : List Value) (h : mm_H) (Q : mm_R), mm_ct xB mm_Mk mm_Fk mm_PC d mi as h Q → ∃ t1, mm_at mm_T mi = some t1 ∧ t1.2.2.1 ≤ 40 ∧ mm_Met l D E Xt (d + 12) t1 (mm_Mk mi).1 (mm_Mk mi).2 as h Q) {R : Nat → xs_S → ms_S → Prop} (hR : lw_s20 R) {n i cells slots : Nat} (hn : n < 512) (hL : L ≤ 3072) (hi : i + 6 ≤ L) (hfit : cells ≤ 600000 ∧ slots ≤ 7302249) {sx : xs_S} {sm : ms_S} {adx adm : Nat → Nat} {pr : Value} {H : Heap} {locs : List Loc} {ls : Array Slot} (hRR : R n sx sm) (hP : va_P D vwCl (mm_wr E adx (xs_H (.ref 9) (.ref 17) (.ref 9) pr sx) ++ mm_wr E adm (ms_H sm)) H) (hD : va_D (fun q : Nat => s.heap.size ≤ q) (mm_wr E adx (xs_H (.ref 9) (.ref 17) (.ref 9) pr sx) ++ mm_wr E adm (ms_H sm))) (hS : va_S (fun q : Nat => s.heap.size ≤ q) s.heap H locs) (hl : lv_has ls 4 [(0, .ref b), (1, .ref (adx 0)), (2, .ref (adm 0)), (3, .int (nI i))]) (kk : ∀ (sx2 : xs_S) (sm2 : ms_S) (adx2 : Nat → Nat) (pr2 : Value) (H1 : Heap) (locs1 : List Loc), R (n + 1) sx2 sm2 → adx2 0 = adx 0 → va_P D vwCl (mm_wr E adx2 (xs_H (.ref 9) (.ref 17) (.ref 9) pr2 sx2) ++ mm_wr E adm (ms_H sm2)) H1 → va_D (fun q : Nat => s.heap.size ≤ q) (mm_wr E adx2 (xs_H (.ref 9) (.ref 17) (.ref 9) pr2 sx2) ++ mm_wr E adm (ms_H sm2)) → va_S (fun q : Nat => s.heap.size ≤ q) s.heap H1 locs1 → W p l e room_1 s m #[Value.ref b] below meth c H1 locs1 cells slots Z (F0 m 1046 ls [])) : W p l e room_1 s m #[Value.ref b] below meth c H locs cells slots Z (F0 m 622 ls []) := by
  obtain ⟨v, s2, m2, hf, hg, hRn⟩ := hR n sx sm  hRR hn
  have C0 := Cx.1
  obtain ⟨hx, hb, hr, hml, hown, hts, hX, hbl, hlocks, hgv⟩ := id C0
  refine lv_aload_n hx hb d_law_622 rfl (lv_at hl 1 rfl) ?_
  refine lw_vcall Cx (As := []) (rest := []) (w2 := mm_wr E adm (ms_H sm)) (h := xs_H (.ref 9) (.ref 17) (.ref 9) pr sx) (ad := adx) (Q := fun v2 h2 => v2 = some (.int v) ∧ h2 = xs_H (.ref 9) (.ref 17) (.ref 9) pr s2) (hct (0 + 6) 245 _ _ _ (xt_11_reach xB 0 (.ref 9) (.ref 17) pr sx  v s2 _ hf ⟨rfl, rfl⟩)) (by decide +kernel) (na := 1) (ci := 11) (by decide +kernel) rfl rfl lw_ln_98 rfl (by decide) (Nat.le_of_ble_eq_true rfl) hl.1 d_law_623 hP hD hS hfit (fun v2 h2 H1 locs1 hq _ hP hD hS => ?_)
  obtain ⟨rfl, rfl⟩ := hq
  show W p l e room_1 s m #[Value.ref b] below meth c H1 locs1 cells slots Z (F0 m 626 ls [.int v])
  obtain ⟨hP, hD⟩ := lw_comm hP hD
  generalize H1 = H at hP hS ⊢
  generalize locs1 = locs at hS ⊢
  refine lv_aload_n hx hb d_law_626 rfl (lv_at hl 2 rfl) ?_
  refine lw_vcall Cx (As := []) (rest := [.int v]) (w2 := mm_wr E adx (xs_H (.ref 9) (.ref 17) (.ref 9) pr s2)) (h := ms_H sm) (ad := adm) (Q := fun v2 h2 => v2 = some (.int v) ∧ h2 = ms_H m2) (hct (0 + 9) 97 _ _ _ (mt_reach xB 0 sm  v m2 _ hg ⟨rfl, rfl⟩)) (by decide +kernel) (na := 1) (ci := 12) (by decide +kernel) rfl rfl lw_ln_101 rfl (by decide) (Nat.le_of_ble_eq_true rfl) hl.1 d_law_627 hP hD hS hfit (fun v2 h2 H1 locs1 hq _ hP hD hS => ?_)
  obtain ⟨rfl, rfl⟩ := hq
  show W p l e room_1 s m #[Value.ref b] below meth c H1 locs1 cells slots Z (F0 m 630 ls [.int v, .int v])
  obtain ⟨hP, hD⟩ := lw_comm hP hD
  refine lv_icmp_eq (tgt := 1046) hx hb d_law_630 (by decide) (fun c1 => ?_) (fun c1 => absurd rfl c1)
  exact kk s2 m2 adx pr H1 locs1 hRn rfl hP hD hS
set_option maxHeartbeats 4000000 in
set_option maxRecDepth 100000 in
theorem lw_k21 {p : Program} {l : Launch} {e : Env} {s : State} {m : MethodId} {below : List Frame} {meth : Method} {c : Code} {b L : Nat} {xs : Nat → Int32} {D : va_G} {E : Nat → ClassId} {Xt : mm_Xt} {Z : State → Prop} (Cx : lw_Cx p s m meth c b L xs D E Xt) (hct : ∀ (d mi : Nat) (as : List Value) (h : mm_H) (Q : mm_R), mm_ct xB mm_Mk mm_Fk mm_PC d mi as h Q → ∃ t1, mm_at mm_T mi = some t1 ∧ t1.2.2.1 ≤ 40 ∧ mm_Met l D E Xt (d + 12) t1 (mm_Mk mi).1 (mm_Mk mi).2 as h Q) {R : Nat → xs_S → ms_S → Prop} (hR : lw_s21 R) {n i cells slots : Nat} (hn : n < 512) (hL : L ≤ 3072) (hi : i + 6 ≤ L) (hfit : cells ≤ 600000 ∧ slots ≤ 7302249) {sx : xs_S} {sm : ms_S} {adx adm : Nat → Nat} {pr : Value} {H : Heap} {locs : List Loc} {ls : Array Slot} (hRR : R n sx sm) (hP : va_P D vwCl (mm_wr E adx (xs_H (.ref 9) (.ref 17) (.ref 9) pr sx) ++ mm_wr E adm (ms_H sm)) H) (hD : va_D (fun q : Nat => s.heap.size ≤ q) (mm_wr E adx (xs_H (.ref 9) (.ref 17) (.ref 9) pr sx) ++ mm_wr E adm (ms_H sm))) (hS : va_S (fun q : Nat => s.heap.size ≤ q) s.heap H locs) (hl : lv_has ls 4 [(0, .ref b), (1, .ref (adx 0)), (2, .ref (adm 0)), (3, .int (nI i))]) (kk : ∀ (sx2 : xs_S) (sm2 : ms_S) (adx2 : Nat → Nat) (pr2 : Value) (H1 : Heap) (locs1 : List Loc), R (n + 1) sx2 sm2 → adx2 0 = adx 0 → va_P D vwCl (mm_wr E adx2 (xs_H (.ref 9) (.ref 17) (.ref 9) pr2 sx2) ++ mm_wr E adm (ms_H sm2)) H1 → va_D (fun q : Nat => s.heap.size ≤ q) (mm_wr E adx2 (xs_H (.ref 9) (.ref 17) (.ref 9) pr2 sx2) ++ mm_wr E adm (ms_H sm2)) → va_S (fun q : Nat => s.heap.size ≤ q) s.heap H1 locs1 → W p l e room_1 s m #[Value.ref b] below meth c H1 locs1 cells slots Z (F0 m 1046 ls [])) : W p l e room_1 s m #[Value.ref b] below meth c H locs cells slots Z (F0 m 635 ls []) := by
  obtain ⟨v, s2, m2, hf, hg, hRn⟩ := hR n sx sm  hRR hn
  have C0 := Cx.1
  obtain ⟨hx, hb, hr, hml, hown, hts, hX, hbl, hlocks, hgv⟩ := id C0
  refine lv_aload_n hx hb d_law_635 rfl (lv_at hl 1 rfl) ?_
  refine lw_vcall Cx (As := []) (rest := []) (w2 := mm_wr E adm (ms_H sm)) (h := xs_H (.ref 9) (.ref 17) (.ref 9) pr sx) (ad := adx) (Q := fun v2 h2 => v2 = some (.int v) ∧ h2 = xs_H (.ref 9) (.ref 17) (.ref 9) pr s2) (hct (0 + 6) 246 _ _ _ (xt_11_slopes xB 0 (.ref 9) (.ref 17) pr sx  v s2 _ hf ⟨rfl, rfl⟩)) (by decide +kernel) (na := 1) (ci := 11) (by decide +kernel) rfl rfl lw_ln_102 rfl (by decide) (Nat.le_of_ble_eq_true rfl) hl.1 d_law_636 hP hD hS hfit (fun v2 h2 H1 locs1 hq _ hP hD hS => ?_)
  obtain ⟨rfl, rfl⟩ := hq
  show W p l e room_1 s m #[Value.ref b] below meth c H1 locs1 cells slots Z (F0 m 639 ls [.int v])
  obtain ⟨hP, hD⟩ := lw_comm hP hD
  generalize H1 = H at hP hS ⊢
  generalize locs1 = locs at hS ⊢
  refine lv_aload_n hx hb d_law_639 rfl (lv_at hl 2 rfl) ?_
  refine lw_vcall Cx (As := []) (rest := [.int v]) (w2 := mm_wr E adx (xs_H (.ref 9) (.ref 17) (.ref 9) pr s2)) (h := ms_H sm) (ad := adm) (Q := fun v2 h2 => v2 = some (.int v) ∧ h2 = ms_H m2) (hct (0 + 9) 98 _ _ _ (mt_slopes xB 0 sm  v m2 _ hg ⟨rfl, rfl⟩)) (by decide +kernel) (na := 1) (ci := 12) (by decide +kernel) rfl rfl lw_ln_105 rfl (by decide) (Nat.le_of_ble_eq_true rfl) hl.1 d_law_640 hP hD hS hfit (fun v2 h2 H1 locs1 hq _ hP hD hS => ?_)
  obtain ⟨rfl, rfl⟩ := hq
  show W p l e room_1 s m #[Value.ref b] below meth c H1 locs1 cells slots Z (F0 m 643 ls [.int v, .int v])
  obtain ⟨hP, hD⟩ := lw_comm hP hD
  refine lv_icmp_eq (tgt := 1046) hx hb d_law_643 (by decide) (fun c1 => ?_) (fun c1 => absurd rfl c1)
  exact kk s2 m2 adx pr H1 locs1 hRn rfl hP hD hS
set_option maxHeartbeats 4000000 in
set_option maxRecDepth 100000 in
theorem lw_k22 {p : Program} {l : Launch} {e : Env} {s : State} {m : MethodId} {below : List Frame} {meth : Method} {c : Code} {b L : Nat} {xs : Nat → Int32} {D : va_G} {E : Nat → ClassId} {Xt : mm_Xt} {Z : State → Prop} (Cx : lw_Cx p s m meth c b L xs D E Xt) (hct : ∀ (d mi : Nat) (as : List Value) (h : mm_H) (Q : mm_R), mm_ct xB mm_Mk mm_Fk mm_PC d mi as h Q → ∃ t1, mm_at mm_T mi = some t1 ∧ t1.2.2.1 ≤ 40 ∧ mm_Met l D E Xt (d + 12) t1 (mm_Mk mi).1 (mm_Mk mi).2 as h Q) {R : Nat → xs_S → ms_S → Prop} (hR : lw_s22 R) {n i cells slots : Nat} (hn : n < 512) (hL : L ≤ 3072) (hi : i + 6 ≤ L) (hfit : cells ≤ 600000 ∧ slots ≤ 7302249) {sx : xs_S} {sm : ms_S} {adx adm : Nat → Nat} {pr : Value} {H : Heap} {locs : List Loc} {ls : Array Slot} (hRR : R n sx sm) (hP : va_P D vwCl (mm_wr E adx (xs_H (.ref 9) (.ref 17) (.ref 9) pr sx) ++ mm_wr E adm (ms_H sm)) H) (hD : va_D (fun q : Nat => s.heap.size ≤ q) (mm_wr E adx (xs_H (.ref 9) (.ref 17) (.ref 9) pr sx) ++ mm_wr E adm (ms_H sm))) (hS : va_S (fun q : Nat => s.heap.size ≤ q) s.heap H locs) (hl : lv_has ls 4 [(0, .ref b), (1, .ref (adx 0)), (2, .ref (adm 0)), (3, .int (nI i))]) (kk : ∀ (sx2 : xs_S) (sm2 : ms_S) (adx2 : Nat → Nat) (pr2 : Value) (H1 : Heap) (locs1 : List Loc), R (n + 1) sx2 sm2 → adx2 0 = adx 0 → va_P D vwCl (mm_wr E adx2 (xs_H (.ref 9) (.ref 17) (.ref 9) pr2 sx2) ++ mm_wr E adm (ms_H sm2)) H1 → va_D (fun q : Nat => s.heap.size ≤ q) (mm_wr E adx2 (xs_H (.ref 9) (.ref 17) (.ref 9) pr2 sx2) ++ mm_wr E adm (ms_H sm2)) → va_S (fun q : Nat => s.heap.size ≤ q) s.heap H1 locs1 → W p l e room_1 s m #[Value.ref b] below meth c H1 locs1 cells slots Z (F0 m 1046 ls [])) : W p l e room_1 s m #[Value.ref b] below meth c H locs cells slots Z (F0 m 648 ls []) := by
  obtain ⟨v, s2, m2, hf, hg, hRn⟩ := hR n sx sm  hRR hn
  have C0 := Cx.1
  obtain ⟨hx, hb, hr, hml, hown, hts, hX, hbl, hlocks, hgv⟩ := id C0
  refine lv_aload_n hx hb d_law_648 rfl (lv_at hl 1 rfl) ?_
  refine lw_vcall Cx (As := []) (rest := []) (w2 := mm_wr E adm (ms_H sm)) (h := xs_H (.ref 9) (.ref 17) (.ref 9) pr sx) (ad := adx) (Q := fun v2 h2 => v2 = some (.int v) ∧ h2 = xs_H (.ref 9) (.ref 17) (.ref 9) pr s2) (hct (0 + 7) 247 _ _ _ (xt_11_hangs xB 0 (.ref 17) pr sx  v s2 _ hf ⟨rfl, rfl⟩)) (by decide +kernel) (na := 1) (ci := 11) (by decide +kernel) rfl rfl lw_ln_106 rfl (by decide) (Nat.le_of_ble_eq_true rfl) hl.1 d_law_649 hP hD hS hfit (fun v2 h2 H1 locs1 hq _ hP hD hS => ?_)
  obtain ⟨rfl, rfl⟩ := hq
  show W p l e room_1 s m #[Value.ref b] below meth c H1 locs1 cells slots Z (F0 m 652 ls [.int v])
  obtain ⟨hP, hD⟩ := lw_comm hP hD
  generalize H1 = H at hP hS ⊢
  generalize locs1 = locs at hS ⊢
  refine lv_aload_n hx hb d_law_652 rfl (lv_at hl 2 rfl) ?_
  refine lw_vcall Cx (As := []) (rest := [.int v]) (w2 := mm_wr E adx (xs_H (.ref 9) (.ref 17) (.ref 9) pr s2)) (h := ms_H sm) (ad := adm) (Q := fun v2 h2 => v2 = some (.int v) ∧ h2 = ms_H m2) (hct (0 + 9) 84 _ _ _ (mt_hangs xB 0 sm  v m2 _ hg ⟨rfl, rfl⟩)) (by decide +kernel) (na := 1) (ci := 12) (by decide +kernel) rfl rfl lw_ln_109 rfl (by decide) (Nat.le_of_ble_eq_true rfl) hl.1 d_law_653 hP hD hS hfit (fun v2 h2 H1 locs1 hq _ hP hD hS => ?_)
  obtain ⟨rfl, rfl⟩ := hq
  show W p l e room_1 s m #[Value.ref b] below meth c H1 locs1 cells slots Z (F0 m 656 ls [.int v, .int v])
  obtain ⟨hP, hD⟩ := lw_comm hP hD
  refine lv_icmp_eq (tgt := 1046) hx hb d_law_656 (by decide) (fun c1 => ?_) (fun c1 => absurd rfl c1)
  exact kk s2 m2 adx pr H1 locs1 hRn rfl hP hD hS
set_option maxHeartbeats 4000000 in
set_option maxRecDepth 100000 in
theorem lw_k23 {p : Program} {l : Launch} {e : Env} {s : State} {m : MethodId} {below : List Frame} {meth : Method} {c : Code} {b L : Nat} {xs : Nat → Int32} {D : va_G} {E : Nat → ClassId} {Xt : mm_Xt} {Z : State → Prop} (Cx : lw_Cx p s m meth c b L xs D E Xt) (hct : ∀ (d mi : Nat) (as : List Value) (h : mm_H) (Q : mm_R), mm_ct xB mm_Mk mm_Fk mm_PC d mi as h Q → ∃ t1, mm_at mm_T mi = some t1 ∧ t1.2.2.1 ≤ 40 ∧ mm_Met l D E Xt (d + 12) t1 (mm_Mk mi).1 (mm_Mk mi).2 as h Q) {R : Nat → xs_S → ms_S → Prop} (hR : lw_s23 R) {n i cells slots : Nat} (hn : n < 512) (hL : L ≤ 3072) (hi : i + 6 ≤ L) (hfit : cells ≤ 600000 ∧ slots ≤ 7302249) {sx : xs_S} {sm : ms_S} {adx adm : Nat → Nat} {pr : Value} {H : Heap} {locs : List Loc} {ls : Array Slot} (hRR : R n sx sm) (hP : va_P D vwCl (mm_wr E adx (xs_H (.ref 9) (.ref 17) (.ref 9) pr sx) ++ mm_wr E adm (ms_H sm)) H) (hD : va_D (fun q : Nat => s.heap.size ≤ q) (mm_wr E adx (xs_H (.ref 9) (.ref 17) (.ref 9) pr sx) ++ mm_wr E adm (ms_H sm))) (hS : va_S (fun q : Nat => s.heap.size ≤ q) s.heap H locs) (hl : lv_has ls 4 [(0, .ref b), (1, .ref (adx 0)), (2, .ref (adm 0)), (3, .int (nI i))]) (kk : ∀ (sx2 : xs_S) (sm2 : ms_S) (adx2 : Nat → Nat) (pr2 : Value) (H1 : Heap) (locs1 : List Loc), R (n + 1) sx2 sm2 → adx2 0 = adx 0 → va_P D vwCl (mm_wr E adx2 (xs_H (.ref 9) (.ref 17) (.ref 9) pr2 sx2) ++ mm_wr E adm (ms_H sm2)) H1 → va_D (fun q : Nat => s.heap.size ≤ q) (mm_wr E adx2 (xs_H (.ref 9) (.ref 17) (.ref 9) pr2 sx2) ++ mm_wr E adm (ms_H sm2)) → va_S (fun q : Nat => s.heap.size ≤ q) s.heap H1 locs1 → W p l e room_1 s m #[Value.ref b] below meth c H1 locs1 cells slots Z (F0 m 1046 ls [])) : W p l e room_1 s m #[Value.ref b] below meth c H locs cells slots Z (F0 m 661 ls []) := by
  obtain ⟨v, s2, m2, hf, hg, hRn⟩ := hR n sx sm (xs (i + 1)) hRR hn
  have C0 := Cx.1
  obtain ⟨hx, hb, hr, hml, hown, hts, hX, hbl, hlocks, hgv⟩ := id C0
  refine lv_aload_n hx hb d_law_661 rfl (lv_at hl 1 rfl) ?_
  refine lw_arg1 C0 hL hi hS hl d_law_662 d_law_663 d_law_664 d_law_665 d_law_666 ?_
  refine lw_vcall Cx (As := [.int (xs (i + 1))]) (rest := []) (w2 := mm_wr E adm (ms_H sm)) (h := xs_H (.ref 9) (.ref 17) (.ref 9) pr sx) (ad := adx) (Q := fun v2 h2 => v2 = some (.int v) ∧ h2 = xs_H (.ref 9) (.ref 17) (.ref 9) pr s2) (hct (0 + 7) 248 _ _ _ (xt_11_scale xB 0 (.ref 17) pr sx (xs (i + 1)) v s2 _ hf ⟨rfl, rfl⟩)) (by decide +kernel) (na := 2) (ci := 11) (by decide +kernel) rfl rfl lw_ln_110 rfl (by decide) (Nat.le_of_ble_eq_true rfl) hl.1 d_law_667 hP hD hS hfit (fun v2 h2 H1 locs1 hq _ hP hD hS => ?_)
  obtain ⟨rfl, rfl⟩ := hq
  show W p l e room_1 s m #[Value.ref b] below meth c H1 locs1 cells slots Z (F0 m 670 ls [.int v])
  obtain ⟨hP, hD⟩ := lw_comm hP hD
  generalize H1 = H at hP hS ⊢
  generalize locs1 = locs at hS ⊢
  refine lv_aload_n hx hb d_law_670 rfl (lv_at hl 2 rfl) ?_
  refine lw_arg1 C0 hL hi hS hl d_law_671 d_law_672 d_law_673 d_law_674 d_law_675 ?_
  refine lw_vcall Cx (As := [.int (xs (i + 1))]) (rest := [.int v]) (w2 := mm_wr E adx (xs_H (.ref 9) (.ref 17) (.ref 9) pr s2)) (h := ms_H sm) (ad := adm) (Q := fun v2 h2 => v2 = some (.int v) ∧ h2 = ms_H m2) (hct (0 + 9) 85 _ _ _ (mt_scale xB 0 sm (xs (i + 1)) v m2 _ hg ⟨rfl, rfl⟩)) (by decide +kernel) (na := 2) (ci := 12) (by decide +kernel) rfl rfl lw_ln_113 rfl (by decide) (Nat.le_of_ble_eq_true rfl) hl.1 d_law_676 hP hD hS hfit (fun v2 h2 H1 locs1 hq _ hP hD hS => ?_)
  obtain ⟨rfl, rfl⟩ := hq
  show W p l e room_1 s m #[Value.ref b] below meth c H1 locs1 cells slots Z (F0 m 679 ls [.int v, .int v])
  obtain ⟨hP, hD⟩ := lw_comm hP hD
  refine lv_icmp_eq (tgt := 1046) hx hb d_law_679 (by decide) (fun c1 => ?_) (fun c1 => absurd rfl c1)
  exact kk s2 m2 adx pr H1 locs1 hRn rfl hP hD hS
