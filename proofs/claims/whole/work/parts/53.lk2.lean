/-! the law's cases, 2 -/
set_option maxHeartbeats 4000000 in
set_option maxRecDepth 100000 in
theorem lw_k24 {p : Program} {l : Launch} {e : Env} {s : State} {m : MethodId} {below : List Frame} {meth : Method} {c : Code} {b L : Nat} {xs : Nat → Int32} {D : va_G} {E : Nat → ClassId} {Xt : mm_Xt} {Z : State → Prop} (Cx : lw_Cx p s m meth c b L xs D E Xt) (hct : ∀ (d mi : Nat) (as : List Value) (h : mm_H) (Q : mm_R), mm_ct xB mm_Mk mm_Fk mm_PC d mi as h Q → ∃ t1, mm_at mm_T mi = some t1 ∧ t1.2.2.1 ≤ 40 ∧ mm_Met l D E Xt (d + 12) t1 (mm_Mk mi).1 (mm_Mk mi).2 as h Q) {R : Nat → xs_S → ms_S → Prop} (hR : lw_s24 R) {n i cells slots : Nat} (hn : n < 512) (hL : L ≤ 3072) (hi : i + 6 ≤ L) (hfit : cells ≤ 600000 ∧ slots ≤ 7302249) {sx : xs_S} {sm : ms_S} {adx adm : Nat → Nat} {pr : Value} {H : Heap} {locs : List Loc} {ls : Array Slot} (hRR : R n sx sm) (hP : va_P D vwCl (mm_wr E adx (xs_H (.ref 9) (.ref 17) (.ref 9) pr sx) ++ mm_wr E adm (ms_H sm)) H) (hD : va_D (fun q : Nat => s.heap.size ≤ q) (mm_wr E adx (xs_H (.ref 9) (.ref 17) (.ref 9) pr sx) ++ mm_wr E adm (ms_H sm))) (hS : va_S (fun q : Nat => s.heap.size ≤ q) s.heap H locs) (hl : lv_has ls 4 [(0, .ref b), (1, .ref (adx 0)), (2, .ref (adm 0)), (3, .int (nI i))]) (kk : ∀ (sx2 : xs_S) (sm2 : ms_S) (adx2 : Nat → Nat) (pr2 : Value) (H1 : Heap) (locs1 : List Loc), R (n + 1) sx2 sm2 → adx2 0 = adx 0 → va_P D vwCl (mm_wr E adx2 (xs_H (.ref 9) (.ref 17) (.ref 9) pr2 sx2) ++ mm_wr E adm (ms_H sm2)) H1 → va_D (fun q : Nat => s.heap.size ≤ q) (mm_wr E adx2 (xs_H (.ref 9) (.ref 17) (.ref 9) pr2 sx2) ++ mm_wr E adm (ms_H sm2)) → va_S (fun q : Nat => s.heap.size ≤ q) s.heap H1 locs1 → W p l e room_1 s m #[Value.ref b] below meth c H1 locs1 cells slots Z (F0 m 1046 ls [])) : W p l e room_1 s m #[Value.ref b] below meth c H locs cells slots Z (F0 m 684 ls []) := by
  obtain ⟨v, s2, m2, hf, hg, hRn⟩ := hR n sx sm (xs (i + 1)) (xs (i + 2)) hRR hn
  have C0 := Cx.1
  obtain ⟨hx, hb, hr, hml, hown, hts, hX, hbl, hlocks, hgv⟩ := id C0
  refine lv_aload_n hx hb d_law_684 rfl (lv_at hl 1 rfl) ?_
  refine lw_arg1 C0 hL hi hS hl d_law_685 d_law_686 d_law_687 d_law_688 d_law_689 ?_
  refine lw_arg2 C0 hL hi hS hl d_law_690 d_law_691 d_law_692 d_law_693 d_law_694 ?_
  refine lw_vcall Cx (As := [.int (xs (i + 1)), .int (xs (i + 2))]) (rest := []) (w2 := mm_wr E adm (ms_H sm)) (h := xs_H (.ref 9) (.ref 17) (.ref 9) pr sx) (ad := adx) (Q := fun v2 h2 => v2 = some (.int v) ∧ h2 = xs_H (.ref 9) (.ref 17) (.ref 9) pr s2) (hct (0 + 8) 249 _ _ _ (xt_11_calm xB 0 (.ref 17) pr sx (xs (i + 1)) (xs (i + 2)) v s2 _ hf ⟨rfl, rfl⟩)) (by decide +kernel) (na := 3) (ci := 11) (by decide +kernel) rfl rfl lw_ln_114 rfl (by decide) (Nat.le_of_ble_eq_true rfl) hl.1 d_law_695 hP hD hS hfit (fun v2 h2 H1 locs1 hq _ hP hD hS => ?_)
  obtain ⟨rfl, rfl⟩ := hq
  show W p l e room_1 s m #[Value.ref b] below meth c H1 locs1 cells slots Z (F0 m 698 ls [.int v])
  obtain ⟨hP, hD⟩ := lw_comm hP hD
  generalize H1 = H at hP hS ⊢
  generalize locs1 = locs at hS ⊢
  refine lv_aload_n hx hb d_law_698 rfl (lv_at hl 2 rfl) ?_
  refine lw_arg1 C0 hL hi hS hl d_law_699 d_law_700 d_law_701 d_law_702 d_law_703 ?_
  refine lw_arg2 C0 hL hi hS hl d_law_704 d_law_705 d_law_706 d_law_707 d_law_708 ?_
  refine lw_vcall Cx (As := [.int (xs (i + 1)), .int (xs (i + 2))]) (rest := [.int v]) (w2 := mm_wr E adx (xs_H (.ref 9) (.ref 17) (.ref 9) pr s2)) (h := ms_H sm) (ad := adm) (Q := fun v2 h2 => v2 = some (.int v) ∧ h2 = ms_H m2) (hct (0 + 10) 100 _ _ _ (mt_calm xB 0 sm (xs (i + 1)) (xs (i + 2)) v m2 _ hg ⟨rfl, rfl⟩)) (by decide +kernel) (na := 3) (ci := 12) (by decide +kernel) rfl rfl lw_ln_117 rfl (by decide) (Nat.le_of_ble_eq_true rfl) hl.1 d_law_709 hP hD hS hfit (fun v2 h2 H1 locs1 hq _ hP hD hS => ?_)
  obtain ⟨rfl, rfl⟩ := hq
  show W p l e room_1 s m #[Value.ref b] below meth c H1 locs1 cells slots Z (F0 m 712 ls [.int v, .int v])
  obtain ⟨hP, hD⟩ := lw_comm hP hD
  refine lv_icmp_eq (tgt := 1046) hx hb d_law_712 (by decide) (fun c1 => ?_) (fun c1 => absurd rfl c1)
  exact kk s2 m2 adx pr H1 locs1 hRn rfl hP hD hS
set_option maxHeartbeats 4000000 in
set_option maxRecDepth 100000 in
theorem lw_k25 {p : Program} {l : Launch} {e : Env} {s : State} {m : MethodId} {below : List Frame} {meth : Method} {c : Code} {b L : Nat} {xs : Nat → Int32} {D : va_G} {E : Nat → ClassId} {Xt : mm_Xt} {Z : State → Prop} (Cx : lw_Cx p s m meth c b L xs D E Xt) (hct : ∀ (d mi : Nat) (as : List Value) (h : mm_H) (Q : mm_R), mm_ct xB mm_Mk mm_Fk mm_PC d mi as h Q → ∃ t1, mm_at mm_T mi = some t1 ∧ t1.2.2.1 ≤ 40 ∧ mm_Met l D E Xt (d + 12) t1 (mm_Mk mi).1 (mm_Mk mi).2 as h Q) {R : Nat → xs_S → ms_S → Prop} (hR : lw_s25 R) {n i cells slots : Nat} (hn : n < 512) (hL : L ≤ 3072) (hi : i + 6 ≤ L) (hfit : cells ≤ 600000 ∧ slots ≤ 7302249) {sx : xs_S} {sm : ms_S} {adx adm : Nat → Nat} {pr : Value} {H : Heap} {locs : List Loc} {ls : Array Slot} (hRR : R n sx sm) (hP : va_P D vwCl (mm_wr E adx (xs_H (.ref 9) (.ref 17) (.ref 9) pr sx) ++ mm_wr E adm (ms_H sm)) H) (hD : va_D (fun q : Nat => s.heap.size ≤ q) (mm_wr E adx (xs_H (.ref 9) (.ref 17) (.ref 9) pr sx) ++ mm_wr E adm (ms_H sm))) (hS : va_S (fun q : Nat => s.heap.size ≤ q) s.heap H locs) (hl : lv_has ls 4 [(0, .ref b), (1, .ref (adx 0)), (2, .ref (adm 0)), (3, .int (nI i))]) (kk : ∀ (sx2 : xs_S) (sm2 : ms_S) (adx2 : Nat → Nat) (pr2 : Value) (H1 : Heap) (locs1 : List Loc), R (n + 1) sx2 sm2 → adx2 0 = adx 0 → va_P D vwCl (mm_wr E adx2 (xs_H (.ref 9) (.ref 17) (.ref 9) pr2 sx2) ++ mm_wr E adm (ms_H sm2)) H1 → va_D (fun q : Nat => s.heap.size ≤ q) (mm_wr E adx2 (xs_H (.ref 9) (.ref 17) (.ref 9) pr2 sx2) ++ mm_wr E adm (ms_H sm2)) → va_S (fun q : Nat => s.heap.size ≤ q) s.heap H1 locs1 → W p l e room_1 s m #[Value.ref b] below meth c H1 locs1 cells slots Z (F0 m 1046 ls [])) : W p l e room_1 s m #[Value.ref b] below meth c H locs cells slots Z (F0 m 717 ls []) := by
  obtain ⟨v, s2, m2, hf, hg, hRn⟩ := hR n sx sm (xs (i + 1)) hRR hn
  have C0 := Cx.1
  obtain ⟨hx, hb, hr, hml, hown, hts, hX, hbl, hlocks, hgv⟩ := id C0
  refine lv_aload_n hx hb d_law_717 rfl (lv_at hl 1 rfl) ?_
  refine lw_arg1 C0 hL hi hS hl d_law_718 d_law_719 d_law_720 d_law_721 d_law_722 ?_
  refine lw_vcall Cx (As := [.int (xs (i + 1))]) (rest := []) (w2 := mm_wr E adm (ms_H sm)) (h := xs_H (.ref 9) (.ref 17) (.ref 9) pr sx) (ad := adx) (Q := fun v2 h2 => v2 = some (.int v) ∧ h2 = xs_H (.ref 9) (.ref 17) (.ref 9) pr s2) (hct (0 + 10) 250 _ _ _ (xt_11_couples xB 0 (.ref 17) pr sx (xs (i + 1)) v s2 _ hf ⟨rfl, rfl⟩)) (by decide +kernel) (na := 2) (ci := 11) (by decide +kernel) rfl rfl lw_ln_118 rfl (by decide) (Nat.le_of_ble_eq_true rfl) hl.1 d_law_723 hP hD hS hfit (fun v2 h2 H1 locs1 hq _ hP hD hS => ?_)
  obtain ⟨rfl, rfl⟩ := hq
  show W p l e room_1 s m #[Value.ref b] below meth c H1 locs1 cells slots Z (F0 m 726 ls [.int v])
  obtain ⟨hP, hD⟩ := lw_comm hP hD
  generalize H1 = H at hP hS ⊢
  generalize locs1 = locs at hS ⊢
  refine lv_aload_n hx hb d_law_726 rfl (lv_at hl 2 rfl) ?_
  refine lw_arg1 C0 hL hi hS hl d_law_727 d_law_728 d_law_729 d_law_730 d_law_731 ?_
  refine lw_vcall Cx (As := [.int (xs (i + 1))]) (rest := [.int v]) (w2 := mm_wr E adx (xs_H (.ref 9) (.ref 17) (.ref 9) pr s2)) (h := ms_H sm) (ad := adm) (Q := fun v2 h2 => v2 = some (.int v) ∧ h2 = ms_H m2) (hct (0 + 12) 107 _ _ _ (mt_couples xB 0 sm (xs (i + 1)) v m2 _ hg ⟨rfl, rfl⟩)) (by decide +kernel) (na := 2) (ci := 12) (by decide +kernel) rfl rfl lw_ln_121 rfl (by decide) (Nat.le_of_ble_eq_true rfl) hl.1 d_law_732 hP hD hS hfit (fun v2 h2 H1 locs1 hq _ hP hD hS => ?_)
  obtain ⟨rfl, rfl⟩ := hq
  show W p l e room_1 s m #[Value.ref b] below meth c H1 locs1 cells slots Z (F0 m 735 ls [.int v, .int v])
  obtain ⟨hP, hD⟩ := lw_comm hP hD
  refine lv_icmp_eq (tgt := 1046) hx hb d_law_735 (by decide) (fun c1 => ?_) (fun c1 => absurd rfl c1)
  exact kk s2 m2 adx pr H1 locs1 hRn rfl hP hD hS
set_option maxHeartbeats 4000000 in
set_option maxRecDepth 100000 in
theorem lw_k26 {p : Program} {l : Launch} {e : Env} {s : State} {m : MethodId} {below : List Frame} {meth : Method} {c : Code} {b L : Nat} {xs : Nat → Int32} {D : va_G} {E : Nat → ClassId} {Xt : mm_Xt} {Z : State → Prop} (Cx : lw_Cx p s m meth c b L xs D E Xt) (hct : ∀ (d mi : Nat) (as : List Value) (h : mm_H) (Q : mm_R), mm_ct xB mm_Mk mm_Fk mm_PC d mi as h Q → ∃ t1, mm_at mm_T mi = some t1 ∧ t1.2.2.1 ≤ 40 ∧ mm_Met l D E Xt (d + 12) t1 (mm_Mk mi).1 (mm_Mk mi).2 as h Q) {R : Nat → xs_S → ms_S → Prop} (hR : lw_s26 R) {n i cells slots : Nat} (hn : n < 512) (hL : L ≤ 3072) (hi : i + 6 ≤ L) (hfit : cells ≤ 600000 ∧ slots ≤ 7302249) {sx : xs_S} {sm : ms_S} {adx adm : Nat → Nat} {pr : Value} {H : Heap} {locs : List Loc} {ls : Array Slot} (hRR : R n sx sm) (hP : va_P D vwCl (mm_wr E adx (xs_H (.ref 9) (.ref 17) (.ref 9) pr sx) ++ mm_wr E adm (ms_H sm)) H) (hD : va_D (fun q : Nat => s.heap.size ≤ q) (mm_wr E adx (xs_H (.ref 9) (.ref 17) (.ref 9) pr sx) ++ mm_wr E adm (ms_H sm))) (hS : va_S (fun q : Nat => s.heap.size ≤ q) s.heap H locs) (hl : lv_has ls 4 [(0, .ref b), (1, .ref (adx 0)), (2, .ref (adm 0)), (3, .int (nI i))]) (kk : ∀ (sx2 : xs_S) (sm2 : ms_S) (adx2 : Nat → Nat) (pr2 : Value) (H1 : Heap) (locs1 : List Loc), R (n + 1) sx2 sm2 → adx2 0 = adx 0 → va_P D vwCl (mm_wr E adx2 (xs_H (.ref 9) (.ref 17) (.ref 9) pr2 sx2) ++ mm_wr E adm (ms_H sm2)) H1 → va_D (fun q : Nat => s.heap.size ≤ q) (mm_wr E adx2 (xs_H (.ref 9) (.ref 17) (.ref 9) pr2 sx2) ++ mm_wr E adm (ms_H sm2)) → va_S (fun q : Nat => s.heap.size ≤ q) s.heap H1 locs1 → W p l e room_1 s m #[Value.ref b] below meth c H1 locs1 cells slots Z (F0 m 1046 ls [])) : W p l e room_1 s m #[Value.ref b] below meth c H locs cells slots Z (F0 m 740 ls []) := by
  obtain ⟨v, s2, m2, hf, hg, hRn⟩ := hR n sx sm (xs (i + 1)) hRR hn
  have C0 := Cx.1
  obtain ⟨hx, hb, hr, hml, hown, hts, hX, hbl, hlocks, hgv⟩ := id C0
  refine lv_aload_n hx hb d_law_740 rfl (lv_at hl 1 rfl) ?_
  refine lw_arg1 C0 hL hi hS hl d_law_741 d_law_742 d_law_743 d_law_744 d_law_745 ?_
  refine lw_vcall Cx (As := [.int (xs (i + 1))]) (rest := []) (w2 := mm_wr E adm (ms_H sm)) (h := xs_H (.ref 9) (.ref 17) (.ref 9) pr sx) (ad := adx) (Q := fun v2 h2 => v2 = some (.int v) ∧ h2 = xs_H (.ref 9) (.ref 17) (.ref 9) pr s2) (hct (0 + 8) 251 _ _ _ (xt_11_cheapest xB 0 (.ref 17) pr sx (xs (i + 1)) v s2 _ hf ⟨rfl, rfl⟩)) (by decide +kernel) (na := 2) (ci := 11) (by decide +kernel) rfl rfl lw_ln_122 rfl (by decide) (Nat.le_of_ble_eq_true rfl) hl.1 d_law_746 hP hD hS hfit (fun v2 h2 H1 locs1 hq _ hP hD hS => ?_)
  obtain ⟨rfl, rfl⟩ := hq
  show W p l e room_1 s m #[Value.ref b] below meth c H1 locs1 cells slots Z (F0 m 749 ls [.int v])
  obtain ⟨hP, hD⟩ := lw_comm hP hD
  generalize H1 = H at hP hS ⊢
  generalize locs1 = locs at hS ⊢
  refine lv_aload_n hx hb d_law_749 rfl (lv_at hl 2 rfl) ?_
  refine lw_arg1 C0 hL hi hS hl d_law_750 d_law_751 d_law_752 d_law_753 d_law_754 ?_
  refine lw_vcall Cx (As := [.int (xs (i + 1))]) (rest := [.int v]) (w2 := mm_wr E adx (xs_H (.ref 9) (.ref 17) (.ref 9) pr s2)) (h := ms_H sm) (ad := adm) (Q := fun v2 h2 => v2 = some (.int v) ∧ h2 = ms_H m2) (hct (0 + 11) 109 _ _ _ (mt_cheapest xB 0 sm (xs (i + 1)) v m2 _ hg ⟨rfl, rfl⟩)) (by decide +kernel) (na := 2) (ci := 12) (by decide +kernel) rfl rfl lw_ln_125 rfl (by decide) (Nat.le_of_ble_eq_true rfl) hl.1 d_law_755 hP hD hS hfit (fun v2 h2 H1 locs1 hq _ hP hD hS => ?_)
  obtain ⟨rfl, rfl⟩ := hq
  show W p l e room_1 s m #[Value.ref b] below meth c H1 locs1 cells slots Z (F0 m 758 ls [.int v, .int v])
  obtain ⟨hP, hD⟩ := lw_comm hP hD
  refine lv_icmp_eq (tgt := 1046) hx hb d_law_758 (by decide) (fun c1 => ?_) (fun c1 => absurd rfl c1)
  exact kk s2 m2 adx pr H1 locs1 hRn rfl hP hD hS
set_option maxHeartbeats 4000000 in
set_option maxRecDepth 100000 in
theorem lw_k27 {p : Program} {l : Launch} {e : Env} {s : State} {m : MethodId} {below : List Frame} {meth : Method} {c : Code} {b L : Nat} {xs : Nat → Int32} {D : va_G} {E : Nat → ClassId} {Xt : mm_Xt} {Z : State → Prop} (Cx : lw_Cx p s m meth c b L xs D E Xt) (hct : ∀ (d mi : Nat) (as : List Value) (h : mm_H) (Q : mm_R), mm_ct xB mm_Mk mm_Fk mm_PC d mi as h Q → ∃ t1, mm_at mm_T mi = some t1 ∧ t1.2.2.1 ≤ 40 ∧ mm_Met l D E Xt (d + 12) t1 (mm_Mk mi).1 (mm_Mk mi).2 as h Q) {R : Nat → xs_S → ms_S → Prop} (hR : lw_s27 R) {n i cells slots : Nat} (hn : n < 512) (hL : L ≤ 3072) (hi : i + 6 ≤ L) (hfit : cells ≤ 600000 ∧ slots ≤ 7302249) {sx : xs_S} {sm : ms_S} {adx adm : Nat → Nat} {pr : Value} {H : Heap} {locs : List Loc} {ls : Array Slot} (hRR : R n sx sm) (hP : va_P D vwCl (mm_wr E adx (xs_H (.ref 9) (.ref 17) (.ref 9) pr sx) ++ mm_wr E adm (ms_H sm)) H) (hD : va_D (fun q : Nat => s.heap.size ≤ q) (mm_wr E adx (xs_H (.ref 9) (.ref 17) (.ref 9) pr sx) ++ mm_wr E adm (ms_H sm))) (hS : va_S (fun q : Nat => s.heap.size ≤ q) s.heap H locs) (hl : lv_has ls 4 [(0, .ref b), (1, .ref (adx 0)), (2, .ref (adm 0)), (3, .int (nI i))]) (kk : ∀ (sx2 : xs_S) (sm2 : ms_S) (adx2 : Nat → Nat) (pr2 : Value) (H1 : Heap) (locs1 : List Loc), R (n + 1) sx2 sm2 → adx2 0 = adx 0 → va_P D vwCl (mm_wr E adx2 (xs_H (.ref 9) (.ref 17) (.ref 9) pr2 sx2) ++ mm_wr E adm (ms_H sm2)) H1 → va_D (fun q : Nat => s.heap.size ≤ q) (mm_wr E adx2 (xs_H (.ref 9) (.ref 17) (.ref 9) pr2 sx2) ++ mm_wr E adm (ms_H sm2)) → va_S (fun q : Nat => s.heap.size ≤ q) s.heap H1 locs1 → W p l e room_1 s m #[Value.ref b] below meth c H1 locs1 cells slots Z (F0 m 1046 ls [])) : W p l e room_1 s m #[Value.ref b] below meth c H locs cells slots Z (F0 m 763 ls []) := by
  obtain ⟨v, s2, m2, hf, hg, hRn⟩ := hR n sx sm (xs (i + 1)) hRR hn
  have C0 := Cx.1
  obtain ⟨hx, hb, hr, hml, hown, hts, hX, hbl, hlocks, hgv⟩ := id C0
  refine lv_aload_n hx hb d_law_763 rfl (lv_at hl 1 rfl) ?_
  refine lw_arg1 C0 hL hi hS hl d_law_764 d_law_765 d_law_766 d_law_767 d_law_768 ?_
  refine lw_vcall Cx (As := [.int (xs (i + 1))]) (rest := []) (w2 := mm_wr E adm (ms_H sm)) (h := xs_H (.ref 9) (.ref 17) (.ref 9) pr sx) (ad := adx) (Q := fun v2 h2 => v2 = some (.int v) ∧ h2 = xs_H (.ref 9) (.ref 17) (.ref 9) pr s2) (hct (0 + 6) 252 _ _ _ (xt_11_slopeIn xB 0 (.ref 17) pr sx (xs (i + 1)) v s2 _ hf ⟨rfl, rfl⟩)) (by decide +kernel) (na := 2) (ci := 11) (by decide +kernel) rfl rfl lw_ln_126 rfl (by decide) (Nat.le_of_ble_eq_true rfl) hl.1 d_law_769 hP hD hS hfit (fun v2 h2 H1 locs1 hq _ hP hD hS => ?_)
  obtain ⟨rfl, rfl⟩ := hq
  show W p l e room_1 s m #[Value.ref b] below meth c H1 locs1 cells slots Z (F0 m 772 ls [.int v])
  obtain ⟨hP, hD⟩ := lw_comm hP hD
  generalize H1 = H at hP hS ⊢
  generalize locs1 = locs at hS ⊢
  refine lv_aload_n hx hb d_law_772 rfl (lv_at hl 2 rfl) ?_
  refine lw_arg1 C0 hL hi hS hl d_law_773 d_law_774 d_law_775 d_law_776 d_law_777 ?_
  refine lw_vcall Cx (As := [.int (xs (i + 1))]) (rest := [.int v]) (w2 := mm_wr E adx (xs_H (.ref 9) (.ref 17) (.ref 9) pr s2)) (h := ms_H sm) (ad := adm) (Q := fun v2 h2 => v2 = some (.int v) ∧ h2 = ms_H m2) (hct (0 + 8) 110 _ _ _ (mt_slopeIn xB 0 sm (xs (i + 1)) v m2 _ hg ⟨rfl, rfl⟩)) (by decide +kernel) (na := 2) (ci := 12) (by decide +kernel) rfl rfl lw_ln_129 rfl (by decide) (Nat.le_of_ble_eq_true rfl) hl.1 d_law_778 hP hD hS hfit (fun v2 h2 H1 locs1 hq _ hP hD hS => ?_)
  obtain ⟨rfl, rfl⟩ := hq
  show W p l e room_1 s m #[Value.ref b] below meth c H1 locs1 cells slots Z (F0 m 781 ls [.int v, .int v])
  obtain ⟨hP, hD⟩ := lw_comm hP hD
  refine lv_icmp_eq (tgt := 1046) hx hb d_law_781 (by decide) (fun c1 => ?_) (fun c1 => absurd rfl c1)
  exact kk s2 m2 adx pr H1 locs1 hRn rfl hP hD hS
set_option maxHeartbeats 4000000 in
set_option maxRecDepth 100000 in
theorem lw_k28 {p : Program} {l : Launch} {e : Env} {s : State} {m : MethodId} {below : List Frame} {meth : Method} {c : Code} {b L : Nat} {xs : Nat → Int32} {D : va_G} {E : Nat → ClassId} {Xt : mm_Xt} {Z : State → Prop} (Cx : lw_Cx p s m meth c b L xs D E Xt) (hct : ∀ (d mi : Nat) (as : List Value) (h : mm_H) (Q : mm_R), mm_ct xB mm_Mk mm_Fk mm_PC d mi as h Q → ∃ t1, mm_at mm_T mi = some t1 ∧ t1.2.2.1 ≤ 40 ∧ mm_Met l D E Xt (d + 12) t1 (mm_Mk mi).1 (mm_Mk mi).2 as h Q) {R : Nat → xs_S → ms_S → Prop} (hR : lw_s28 R) {n i cells slots : Nat} (hn : n < 512) (hL : L ≤ 3072) (hi : i + 6 ≤ L) (hfit : cells ≤ 600000 ∧ slots ≤ 7302249) {sx : xs_S} {sm : ms_S} {adx adm : Nat → Nat} {pr : Value} {H : Heap} {locs : List Loc} {ls : Array Slot} (hRR : R n sx sm) (hP : va_P D vwCl (mm_wr E adx (xs_H (.ref 9) (.ref 17) (.ref 9) pr sx) ++ mm_wr E adm (ms_H sm)) H) (hD : va_D (fun q : Nat => s.heap.size ≤ q) (mm_wr E adx (xs_H (.ref 9) (.ref 17) (.ref 9) pr sx) ++ mm_wr E adm (ms_H sm))) (hS : va_S (fun q : Nat => s.heap.size ≤ q) s.heap H locs) (hl : lv_has ls 4 [(0, .ref b), (1, .ref (adx 0)), (2, .ref (adm 0)), (3, .int (nI i))]) (kk : ∀ (sx2 : xs_S) (sm2 : ms_S) (adx2 : Nat → Nat) (pr2 : Value) (H1 : Heap) (locs1 : List Loc), R (n + 1) sx2 sm2 → adx2 0 = adx 0 → va_P D vwCl (mm_wr E adx2 (xs_H (.ref 9) (.ref 17) (.ref 9) pr2 sx2) ++ mm_wr E adm (ms_H sm2)) H1 → va_D (fun q : Nat => s.heap.size ≤ q) (mm_wr E adx2 (xs_H (.ref 9) (.ref 17) (.ref 9) pr2 sx2) ++ mm_wr E adm (ms_H sm2)) → va_S (fun q : Nat => s.heap.size ≤ q) s.heap H1 locs1 → W p l e room_1 s m #[Value.ref b] below meth c H1 locs1 cells slots Z (F0 m 1046 ls [])) : W p l e room_1 s m #[Value.ref b] below meth c H locs cells slots Z (F0 m 786 ls []) := by
  obtain ⟨v, s2, m2, hf, hg, hRn⟩ := hR n sx sm (xs (i + 1)) (xs (i + 2)) hRR hn
  have C0 := Cx.1
  obtain ⟨hx, hb, hr, hml, hown, hts, hX, hbl, hlocks, hgv⟩ := id C0
  refine lv_aload_n hx hb d_law_786 rfl (lv_at hl 1 rfl) ?_
  refine lw_arg1 C0 hL hi hS hl d_law_787 d_law_788 d_law_789 d_law_790 d_law_791 ?_
  refine lw_arg2 C0 hL hi hS hl d_law_792 d_law_793 d_law_794 d_law_795 d_law_796 ?_
  refine lw_vcall Cx (As := [.int (xs (i + 1)), .int (xs (i + 2))]) (rest := []) (w2 := mm_wr E adm (ms_H sm)) (h := xs_H (.ref 9) (.ref 17) (.ref 9) pr sx) (ad := adx) (Q := fun v2 h2 => v2 = some (.int v) ∧ h2 = xs_H (.ref 9) (.ref 17) (.ref 9) pr s2) (hct (0 + 6) 253 _ _ _ (xt_11_year xB 0 (.ref 17) pr sx (xs (i + 1)) (xs (i + 2)) v s2 _ hf ⟨rfl, rfl⟩)) (by decide +kernel) (na := 3) (ci := 11) (by decide +kernel) rfl rfl lw_ln_130 rfl (by decide) (Nat.le_of_ble_eq_true rfl) hl.1 d_law_797 hP hD hS hfit (fun v2 h2 H1 locs1 hq _ hP hD hS => ?_)
  obtain ⟨rfl, rfl⟩ := hq
  show W p l e room_1 s m #[Value.ref b] below meth c H1 locs1 cells slots Z (F0 m 800 ls [.int v])
  obtain ⟨hP, hD⟩ := lw_comm hP hD
  generalize H1 = H at hP hS ⊢
  generalize locs1 = locs at hS ⊢
  refine lv_aload_n hx hb d_law_800 rfl (lv_at hl 2 rfl) ?_
  refine lw_arg1 C0 hL hi hS hl d_law_801 d_law_802 d_law_803 d_law_804 d_law_805 ?_
  refine lw_arg2 C0 hL hi hS hl d_law_806 d_law_807 d_law_808 d_law_809 d_law_810 ?_
  refine lw_vcall Cx (As := [.int (xs (i + 1)), .int (xs (i + 2))]) (rest := [.int v]) (w2 := mm_wr E adx (xs_H (.ref 9) (.ref 17) (.ref 9) pr s2)) (h := ms_H sm) (ad := adm) (Q := fun v2 h2 => v2 = some (.int v) ∧ h2 = ms_H m2) (hct (0 + 8) 111 _ _ _ (mt_year xB 0 sm (xs (i + 1)) (xs (i + 2)) v m2 _ hg ⟨rfl, rfl⟩)) (by decide +kernel) (na := 3) (ci := 12) (by decide +kernel) rfl rfl lw_ln_133 rfl (by decide) (Nat.le_of_ble_eq_true rfl) hl.1 d_law_811 hP hD hS hfit (fun v2 h2 H1 locs1 hq _ hP hD hS => ?_)
  obtain ⟨rfl, rfl⟩ := hq
  show W p l e room_1 s m #[Value.ref b] below meth c H1 locs1 cells slots Z (F0 m 814 ls [.int v, .int v])
  obtain ⟨hP, hD⟩ := lw_comm hP hD
  refine lv_icmp_eq (tgt := 1046) hx hb d_law_814 (by decide) (fun c1 => ?_) (fun c1 => absurd rfl c1)
  exact kk s2 m2 adx pr H1 locs1 hRn rfl hP hD hS
set_option maxHeartbeats 4000000 in
set_option maxRecDepth 100000 in
theorem lw_k29 {p : Program} {l : Launch} {e : Env} {s : State} {m : MethodId} {below : List Frame} {meth : Method} {c : Code} {b L : Nat} {xs : Nat → Int32} {D : va_G} {E : Nat → ClassId} {Xt : mm_Xt} {Z : State → Prop} (Cx : lw_Cx p s m meth c b L xs D E Xt) (hct : ∀ (d mi : Nat) (as : List Value) (h : mm_H) (Q : mm_R), mm_ct xB mm_Mk mm_Fk mm_PC d mi as h Q → ∃ t1, mm_at mm_T mi = some t1 ∧ t1.2.2.1 ≤ 40 ∧ mm_Met l D E Xt (d + 12) t1 (mm_Mk mi).1 (mm_Mk mi).2 as h Q) {R : Nat → xs_S → ms_S → Prop} (hR : lw_s29 R) {n i cells slots : Nat} (hn : n < 512) (hL : L ≤ 3072) (hi : i + 6 ≤ L) (hfit : cells ≤ 600000 ∧ slots ≤ 7302249) {sx : xs_S} {sm : ms_S} {adx adm : Nat → Nat} {pr : Value} {H : Heap} {locs : List Loc} {ls : Array Slot} (hRR : R n sx sm) (hP : va_P D vwCl (mm_wr E adx (xs_H (.ref 9) (.ref 17) (.ref 9) pr sx) ++ mm_wr E adm (ms_H sm)) H) (hD : va_D (fun q : Nat => s.heap.size ≤ q) (mm_wr E adx (xs_H (.ref 9) (.ref 17) (.ref 9) pr sx) ++ mm_wr E adm (ms_H sm))) (hS : va_S (fun q : Nat => s.heap.size ≤ q) s.heap H locs) (hl : lv_has ls 4 [(0, .ref b), (1, .ref (adx 0)), (2, .ref (adm 0)), (3, .int (nI i))]) (kk : ∀ (sx2 : xs_S) (sm2 : ms_S) (adx2 : Nat → Nat) (pr2 : Value) (H1 : Heap) (locs1 : List Loc), R (n + 1) sx2 sm2 → adx2 0 = adx 0 → va_P D vwCl (mm_wr E adx2 (xs_H (.ref 9) (.ref 17) (.ref 9) pr2 sx2) ++ mm_wr E adm (ms_H sm2)) H1 → va_D (fun q : Nat => s.heap.size ≤ q) (mm_wr E adx2 (xs_H (.ref 9) (.ref 17) (.ref 9) pr2 sx2) ++ mm_wr E adm (ms_H sm2)) → va_S (fun q : Nat => s.heap.size ≤ q) s.heap H1 locs1 → W p l e room_1 s m #[Value.ref b] below meth c H1 locs1 cells slots Z (F0 m 1046 ls [])) : W p l e room_1 s m #[Value.ref b] below meth c H locs cells slots Z (F0 m 819 ls []) := by
  obtain ⟨z, hz⟩ : ∃ z : Int32, z = if xs (i + 3) = 0 then 0 else 1 := ⟨_, rfl⟩
  have hz2 : z = 0 ∨ z = 1 := by rw [hz]; split; exact Or.inl rfl; exact Or.inr rfl
  obtain ⟨v, s2, m2, hf, hg, hRn⟩ := hR n sx sm (xs (i + 1)) (xs (i + 2)) z hRR hn hz2
  have C0 := Cx.1
  obtain ⟨hx, hb, hr, hml, hown, hts, hX, hbl, hlocks, hgv⟩ := id C0
  refine lv_aload_n hx hb d_law_819 rfl (lv_at hl 1 rfl) ?_
  refine lw_arg1 C0 hL hi hS hl d_law_820 d_law_821 d_law_822 d_law_823 d_law_824 ?_
  refine lw_arg2 C0 hL hi hS hl d_law_825 d_law_826 d_law_827 d_law_828 d_law_829 ?_
  refine lw_arg3 C0 hL hi hS hl d_law_830 d_law_831 d_law_832 d_law_833 d_law_834 ?_
  have key : W p l e room_1 s m #[Value.ref b] below meth c H locs cells slots Z (F0 m 843 ls (.int z :: [.int (xs (i + 2)), .int (xs (i + 1)), .ref (adx 0)])) → W p l e room_1 s m #[Value.ref b] below meth c H locs cells slots Z (F0 m 835 ls (.int (xs (i + 3)) :: [.int (xs (i + 2)), .int (xs (i + 1)), .ref (adx 0)])) := by
    intro kz
    refine lv_if_eq (tgt := 842) hx hb d_law_835 (by decide) (fun c1 => ?_) (fun c1 => ?_)
    · rw [if_pos c1] at hz; rw [hz] at kz
      exact lv_iconst (v := 0) hx hb d_law_842 (by decide) kz
    · rw [if_neg c1] at hz; rw [hz] at kz
      refine lv_iconst (v := 1) hx hb d_law_838 (by decide) ?_
      exact lv_goto (tgt := 843) hx hb d_law_839 (by decide) kz
  refine key ?_
  refine lw_vcall Cx (As := [.int (xs (i + 1)), .int (xs (i + 2)), .int z]) (rest := []) (w2 := mm_wr E adm (ms_H sm)) (h := xs_H (.ref 9) (.ref 17) (.ref 9) pr sx) (ad := adx) (Q := fun v2 h2 => v2 = some (.int v) ∧ h2 = xs_H (.ref 9) (.ref 17) (.ref 9) pr s2) (hct (0 + 2) 254 _ _ _ (xt_11_tell xB 0 (.ref 9) (.ref 17) (.ref 9) pr sx (xs (i + 1)) (xs (i + 2)) z v s2 _ hf ⟨rfl, rfl⟩)) (by decide +kernel) (na := 4) (ci := 11) (by decide +kernel) rfl rfl lw_ln_134 rfl (by decide) (Nat.le_of_ble_eq_true rfl) hl.1 d_law_843 hP hD hS hfit (fun v2 h2 H1 locs1 hq _ hP hD hS => ?_)
  obtain ⟨rfl, rfl⟩ := hq
  show W p l e room_1 s m #[Value.ref b] below meth c H1 locs1 cells slots Z (F0 m 846 ls [.int v])
  obtain ⟨hP, hD⟩ := lw_comm hP hD
  generalize H1 = H at hP hS ⊢
  generalize locs1 = locs at hS ⊢
  refine lv_aload_n hx hb d_law_846 rfl (lv_at hl 2 rfl) ?_
  refine lw_arg1 C0 hL hi hS hl d_law_847 d_law_848 d_law_849 d_law_850 d_law_851 ?_
  refine lw_arg2 C0 hL hi hS hl d_law_852 d_law_853 d_law_854 d_law_855 d_law_856 ?_
  refine lw_arg3 C0 hL hi hS hl d_law_857 d_law_858 d_law_859 d_law_860 d_law_861 ?_
  have key : W p l e room_1 s m #[Value.ref b] below meth c H locs cells slots Z (F0 m 870 ls (.int z :: [.int (xs (i + 2)), .int (xs (i + 1)), .ref (adm 0), .int v])) → W p l e room_1 s m #[Value.ref b] below meth c H locs cells slots Z (F0 m 862 ls (.int (xs (i + 3)) :: [.int (xs (i + 2)), .int (xs (i + 1)), .ref (adm 0), .int v])) := by
    intro kz
    refine lv_if_eq (tgt := 869) hx hb d_law_862 (by decide) (fun c1 => ?_) (fun c1 => ?_)
    · rw [if_pos c1] at hz; rw [hz] at kz
      exact lv_iconst (v := 0) hx hb d_law_869 (by decide) kz
    · rw [if_neg c1] at hz; rw [hz] at kz
      refine lv_iconst (v := 1) hx hb d_law_865 (by decide) ?_
      exact lv_goto (tgt := 870) hx hb d_law_866 (by decide) kz
  refine key ?_
  refine lw_vcall Cx (As := [.int (xs (i + 1)), .int (xs (i + 2)), .int z]) (rest := [.int v]) (w2 := mm_wr E adx (xs_H (.ref 9) (.ref 17) (.ref 9) pr s2)) (h := ms_H sm) (ad := adm) (Q := fun v2 h2 => v2 = some (.int v) ∧ h2 = ms_H m2) (hct (0 + 2) 112 _ _ _ (mt_tell xB 0 sm (xs (i + 1)) (xs (i + 2)) z v m2 _ hg ⟨rfl, rfl⟩)) (by decide +kernel) (na := 4) (ci := 12) (by decide +kernel) rfl rfl lw_ln_138 rfl (by decide) (Nat.le_of_ble_eq_true rfl) hl.1 d_law_870 hP hD hS hfit (fun v2 h2 H1 locs1 hq _ hP hD hS => ?_)
  obtain ⟨rfl, rfl⟩ := hq
  show W p l e room_1 s m #[Value.ref b] below meth c H1 locs1 cells slots Z (F0 m 873 ls [.int v, .int v])
  obtain ⟨hP, hD⟩ := lw_comm hP hD
  refine lv_icmp_eq (tgt := 1046) hx hb d_law_873 (by decide) (fun c1 => ?_) (fun c1 => absurd rfl c1)
  exact kk s2 m2 adx pr H1 locs1 hRn rfl hP hD hS
set_option maxHeartbeats 4000000 in
set_option maxRecDepth 100000 in
theorem lw_k30 {p : Program} {l : Launch} {e : Env} {s : State} {m : MethodId} {below : List Frame} {meth : Method} {c : Code} {b L : Nat} {xs : Nat → Int32} {D : va_G} {E : Nat → ClassId} {Xt : mm_Xt} {Z : State → Prop} (Cx : lw_Cx p s m meth c b L xs D E Xt) (hct : ∀ (d mi : Nat) (as : List Value) (h : mm_H) (Q : mm_R), mm_ct xB mm_Mk mm_Fk mm_PC d mi as h Q → ∃ t1, mm_at mm_T mi = some t1 ∧ t1.2.2.1 ≤ 40 ∧ mm_Met l D E Xt (d + 12) t1 (mm_Mk mi).1 (mm_Mk mi).2 as h Q) {R : Nat → xs_S → ms_S → Prop} (hR : lw_s30 R) {n i cells slots : Nat} (hn : n < 512) (hL : L ≤ 3072) (hi : i + 6 ≤ L) (hfit : cells ≤ 600000 ∧ slots ≤ 7302249) {sx : xs_S} {sm : ms_S} {adx adm : Nat → Nat} {pr : Value} {H : Heap} {locs : List Loc} {ls : Array Slot} (hRR : R n sx sm) (hP : va_P D vwCl (mm_wr E adx (xs_H (.ref 9) (.ref 17) (.ref 9) pr sx) ++ mm_wr E adm (ms_H sm)) H) (hD : va_D (fun q : Nat => s.heap.size ≤ q) (mm_wr E adx (xs_H (.ref 9) (.ref 17) (.ref 9) pr sx) ++ mm_wr E adm (ms_H sm))) (hS : va_S (fun q : Nat => s.heap.size ≤ q) s.heap H locs) (hl : lv_has ls 4 [(0, .ref b), (1, .ref (adx 0)), (2, .ref (adm 0)), (3, .int (nI i))]) (kk : ∀ (sx2 : xs_S) (sm2 : ms_S) (adx2 : Nat → Nat) (pr2 : Value) (H1 : Heap) (locs1 : List Loc), R (n + 1) sx2 sm2 → adx2 0 = adx 0 → va_P D vwCl (mm_wr E adx2 (xs_H (.ref 9) (.ref 17) (.ref 9) pr2 sx2) ++ mm_wr E adm (ms_H sm2)) H1 → va_D (fun q : Nat => s.heap.size ≤ q) (mm_wr E adx2 (xs_H (.ref 9) (.ref 17) (.ref 9) pr2 sx2) ++ mm_wr E adm (ms_H sm2)) → va_S (fun q : Nat => s.heap.size ≤ q) s.heap H1 locs1 → W p l e room_1 s m #[Value.ref b] below meth c H1 locs1 cells slots Z (F0 m 1046 ls [])) : W p l e room_1 s m #[Value.ref b] below meth c H locs cells slots Z (F0 m 878 ls []) := by
  obtain ⟨v, s2, m2, hf, hg, hRn⟩ := hR n sx sm  hRR hn
  have C0 := Cx.1
  obtain ⟨hx, hb, hr, hml, hown, hts, hX, hbl, hlocks, hgv⟩ := id C0
  refine lv_aload_n hx hb d_law_878 rfl (lv_at hl 1 rfl) ?_
  refine lw_vcall Cx (As := []) (rest := []) (w2 := mm_wr E adm (ms_H sm)) (h := xs_H (.ref 9) (.ref 17) (.ref 9) pr sx) (ad := adx) (Q := fun v2 h2 => v2 = some (.int v) ∧ h2 = xs_H (.ref 9) (.ref 17) (.ref 9) pr s2) (hct (0 + 1) 255 _ _ _ (xt_11_forget xB 0 (.ref 9) (.ref 17) (.ref 9) pr sx  v s2 _ hf ⟨rfl, rfl⟩)) (by decide +kernel) (na := 1) (ci := 11) (by decide +kernel) rfl rfl lw_ln_139 rfl (by decide) (Nat.le_of_ble_eq_true rfl) hl.1 d_law_879 hP hD hS hfit (fun v2 h2 H1 locs1 hq _ hP hD hS => ?_)
  obtain ⟨rfl, rfl⟩ := hq
  show W p l e room_1 s m #[Value.ref b] below meth c H1 locs1 cells slots Z (F0 m 882 ls [.int v])
  obtain ⟨hP, hD⟩ := lw_comm hP hD
  generalize H1 = H at hP hS ⊢
  generalize locs1 = locs at hS ⊢
  refine lv_aload_n hx hb d_law_882 rfl (lv_at hl 2 rfl) ?_
  refine lw_vcall Cx (As := []) (rest := [.int v]) (w2 := mm_wr E adx (xs_H (.ref 9) (.ref 17) (.ref 9) pr s2)) (h := ms_H sm) (ad := adm) (Q := fun v2 h2 => v2 = some (.int v) ∧ h2 = ms_H m2) (hct (0 + 1) 113 _ _ _ (mt_forget xB 0 sm  v m2 _ hg ⟨rfl, rfl⟩)) (by decide +kernel) (na := 1) (ci := 12) (by decide +kernel) rfl rfl lw_ln_142 rfl (by decide) (Nat.le_of_ble_eq_true rfl) hl.1 d_law_883 hP hD hS hfit (fun v2 h2 H1 locs1 hq _ hP hD hS => ?_)
  obtain ⟨rfl, rfl⟩ := hq
  show W p l e room_1 s m #[Value.ref b] below meth c H1 locs1 cells slots Z (F0 m 886 ls [.int v, .int v])
  obtain ⟨hP, hD⟩ := lw_comm hP hD
  refine lv_icmp_eq (tgt := 1046) hx hb d_law_886 (by decide) (fun c1 => ?_) (fun c1 => absurd rfl c1)
  exact kk s2 m2 adx pr H1 locs1 hRn rfl hP hD hS
set_option maxHeartbeats 4000000 in
set_option maxRecDepth 100000 in
theorem lw_k31 {p : Program} {l : Launch} {e : Env} {s : State} {m : MethodId} {below : List Frame} {meth : Method} {c : Code} {b L : Nat} {xs : Nat → Int32} {D : va_G} {E : Nat → ClassId} {Xt : mm_Xt} {Z : State → Prop} (Cx : lw_Cx p s m meth c b L xs D E Xt) (hct : ∀ (d mi : Nat) (as : List Value) (h : mm_H) (Q : mm_R), mm_ct xB mm_Mk mm_Fk mm_PC d mi as h Q → ∃ t1, mm_at mm_T mi = some t1 ∧ t1.2.2.1 ≤ 40 ∧ mm_Met l D E Xt (d + 12) t1 (mm_Mk mi).1 (mm_Mk mi).2 as h Q) {R : Nat → xs_S → ms_S → Prop} (hR : lw_s31 R) {n i cells slots : Nat} (hn : n < 512) (hL : L ≤ 3072) (hi : i + 6 ≤ L) (hfit : cells ≤ 600000 ∧ slots ≤ 7302249) {sx : xs_S} {sm : ms_S} {adx adm : Nat → Nat} {pr : Value} {H : Heap} {locs : List Loc} {ls : Array Slot} (hRR : R n sx sm) (hP : va_P D vwCl (mm_wr E adx (xs_H (.ref 9) (.ref 17) (.ref 9) pr sx) ++ mm_wr E adm (ms_H sm)) H) (hD : va_D (fun q : Nat => s.heap.size ≤ q) (mm_wr E adx (xs_H (.ref 9) (.ref 17) (.ref 9) pr sx) ++ mm_wr E adm (ms_H sm))) (hS : va_S (fun q : Nat => s.heap.size ≤ q) s.heap H locs) (hl : lv_has ls 4 [(0, .ref b), (1, .ref (adx 0)), (2, .ref (adm 0)), (3, .int (nI i))]) (kk : ∀ (sx2 : xs_S) (sm2 : ms_S) (adx2 : Nat → Nat) (pr2 : Value) (H1 : Heap) (locs1 : List Loc), R (n + 1) sx2 sm2 → adx2 0 = adx 0 → va_P D vwCl (mm_wr E adx2 (xs_H (.ref 9) (.ref 17) (.ref 9) pr2 sx2) ++ mm_wr E adm (ms_H sm2)) H1 → va_D (fun q : Nat => s.heap.size ≤ q) (mm_wr E adx2 (xs_H (.ref 9) (.ref 17) (.ref 9) pr2 sx2) ++ mm_wr E adm (ms_H sm2)) → va_S (fun q : Nat => s.heap.size ≤ q) s.heap H1 locs1 → W p l e room_1 s m #[Value.ref b] below meth c H1 locs1 cells slots Z (F0 m 1046 ls [])) : W p l e room_1 s m #[Value.ref b] below meth c H locs cells slots Z (F0 m 891 ls []) := by
  obtain ⟨v, s2, m2, hf, hg, hRn⟩ := hR n sx sm (xs (i + 1)) (xs (i + 2)) (xs (i + 3)) hRR hn
  have C0 := Cx.1
  obtain ⟨hx, hb, hr, hml, hown, hts, hX, hbl, hlocks, hgv⟩ := id C0
  refine lv_aload_n hx hb d_law_891 rfl (lv_at hl 1 rfl) ?_
  refine lw_arg1 C0 hL hi hS hl d_law_892 d_law_893 d_law_894 d_law_895 d_law_896 ?_
  refine lw_arg2 C0 hL hi hS hl d_law_897 d_law_898 d_law_899 d_law_900 d_law_901 ?_
  refine lw_arg3 C0 hL hi hS hl d_law_902 d_law_903 d_law_904 d_law_905 d_law_906 ?_
  refine lw_vcall Cx (As := [.int (xs (i + 1)), .int (xs (i + 2)), .int (xs (i + 3))]) (rest := []) (w2 := mm_wr E adm (ms_H sm)) (h := xs_H (.ref 9) (.ref 17) (.ref 9) pr sx) (ad := adx) (Q := fun v2 h2 => v2 = some (.int v) ∧ h2 = xs_H (.ref 9) (.ref 17) (.ref 9) pr s2) (hct (0 + 13) 256 _ _ _ (xt_11_rows xB 0 (.ref 9) (.ref 17) pr sx (xs (i + 1)) (xs (i + 2)) (xs (i + 3)) v s2 _ hf ⟨rfl, rfl⟩)) (by decide +kernel) (na := 4) (ci := 11) (by decide +kernel) rfl rfl lw_ln_143 rfl (by decide) (Nat.le_of_ble_eq_true rfl) hl.1 d_law_907 hP hD hS hfit (fun v2 h2 H1 locs1 hq _ hP hD hS => ?_)
  obtain ⟨rfl, rfl⟩ := hq
  show W p l e room_1 s m #[Value.ref b] below meth c H1 locs1 cells slots Z (F0 m 910 ls [.int v])
  obtain ⟨hP, hD⟩ := lw_comm hP hD
  generalize H1 = H at hP hS ⊢
  generalize locs1 = locs at hS ⊢
  refine lv_aload_n hx hb d_law_910 rfl (lv_at hl 2 rfl) ?_
  refine lw_arg1 C0 hL hi hS hl d_law_911 d_law_912 d_law_913 d_law_914 d_law_915 ?_
  refine lw_arg2 C0 hL hi hS hl d_law_916 d_law_917 d_law_918 d_law_919 d_law_920 ?_
  refine lw_arg3 C0 hL hi hS hl d_law_921 d_law_922 d_law_923 d_law_924 d_law_925 ?_
  refine lw_vcall Cx (As := [.int (xs (i + 1)), .int (xs (i + 2)), .int (xs (i + 3))]) (rest := [.int v]) (w2 := mm_wr E adx (xs_H (.ref 9) (.ref 17) (.ref 9) pr s2)) (h := ms_H sm) (ad := adm) (Q := fun v2 h2 => v2 = some (.int v) ∧ h2 = ms_H m2) (hct (0 + 8) 117 _ _ _ (mt_rows xB 0 sm (xs (i + 1)) (xs (i + 2)) (xs (i + 3)) v m2 _ hg ⟨rfl, rfl⟩)) (by decide +kernel) (na := 4) (ci := 12) (by decide +kernel) rfl rfl lw_ln_147 rfl (by decide) (Nat.le_of_ble_eq_true rfl) hl.1 d_law_926 hP hD hS hfit (fun v2 h2 H1 locs1 hq _ hP hD hS => ?_)
  obtain ⟨rfl, rfl⟩ := hq
  show W p l e room_1 s m #[Value.ref b] below meth c H1 locs1 cells slots Z (F0 m 929 ls [.int v, .int v])
  obtain ⟨hP, hD⟩ := lw_comm hP hD
  refine lv_icmp_eq (tgt := 1046) hx hb d_law_929 (by decide) (fun c1 => ?_) (fun c1 => absurd rfl c1)
  exact kk s2 m2 adx pr H1 locs1 hRn rfl hP hD hS
set_option maxHeartbeats 4000000 in
set_option maxRecDepth 100000 in
theorem lw_k32 {p : Program} {l : Launch} {e : Env} {s : State} {m : MethodId} {below : List Frame} {meth : Method} {c : Code} {b L : Nat} {xs : Nat → Int32} {D : va_G} {E : Nat → ClassId} {Xt : mm_Xt} {Z : State → Prop} (Cx : lw_Cx p s m meth c b L xs D E Xt) (hct : ∀ (d mi : Nat) (as : List Value) (h : mm_H) (Q : mm_R), mm_ct xB mm_Mk mm_Fk mm_PC d mi as h Q → ∃ t1, mm_at mm_T mi = some t1 ∧ t1.2.2.1 ≤ 40 ∧ mm_Met l D E Xt (d + 12) t1 (mm_Mk mi).1 (mm_Mk mi).2 as h Q) {R : Nat → xs_S → ms_S → Prop} (hR : lw_s32 R) {n i cells slots : Nat} (hn : n < 512) (hL : L ≤ 3072) (hi : i + 6 ≤ L) (hfit : cells ≤ 600000 ∧ slots ≤ 7302249) {sx : xs_S} {sm : ms_S} {adx adm : Nat → Nat} {pr : Value} {H : Heap} {locs : List Loc} {ls : Array Slot} (hRR : R n sx sm) (hP : va_P D vwCl (mm_wr E adx (xs_H (.ref 9) (.ref 17) (.ref 9) pr sx) ++ mm_wr E adm (ms_H sm)) H) (hD : va_D (fun q : Nat => s.heap.size ≤ q) (mm_wr E adx (xs_H (.ref 9) (.ref 17) (.ref 9) pr sx) ++ mm_wr E adm (ms_H sm))) (hS : va_S (fun q : Nat => s.heap.size ≤ q) s.heap H locs) (hl : lv_has ls 4 [(0, .ref b), (1, .ref (adx 0)), (2, .ref (adm 0)), (3, .int (nI i))]) (kk : ∀ (sx2 : xs_S) (sm2 : ms_S) (adx2 : Nat → Nat) (pr2 : Value) (H1 : Heap) (locs1 : List Loc), R (n + 1) sx2 sm2 → adx2 0 = adx 0 → va_P D vwCl (mm_wr E adx2 (xs_H (.ref 9) (.ref 17) (.ref 9) pr2 sx2) ++ mm_wr E adm (ms_H sm2)) H1 → va_D (fun q : Nat => s.heap.size ≤ q) (mm_wr E adx2 (xs_H (.ref 9) (.ref 17) (.ref 9) pr2 sx2) ++ mm_wr E adm (ms_H sm2)) → va_S (fun q : Nat => s.heap.size ≤ q) s.heap H1 locs1 → W p l e room_1 s m #[Value.ref b] below meth c H1 locs1 cells slots Z (F0 m 1046 ls [])) : W p l e room_1 s m #[Value.ref b] below meth c H locs cells slots Z (F0 m 934 ls []) := by
  obtain ⟨v, s2, m2, hf, hg, hRn⟩ := hR n sx sm (xs (i + 1)) (xs (i + 2)) (xs (i + 3)) hRR hn
  have C0 := Cx.1
  obtain ⟨hx, hb, hr, hml, hown, hts, hX, hbl, hlocks, hgv⟩ := id C0
  refine lv_aload_n hx hb d_law_934 rfl (lv_at hl 1 rfl) ?_
  refine lw_arg1 C0 hL hi hS hl d_law_935 d_law_936 d_law_937 d_law_938 d_law_939 ?_
  refine lw_arg2 C0 hL hi hS hl d_law_940 d_law_941 d_law_942 d_law_943 d_law_944 ?_
  refine lw_arg3 C0 hL hi hS hl d_law_945 d_law_946 d_law_947 d_law_948 d_law_949 ?_
  refine lw_vcall Cx (As := [.int (xs (i + 1)), .int (xs (i + 2)), .int (xs (i + 3))]) (rest := []) (w2 := mm_wr E adm (ms_H sm)) (h := xs_H (.ref 9) (.ref 17) (.ref 9) pr sx) (ad := adx) (Q := fun v2 h2 => v2 = some (.int v) ∧ h2 = xs_H (.ref 9) (.ref 17) (.ref 9) pr s2) (hct (0 + 13) 257 _ _ _ (xt_11_listen xB 0 (.ref 9) (.ref 17) pr sx (xs (i + 1)) (xs (i + 2)) (xs (i + 3)) v s2 _ hf ⟨rfl, rfl⟩)) (by decide +kernel) (na := 4) (ci := 11) (by decide +kernel) rfl rfl lw_ln_148 rfl (by decide) (Nat.le_of_ble_eq_true rfl) hl.1 d_law_950 hP hD hS hfit (fun v2 h2 H1 locs1 hq _ hP hD hS => ?_)
  obtain ⟨rfl, rfl⟩ := hq
  show W p l e room_1 s m #[Value.ref b] below meth c H1 locs1 cells slots Z (F0 m 953 ls [.int v])
  obtain ⟨hP, hD⟩ := lw_comm hP hD
  generalize H1 = H at hP hS ⊢
  generalize locs1 = locs at hS ⊢
  refine lv_aload_n hx hb d_law_953 rfl (lv_at hl 2 rfl) ?_
  refine lw_arg1 C0 hL hi hS hl d_law_954 d_law_955 d_law_956 d_law_957 d_law_958 ?_
  refine lw_arg2 C0 hL hi hS hl d_law_959 d_law_960 d_law_961 d_law_962 d_law_963 ?_
  refine lw_arg3 C0 hL hi hS hl d_law_964 d_law_965 d_law_966 d_law_967 d_law_968 ?_
  refine lw_vcall Cx (As := [.int (xs (i + 1)), .int (xs (i + 2)), .int (xs (i + 3))]) (rest := [.int v]) (w2 := mm_wr E adx (xs_H (.ref 9) (.ref 17) (.ref 9) pr s2)) (h := ms_H sm) (ad := adm) (Q := fun v2 h2 => v2 = some (.int v) ∧ h2 = ms_H m2) (hct (0 + 8) 118 _ _ _ (mt_listen xB 0 sm (xs (i + 1)) (xs (i + 2)) (xs (i + 3)) v m2 _ hg ⟨rfl, rfl⟩)) (by decide +kernel) (na := 4) (ci := 12) (by decide +kernel) rfl rfl lw_ln_151 rfl (by decide) (Nat.le_of_ble_eq_true rfl) hl.1 d_law_969 hP hD hS hfit (fun v2 h2 H1 locs1 hq _ hP hD hS => ?_)
  obtain ⟨rfl, rfl⟩ := hq
  show W p l e room_1 s m #[Value.ref b] below meth c H1 locs1 cells slots Z (F0 m 972 ls [.int v, .int v])
  obtain ⟨hP, hD⟩ := lw_comm hP hD
  refine lv_icmp_eq (tgt := 1046) hx hb d_law_972 (by decide) (fun c1 => ?_) (fun c1 => absurd rfl c1)
  exact kk s2 m2 adx pr H1 locs1 hRn rfl hP hD hS
set_option maxHeartbeats 4000000 in
set_option maxRecDepth 100000 in
theorem lw_k33 {p : Program} {l : Launch} {e : Env} {s : State} {m : MethodId} {below : List Frame} {meth : Method} {c : Code} {b L : Nat} {xs : Nat → Int32} {D : va_G} {E : Nat → ClassId} {Xt : mm_Xt} {Z : State → Prop} (Cx : lw_Cx p s m meth c b L xs D E Xt) (hct : ∀ (d mi : Nat) (as : List Value) (h : mm_H) (Q : mm_R), mm_ct xB mm_Mk mm_Fk mm_PC d mi as h Q → ∃ t1, mm_at mm_T mi = some t1 ∧ t1.2.2.1 ≤ 40 ∧ mm_Met l D E Xt (d + 12) t1 (mm_Mk mi).1 (mm_Mk mi).2 as h Q) {R : Nat → xs_S → ms_S → Prop} (hR : lw_s33 R) {n i cells slots : Nat} (hn : n < 512) (hL : L ≤ 3072) (hi : i + 6 ≤ L) (hfit : cells ≤ 600000 ∧ slots ≤ 7302249) {sx : xs_S} {sm : ms_S} {adx adm : Nat → Nat} {pr : Value} {H : Heap} {locs : List Loc} {ls : Array Slot} (hRR : R n sx sm) (hP : va_P D vwCl (mm_wr E adx (xs_H (.ref 9) (.ref 17) (.ref 9) pr sx) ++ mm_wr E adm (ms_H sm)) H) (hD : va_D (fun q : Nat => s.heap.size ≤ q) (mm_wr E adx (xs_H (.ref 9) (.ref 17) (.ref 9) pr sx) ++ mm_wr E adm (ms_H sm))) (hS : va_S (fun q : Nat => s.heap.size ≤ q) s.heap H locs) (hl : lv_has ls 4 [(0, .ref b), (1, .ref (adx 0)), (2, .ref (adm 0)), (3, .int (nI i))]) (kk : ∀ (sx2 : xs_S) (sm2 : ms_S) (adx2 : Nat → Nat) (pr2 : Value) (H1 : Heap) (locs1 : List Loc), R (n + 1) sx2 sm2 → adx2 0 = adx 0 → va_P D vwCl (mm_wr E adx2 (xs_H (.ref 9) (.ref 17) (.ref 9) pr2 sx2) ++ mm_wr E adm (ms_H sm2)) H1 → va_D (fun q : Nat => s.heap.size ≤ q) (mm_wr E adx2 (xs_H (.ref 9) (.ref 17) (.ref 9) pr2 sx2) ++ mm_wr E adm (ms_H sm2)) → va_S (fun q : Nat => s.heap.size ≤ q) s.heap H1 locs1 → W p l e room_1 s m #[Value.ref b] below meth c H1 locs1 cells slots Z (F0 m 1046 ls [])) : W p l e room_1 s m #[Value.ref b] below meth c H locs cells slots Z (F0 m 977 ls []) := by
  obtain ⟨v, s2, m2, hf, hg, hRn⟩ := hR n sx sm (xs (i + 1)) hRR hn
  have C0 := Cx.1
  obtain ⟨hx, hb, hr, hml, hown, hts, hX, hbl, hlocks, hgv⟩ := id C0
  refine lv_aload_n hx hb d_law_977 rfl (lv_at hl 1 rfl) ?_
  refine lw_arg1 C0 hL hi hS hl d_law_978 d_law_979 d_law_980 d_law_981 d_law_982 ?_
  refine lw_vcall Cx (As := [.int (xs (i + 1))]) (rest := []) (w2 := mm_wr E adm (ms_H sm)) (h := xs_H (.ref 9) (.ref 17) (.ref 9) pr sx) (ad := adx) (Q := fun v2 h2 => v2 = some (.int v) ∧ h2 = xs_H (.ref 9) (.ref 17) (.ref 9) pr s2) (hct (0 + 2) 258 _ _ _ (xt_11_hold xB 0 (.ref 9) (.ref 17) (.ref 9) pr sx (xs (i + 1)) v s2 _ hf ⟨rfl, rfl⟩)) (by decide +kernel) (na := 2) (ci := 11) (by decide +kernel) rfl rfl lw_ln_152 rfl (by decide) (Nat.le_of_ble_eq_true rfl) hl.1 d_law_983 hP hD hS hfit (fun v2 h2 H1 locs1 hq _ hP hD hS => ?_)
  obtain ⟨rfl, rfl⟩ := hq
  show W p l e room_1 s m #[Value.ref b] below meth c H1 locs1 cells slots Z (F0 m 986 ls [.int v])
  obtain ⟨hP, hD⟩ := lw_comm hP hD
  generalize H1 = H at hP hS ⊢
  generalize locs1 = locs at hS ⊢
  refine lv_aload_n hx hb d_law_986 rfl (lv_at hl 2 rfl) ?_
  refine lw_arg1 C0 hL hi hS hl d_law_987 d_law_988 d_law_989 d_law_990 d_law_991 ?_
  refine lw_vcall Cx (As := [.int (xs (i + 1))]) (rest := [.int v]) (w2 := mm_wr E adx (xs_H (.ref 9) (.ref 17) (.ref 9) pr s2)) (h := ms_H sm) (ad := adm) (Q := fun v2 h2 => v2 = some (.int v) ∧ h2 = ms_H m2) (hct (0 + 2) 119 _ _ _ (mt_hold xB 0 sm (xs (i + 1)) v m2 _ hg ⟨rfl, rfl⟩)) (by decide +kernel) (na := 2) (ci := 12) (by decide +kernel) rfl rfl lw_ln_156 rfl (by decide) (Nat.le_of_ble_eq_true rfl) hl.1 d_law_992 hP hD hS hfit (fun v2 h2 H1 locs1 hq _ hP hD hS => ?_)
  obtain ⟨rfl, rfl⟩ := hq
  show W p l e room_1 s m #[Value.ref b] below meth c H1 locs1 cells slots Z (F0 m 995 ls [.int v, .int v])
  obtain ⟨hP, hD⟩ := lw_comm hP hD
  refine lv_icmp_eq (tgt := 1046) hx hb d_law_995 (by decide) (fun c1 => ?_) (fun c1 => absurd rfl c1)
  exact kk s2 m2 adx pr H1 locs1 hRn rfl hP hD hS
set_option maxHeartbeats 4000000 in
set_option maxRecDepth 100000 in
theorem lw_k34 {p : Program} {l : Launch} {e : Env} {s : State} {m : MethodId} {below : List Frame} {meth : Method} {c : Code} {b L : Nat} {xs : Nat → Int32} {D : va_G} {E : Nat → ClassId} {Xt : mm_Xt} {Z : State → Prop} (Cx : lw_Cx p s m meth c b L xs D E Xt) (hct : ∀ (d mi : Nat) (as : List Value) (h : mm_H) (Q : mm_R), mm_ct xB mm_Mk mm_Fk mm_PC d mi as h Q → ∃ t1, mm_at mm_T mi = some t1 ∧ t1.2.2.1 ≤ 40 ∧ mm_Met l D E Xt (d + 12) t1 (mm_Mk mi).1 (mm_Mk mi).2 as h Q) {R : Nat → xs_S → ms_S → Prop} (hR : lw_s34 R) {n i cells slots : Nat} (hn : n < 512) (hL : L ≤ 3072) (hi : i + 6 ≤ L) (hfit : cells ≤ 600000 ∧ slots ≤ 7302249) {sx : xs_S} {sm : ms_S} {adx adm : Nat → Nat} {pr : Value} {H : Heap} {locs : List Loc} {ls : Array Slot} (hRR : R n sx sm) (hP : va_P D vwCl (mm_wr E adx (xs_H (.ref 9) (.ref 17) (.ref 9) pr sx) ++ mm_wr E adm (ms_H sm)) H) (hD : va_D (fun q : Nat => s.heap.size ≤ q) (mm_wr E adx (xs_H (.ref 9) (.ref 17) (.ref 9) pr sx) ++ mm_wr E adm (ms_H sm))) (hS : va_S (fun q : Nat => s.heap.size ≤ q) s.heap H locs) (hl : lv_has ls 4 [(0, .ref b), (1, .ref (adx 0)), (2, .ref (adm 0)), (3, .int (nI i))]) (kk : ∀ (sx2 : xs_S) (sm2 : ms_S) (adx2 : Nat → Nat) (pr2 : Value) (H1 : Heap) (locs1 : List Loc), R (n + 1) sx2 sm2 → adx2 0 = adx 0 → va_P D vwCl (mm_wr E adx2 (xs_H (.ref 9) (.ref 17) (.ref 9) pr2 sx2) ++ mm_wr E adm (ms_H sm2)) H1 → va_D (fun q : Nat => s.heap.size ≤ q) (mm_wr E adx2 (xs_H (.ref 9) (.ref 17) (.ref 9) pr2 sx2) ++ mm_wr E adm (ms_H sm2)) → va_S (fun q : Nat => s.heap.size ≤ q) s.heap H1 locs1 → W p l e room_1 s m #[Value.ref b] below meth c H1 locs1 cells slots Z (F0 m 1046 ls [])) : W p l e room_1 s m #[Value.ref b] below meth c H locs cells slots Z (F0 m 1000 ls []) := by
  obtain ⟨v, s2, m2, hf, hg, hRn⟩ := hR n sx sm (xs (i + 1)) hRR hn
  have C0 := Cx.1
  obtain ⟨hx, hb, hr, hml, hown, hts, hX, hbl, hlocks, hgv⟩ := id C0
  refine lv_aload_n hx hb d_law_1000 rfl (lv_at hl 1 rfl) ?_
  refine lw_arg1 C0 hL hi hS hl d_law_1001 d_law_1002 d_law_1003 d_law_1004 d_law_1005 ?_
  refine lw_vcall Cx (As := [.int (xs (i + 1))]) (rest := []) (w2 := mm_wr E adm (ms_H sm)) (h := xs_H (.ref 9) (.ref 17) (.ref 9) pr sx) (ad := adx) (Q := fun v2 h2 => v2 = some (.int v) ∧ h2 = xs_H (.ref 9) (.ref 17) (.ref 9) pr s2) (hct (0 + 3) 259 _ _ _ (xt_11_restore xB 0 (.ref 17) pr sx (xs (i + 1)) v s2 _ hf ⟨rfl, rfl⟩)) (by decide +kernel) (na := 2) (ci := 11) (by decide +kernel) rfl rfl lw_ln_157 rfl (by decide) (Nat.le_of_ble_eq_true rfl) hl.1 d_law_1006 hP hD hS hfit (fun v2 h2 H1 locs1 hq _ hP hD hS => ?_)
  obtain ⟨rfl, rfl⟩ := hq
  show W p l e room_1 s m #[Value.ref b] below meth c H1 locs1 cells slots Z (F0 m 1009 ls [.int v])
  obtain ⟨hP, hD⟩ := lw_comm hP hD
  generalize H1 = H at hP hS ⊢
  generalize locs1 = locs at hS ⊢
  refine lv_aload_n hx hb d_law_1009 rfl (lv_at hl 2 rfl) ?_
  refine lw_arg1 C0 hL hi hS hl d_law_1010 d_law_1011 d_law_1012 d_law_1013 d_law_1014 ?_
  refine lw_vcall Cx (As := [.int (xs (i + 1))]) (rest := [.int v]) (w2 := mm_wr E adx (xs_H (.ref 9) (.ref 17) (.ref 9) pr s2)) (h := ms_H sm) (ad := adm) (Q := fun v2 h2 => v2 = some (.int v) ∧ h2 = ms_H m2) (hct (0 + 2) 120 _ _ _ (mt_restore xB 0 sm (xs (i + 1)) v m2 _ hg ⟨rfl, rfl⟩)) (by decide +kernel) (na := 2) (ci := 12) (by decide +kernel) rfl rfl lw_ln_160 rfl (by decide) (Nat.le_of_ble_eq_true rfl) hl.1 d_law_1015 hP hD hS hfit (fun v2 h2 H1 locs1 hq _ hP hD hS => ?_)
  obtain ⟨rfl, rfl⟩ := hq
  show W p l e room_1 s m #[Value.ref b] below meth c H1 locs1 cells slots Z (F0 m 1018 ls [.int v, .int v])
  obtain ⟨hP, hD⟩ := lw_comm hP hD
  refine lv_icmp_eq (tgt := 1046) hx hb d_law_1018 (by decide) (fun c1 => ?_) (fun c1 => absurd rfl c1)
  exact kk s2 m2 adx pr H1 locs1 hRn rfl hP hD hS
set_option maxHeartbeats 4000000 in
set_option maxRecDepth 100000 in
theorem lw_k35 {p : Program} {l : Launch} {e : Env} {s : State} {m : MethodId} {below : List Frame} {meth : Method} {c : Code} {b L : Nat} {xs : Nat → Int32} {D : va_G} {E : Nat → ClassId} {Xt : mm_Xt} {Z : State → Prop} (Cx : lw_Cx p s m meth c b L xs D E Xt) (hct : ∀ (d mi : Nat) (as : List Value) (h : mm_H) (Q : mm_R), mm_ct xB mm_Mk mm_Fk mm_PC d mi as h Q → ∃ t1, mm_at mm_T mi = some t1 ∧ t1.2.2.1 ≤ 40 ∧ mm_Met l D E Xt (d + 12) t1 (mm_Mk mi).1 (mm_Mk mi).2 as h Q) {R : Nat → xs_S → ms_S → Prop} (hR : lw_s35 R) {n i cells slots : Nat} (hn : n < 512) (hL : L ≤ 3072) (hi : i + 6 ≤ L) (hfit : cells ≤ 600000 ∧ slots ≤ 7302249) {sx : xs_S} {sm : ms_S} {adx adm : Nat → Nat} {pr : Value} {H : Heap} {locs : List Loc} {ls : Array Slot} (hRR : R n sx sm) (hP : va_P D vwCl (mm_wr E adx (xs_H (.ref 9) (.ref 17) (.ref 9) pr sx) ++ mm_wr E adm (ms_H sm)) H) (hD : va_D (fun q : Nat => s.heap.size ≤ q) (mm_wr E adx (xs_H (.ref 9) (.ref 17) (.ref 9) pr sx) ++ mm_wr E adm (ms_H sm))) (hS : va_S (fun q : Nat => s.heap.size ≤ q) s.heap H locs) (hl : lv_has ls 4 [(0, .ref b), (1, .ref (adx 0)), (2, .ref (adm 0)), (3, .int (nI i))]) (kk : ∀ (sx2 : xs_S) (sm2 : ms_S) (adx2 : Nat → Nat) (pr2 : Value) (H1 : Heap) (locs1 : List Loc), R (n + 1) sx2 sm2 → adx2 0 = adx 0 → va_P D vwCl (mm_wr E adx2 (xs_H (.ref 9) (.ref 17) (.ref 9) pr2 sx2) ++ mm_wr E adm (ms_H sm2)) H1 → va_D (fun q : Nat => s.heap.size ≤ q) (mm_wr E adx2 (xs_H (.ref 9) (.ref 17) (.ref 9) pr2 sx2) ++ mm_wr E adm (ms_H sm2)) → va_S (fun q : Nat => s.heap.size ≤ q) s.heap H1 locs1 → W p l e room_1 s m #[Value.ref b] below meth c H1 locs1 cells slots Z (F0 m 1046 ls [])) : W p l e room_1 s m #[Value.ref b] below meth c H locs cells slots Z (F0 m 1023 ls []) := by
  obtain ⟨v, s2, m2, hf, hg, hRn⟩ := hR n sx sm (xs (i + 1)) hRR hn
  have C0 := Cx.1
  obtain ⟨hx, hb, hr, hml, hown, hts, hX, hbl, hlocks, hgv⟩ := id C0
  refine lv_aload_n hx hb d_law_1023 rfl (lv_at hl 1 rfl) ?_
  refine lw_arg1 C0 hL hi hS hl d_law_1024 d_law_1025 d_law_1026 d_law_1027 d_law_1028 ?_
  refine lw_vcall Cx (As := [.int (xs (i + 1))]) (rest := []) (w2 := mm_wr E adm (ms_H sm)) (h := xs_H (.ref 9) (.ref 17) (.ref 9) pr sx) (ad := adx) (Q := fun v2 h2 => v2 = some (.int v) ∧ h2 = xs_H (.ref 9) (.ref 17) (.ref 9) pr s2) (hct (0 + 6) 260 _ _ _ (xt_11_count xB 0 (.ref 17) pr sx (xs (i + 1)) v s2 _ hf ⟨rfl, rfl⟩)) (by decide +kernel) (na := 2) (ci := 11) (by decide +kernel) rfl rfl lw_ln_161 rfl (by decide) (Nat.le_of_ble_eq_true rfl) hl.1 d_law_1029 hP hD hS hfit (fun v2 h2 H1 locs1 hq _ hP hD hS => ?_)
  obtain ⟨rfl, rfl⟩ := hq
  show W p l e room_1 s m #[Value.ref b] below meth c H1 locs1 cells slots Z (F0 m 1032 ls [.int v])
  obtain ⟨hP, hD⟩ := lw_comm hP hD
  generalize H1 = H at hP hS ⊢
  generalize locs1 = locs at hS ⊢
  refine lv_aload_n hx hb d_law_1032 rfl (lv_at hl 2 rfl) ?_
  refine lw_arg1 C0 hL hi hS hl d_law_1033 d_law_1034 d_law_1035 d_law_1036 d_law_1037 ?_
  refine lw_vcall Cx (As := [.int (xs (i + 1))]) (rest := [.int v]) (w2 := mm_wr E adx (xs_H (.ref 9) (.ref 17) (.ref 9) pr s2)) (h := ms_H sm) (ad := adm) (Q := fun v2 h2 => v2 = some (.int v) ∧ h2 = ms_H m2) (hct (0 + 6) 121 _ _ _ (mt_count xB 0 sm (xs (i + 1)) v m2 _ hg ⟨rfl, rfl⟩)) (by decide +kernel) (na := 2) (ci := 12) (by decide +kernel) rfl rfl lw_ln_164 rfl (by decide) (Nat.le_of_ble_eq_true rfl) hl.1 d_law_1038 hP hD hS hfit (fun v2 h2 H1 locs1 hq _ hP hD hS => ?_)
  obtain ⟨rfl, rfl⟩ := hq
  show W p l e room_1 s m #[Value.ref b] below meth c H1 locs1 cells slots Z (F0 m 1041 ls [.int v, .int v])
  obtain ⟨hP, hD⟩ := lw_comm hP hD
  refine lv_icmp_eq (tgt := 1046) hx hb d_law_1041 (by decide) (fun c1 => ?_) (fun c1 => absurd rfl c1)
  exact kk s2 m2 adx pr H1 locs1 hRn rfl hP hD hS
