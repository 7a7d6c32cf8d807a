/-! String.indexOf over the signs -/
theorem sx_ce (l : Launch) {adK adV : Nat → Nat} (d : Nat) {n : Nat} (hn : n < 256) : sx_M l adK adV y_ce b_ce 1 (some .boolean) d [.int (nI n)] (some (.int 1)) := by
  refine sx_of (by decide) (Nat.le_of_ble_eq_true rfl) ?_
  intro p e s m below meth c ls B hl
  obtain ⟨hx, hb, hr, hts, hown, hlocks, hml, hX⟩ := B
  have hS : va_S (fun q : Nat => s.heap.size ≤ q) s.heap s.heap [] := va_S.rf
  have hl : lv_has ls 1 [(0, .int (nI n))] := hl
  refine lv_iload_n hx hb d_ce_0 rfl (lv_at hl 0 rfl) ?_
  refine lv_if_lt (tgt := 15) hx hb d_ce_1 (by decide) (fun c1 => absurd c1 (nI_pos (by omega))) (fun _ => ?_)
  refine lv_iload_n hx hb d_ce_4 rfl (lv_at hl 0 rfl) ?_
  refine lv_sipush (v := 255) hx hb d_ce_5 (by decide) ?_
  refine lv_icmp_gt (tgt := 15) hx hb d_ce_8 (by decide) (fun c1 => ?_) (fun _ => ?_)
  · have h9 : (255 : Int32) < nI n := c1
    rw [Int32.lt_iff_toInt_lt, show (nI n).toInt = (n : Int) from Int32.toInt_ofNat_of_lt (by omega)] at h9
    exact absurd h9 (by show ¬ (255 : Int) < n; omega)
  · refine lv_iconst (v := 1) hx hb d_ce_11 (by decide) ?_
    refine lv_goto (tgt := 16) hx hb d_ce_12 (by decide) ?_
    exact W.zret hx hb hr (by decide) (fun t ht _ => sx_ret hS ht) hS.2.2 d_ce_16
def sx_sg : List Int32 := [59, 61, 43, 45, 42, 47, 60, 40, 41]
theorem sx_ixok : ∀ n, n < 256 → (∀ j, j < 9 → (∀ i, i < j → ¬ sx_sg.getD i 0 = (nI n).toInt8.toInt32) → sx_sg.getD j 0 = (nI n).toInt8.toInt32 → xs_ix (nI n) = nI j) ∧ ((∀ i, i < 9 → ¬ sx_sg.getD i 0 = (nI n).toInt8.toInt32) → xs_ix (nI n) = -1) := by decide +kernel
theorem sx_ic (l : Launch) {adK adV : Nat → Nat} (d : Nat) {n : Nat} (hn : n < 256) : sx_M l adK adV y_ic b_ic 6 (some .int) d [.ref (adV 0), .int (nI n), .int 0, .int (nI 9)] (some (.int (xs_ix (nI n)))) := by
  refine sx_of (by decide) (Nat.le_of_ble_eq_true rfl) ?_
  intro p e s m below meth c ls B hl
  obtain ⟨hx, hb, hr, hts, hown, hlocks, hml, hX⟩ := B
  have hS : va_S (fun q : Nat => s.heap.size ≤ q) s.heap s.heap [] := va_S.rf
  have hl : lv_has ls 6 [(0, .ref (adV 0)), (1, .int (nI n)), (2, .int 0), (3, .int (nI 9))] := hl
  have hT := (hX.1.1 0 (by decide)).2.2.2
  obtain ⟨f1, f2⟩ := sx_ixok n hn
  have loop : ∀ (r j : Nat), j + r = 9 → (∀ i, i < j → ¬ sx_sg.getD i 0 = (nI n).toInt8.toInt32) → ∀ ls : Array Slot, lv_has ls 6 [(5, .int (nI j)), (4, .int (nI n).toInt8.toInt32), (0, .ref (adV 0)), (1, .int (nI n)), (2, .int 0), (3, .int (nI 9))] → W p l e (mm_rm d 0 0) s m [.ref (adV 0), .int (nI n), .int 0, .int (nI 9)].toArray below meth c s.heap [] 0 0 (MQ below (sx_Q (some (.int (xs_ix (nI n)))) s.heap.size) [.ref (adV 0), .int (nI n), .int 0, .int (nI 9)].toArray s 0 0 (fun q : Nat => s.heap.size ≤ q)) (F0 m 7 ls []) := by
    intro r
    induction r with
    | zero =>
      intro j hj hne ls hl
      have e9 : j = 9 := by omega
      subst e9
      refine lv_iload hx hb d_ic_7 (lv_at hl 0 rfl) ?_
      refine lv_iload_n hx hb d_ic_9 rfl (lv_at hl 5 rfl) ?_
      refine lv_icmp_ge (tgt := 31) hx hb d_ic_10 (by decide) (fun _ => ?_) (fun c1 => absurd (Int32.le_refl _) c1)
      refine lv_iconst (v := -1) hx hb d_ic_31 (by decide) ?_
      rw [f2 hne]
      exact W.iret hx hb hr (fun t ht _ => sx_ret hS ht) hS.2.2 d_ic_32
    | succ r ih =>
      intro j hj hne ls hl
      refine lv_iload hx hb d_ic_7 (lv_at hl 0 rfl) ?_
      refine lv_iload_n hx hb d_ic_9 rfl (lv_at hl 5 rfl) ?_
      refine lv_icmp_ge (tgt := 31) hx hb d_ic_10 (by decide) (fun c1 => absurd c1 (nI_ge (by omega) (by omega))) (fun _ => ?_)
      refine lv_aload_n hx hb d_ic_13 rfl (lv_at hl 2 rfl) ?_
      refine lv_iload hx hb d_ic_14 (lv_at hl 0 rfl) ?_
      refine va_tb hx hb hT hS (show vp_in (nI j) 9 from vp_in_nI (by omega) (by omega)) (v := .int (sx_sg.getD j 0)) (by rw [nI_clamp (by omega)]; rfl) d_ic_16 ?_
      refine lv_iload hx hb d_ic_17 (lv_at hl 1 rfl) ?_
      refine lv_icmp_ne (tgt := 25) hx hb d_ic_19 (by decide) (fun c1 => ?_) (fun c1 => ?_)
      · refine lv_iinc (v := nI (j + 1)) (lv' := [(5, .int (nI (j + 1))), (4, .int (nI n).toInt8.toInt32), (0, .ref (adV 0)), (1, .int (nI n)), (2, .int 0), (3, .int (nI 9))]) hx hb d_ic_25 hl (k := 0) rfl (Int32.ofNat_add j 1).symm (by decide) rfl (fun ls hl => ?_)
        refine lv_goto (tgt := 7) hx hb d_ic_28 (by decide) ?_
        refine ih (j + 1) (by omega) (fun i hi => ?_) ls hl
        rcases Nat.lt_or_ge i j with h | h
        · exact hne i h
        · rw [show i = j by omega]
          exact c1
      · refine lv_iload hx hb d_ic_22 (lv_at hl 0 rfl) ?_
        have c2 : sx_sg.getD j 0 = (nI n).toInt8.toInt32 := c1
        rw [f1 j (by omega) hne c2]
        exact W.iret hx hb hr (fun t ht _ => sx_ret hS ht) hS.2.2 d_ic_24
  refine lv_iload_n hx hb d_ic_0 rfl (lv_at hl 1 rfl) ?_
  refine lv_i2b hx hb d_ic_1 rfl ?_
  refine lv_istore (lv' := [(4, .int (nI n).toInt8.toInt32), (0, .ref (adV 0)), (1, .int (nI n)), (2, .int 0), (3, .int (nI 9))]) hx hb d_ic_2 hl (by decide) rfl (fun ls hl => ?_)
  refine lv_iload_n hx hb d_ic_4 rfl (lv_at hl 3 rfl) ?_
  refine lv_istore (lv' := [(5, .int 0), (4, .int (nI n).toInt8.toInt32), (0, .ref (adV 0)), (1, .int (nI n)), (2, .int 0), (3, .int (nI 9))]) hx hb d_ic_5 hl (by decide) rfl (fun ls hl => ?_)
  exact loop 9 0 rfl (fun i hi => absurd hi (by omega)) ls hl
theorem sx_li (l : Launch) {adK adV : Nat → Nat} (d : Nat) {n : Nat} (hn : n < 256) : sx_M l adK adV y_li b_li 4 (some .int) (d + 1) [.ref (adV 0), .int (nI n), .int 0, .int (nI 9)] (some (.int (xs_ix (nI n)))) := by
  refine sx_of (by decide) (Nat.le_of_ble_eq_true rfl) ?_
  intro p e s m below meth c ls B hl
  obtain ⟨hx, hb, hr, hts, hown, hlocks, hml, hX⟩ := B
  have hS : va_S (fun q : Nat => s.heap.size ≤ q) s.heap s.heap [] := va_S.rf
  have hl : lv_has ls 4 [(0, .ref (adV 0)), (1, .int (nI n)), (2, .int 0), (3, .int (nI 9))] := hl
  have hT := (hX.1.1 0 (by decide)).2.2.2
  refine lv_iload_n hx hb d_li_0 rfl (lv_at hl 1 rfl) ?_
  refine sx_callS (As := [.int (nI n)]) (rest := []) hx hb hml hown hts hX (fun q h => h) hS hl.1 (sx_ce l d hn) w_ce_c w_ce_s w_l_ce w_iniL ⟨by decide, by decide, w_ce_n⟩ ⟨by show d + 1 ≤ d + 1; omega, by show 8 + (1 + 11) + 64 * d ≤ 64 * (d + 1); omega⟩ ⟨Nat.le_refl 0, Nat.le_refl 0⟩ (Nat.le_of_ble_eq_true rfl) d_li_1 (fun H1 locs1 hz hk2 hS => ?_)
  show W p l e (mm_rm (d + 1) 0 0) s m _ below meth c H1 locs1 0 0 _ (F0 m 4 ls [.int 1])
  refine lv_if_ne (tgt := 9) hx hb d_li_4 (by decide) (fun _ => ?_) (fun c1 => absurd c1 (by decide))
  refine lv_iload_n hx hb d_li_9 rfl (lv_at hl 2 rfl) ?_
  refine lv_iconst (v := 0) hx hb d_li_10 (by decide) ?_
  refine va_mmax hx hb (hml.trans hl.1.symm) hown (hts _ w_l_mx) (hts _ mm_wS91) (hts _ mm_wmi) (hts _ mm_wC91) (by show 1 ≤ d + 1; omega) (by show 0 + 13 ≤ 64 * (d + 1); omega) (Nat.le_refl 0) (Nat.le_refl 0) d_li_11 ?_
  refine lv_istore_n (lv' := [(2, .int 0), (0, .ref (adV 0)), (1, .int (nI n)), (3, .int (nI 9))]) hx hb d_li_14 rfl hl (by decide) rfl (fun ls hl => ?_)
  refine lv_iload_n hx hb d_li_15 rfl (lv_at hl 3 rfl) ?_
  refine lv_aload_n hx hb d_li_16 rfl (lv_at hl 1 rfl) ?_
  refine va_tlen hx hb hT hS (v := nI 9) rfl d_li_17 ?_
  refine va_mmin hx hb (hml.trans hl.1.symm) hown (hts _ w_l_mn) (hts _ mm_wS92) (hts _ mm_wmi) (hts _ mm_wC92) (by show 1 ≤ d + 1; omega) (by show 0 + 13 ≤ 64 * (d + 1); omega) (Nat.le_refl 0) (Nat.le_refl 0) d_li_18 ?_
  refine lv_istore_n (lv' := [(3, .int (nI 9)), (2, .int 0), (0, .ref (adV 0)), (1, .int (nI n))]) hx hb d_li_21 rfl hl (by decide) rfl (fun ls hl => ?_)
  refine lv_iload_n hx hb d_li_22 rfl (lv_at hl 1 rfl) ?_
  refine lv_iload_n hx hb d_li_23 rfl (lv_at hl 0 rfl) ?_
  refine lv_icmp_lt (tgt := 29) hx hb d_li_24 (by decide) (fun _ => ?_) (fun c1 => absurd (show (0 : Int32) < nI 9 from by decide) c1)
  refine lv_aload_n hx hb d_li_29 rfl (lv_at hl 2 rfl) ?_
  refine lv_iload_n hx hb d_li_30 rfl (lv_at hl 3 rfl) ?_
  refine lv_iload_n hx hb d_li_31 rfl (lv_at hl 1 rfl) ?_
  refine lv_iload_n hx hb d_li_32 rfl (lv_at hl 0 rfl) ?_
  refine sx_callS (As := [.ref (adV 0), .int (nI n), .int 0, .int (nI 9)]) (rest := []) hx hb hml hown hts hX (fun q h => h) hS hl.1 (sx_ic l d hn) w_ic_c w_ic_s w_l_ic w_iniL ⟨by decide, by decide, w_ic_n⟩ ⟨by show d + 1 ≤ d + 1; omega, by show 8 + (6 + 11) + 64 * d ≤ 64 * (d + 1); omega⟩ ⟨Nat.le_refl 0, Nat.le_refl 0⟩ (Nat.le_of_ble_eq_true rfl) d_li_33 (fun H1 locs1 hz hk3 hS => ?_)
  exact W.iret hx hb hr (fun t ht _ => sx_ret hS ht) hS.2.2 d_li_36
theorem sx_co (l : Launch) {adK adV : Nat → Nat} (d : Nat) {i : Nat} (hi : i < 2) : sx_M l adK adV y_co b_co 1 (some .byte) d [.ref (adK i)] (some (.int 0)) := by
  refine sx_of (by decide) (Nat.le_of_ble_eq_true rfl) ?_
  intro p e s m below meth c ls B hl
  obtain ⟨hx, hb, hr, hts, hown, hlocks, hml, hX⟩ := B
  have hS : va_S (fun q : Nat => s.heap.size ≤ q) s.heap s.heap [] := va_S.rf
  have hl : lv_has ls 1 [(0, .ref (adK i))] := hl
  refine va_gets hx hb hX.2.1 hS hown (hts _ w_f_cs) (fun _ h => h) d_co_0 ?_
  refine lv_if_eq (tgt := 13) hx hb d_co_3 (by decide) (fun c1 => absurd c1 (by decide)) (fun _ => ?_)
  refine lv_aload_n hx hb d_co_6 rfl (lv_at hl 0 rfl) ?_
  refine vk_getf hx hb (hX.1.1 i hi).2.1 hS hown (hts _ w_f_co) (fun _ h => h) d_co_7 ?_
  refine lv_goto (tgt := 14) hx hb d_co_10 (by decide) ?_
  exact W.zret hx hb hr (by decide) (fun t ht _ => sx_ret hS ht) hS.2.2 d_co_14
theorem sx_le (l : Launch) {adK adV : Nat → Nat} (d : Nat) : sx_M l adK adV y_le b_le 1 (some .int) (d + 1) [.ref (adK 0)] (some (.int (nI 9))) := by
  refine sx_of (by decide) (Nat.le_of_ble_eq_true rfl) ?_
  intro p e s m below meth c ls B hl
  obtain ⟨hx, hb, hr, hts, hown, hlocks, hml, hX⟩ := B
  have hS : va_S (fun q : Nat => s.heap.size ≤ q) s.heap s.heap [] := va_S.rf
  have hl : lv_has ls 1 [(0, .ref (adK 0))] := hl
  refine lv_aload_n hx hb d_le_0 rfl (lv_at hl 0 rfl) ?_
  refine vk_getf hx hb (hX.1.1 0 (by decide)).2.2.1 hS hown (hts _ w_f_va) (fun _ h => h) d_le_1 ?_
  refine va_tlen hx hb (hX.1.1 0 (by decide)).2.2.2 hS (v := nI 9) rfl d_le_4 ?_
  refine lv_aload_n hx hb d_le_5 rfl (lv_at hl 0 rfl) ?_
  refine sx_callV (As := []) (rest := [.int (nI 9)]) hx hb hml hown hts hX (fun q h => h) hS hl.1 (sx_co l d (i := 0) (by decide)) (vk_recv hX.1 (by decide) hS) w_co_c w_co_i w_co_v w_l_co w_iniS ⟨by decide, by decide, w_co_n⟩ ⟨by show d + 1 ≤ d + 1; omega, by show 8 + (1 + 11) + 64 * d ≤ 64 * (d + 1); omega⟩ ⟨Nat.le_refl 0, Nat.le_refl 0⟩ (Nat.le_of_ble_eq_true rfl) d_le_6 (fun H1 locs1 hz hk2 hS => ?_)
  show W p l e (mm_rm (d + 1) 0 0) s m _ below meth c H1 locs1 0 0 _ (F0 m 9 ls [.int 0, .int (nI 9)])
  refine lv_ishr hx hb d_le_9 ?_
  have e1 : nI 9 >>> ((0 : Int32) &&& 31) = nI 9 := sb_shr0 _
  rw [e1]
  exact W.iret hx hb hr (fun t ht _ => sx_ret hS ht) hS.2.2 d_le_10
theorem sx_i2 (l : Launch) {adK adV : Nat → Nat} (d : Nat) {n : Nat} (hn : n < 256) : sx_M l adK adV y_i2 b_i2 3 (some .int) (d + 2) [.ref (adK 0), .int (nI n), .int 0] (some (.int (xs_ix (nI n)))) := by
  refine sx_of (by decide) (Nat.le_of_ble_eq_true rfl) ?_
  intro p e s m below meth c ls B hl
  obtain ⟨hx, hb, hr, hts, hown, hlocks, hml, hX⟩ := B
  have hS : va_S (fun q : Nat => s.heap.size ≤ q) s.heap s.heap [] := va_S.rf
  have hl : lv_has ls 3 [(0, .ref (adK 0)), (1, .int (nI n)), (2, .int 0)] := hl
  refine lv_aload_n hx hb d_i2_0 rfl (lv_at hl 0 rfl) ?_
  refine sx_callV (As := []) (rest := []) hx hb hml hown hts hX (fun q h => h) hS hl.1 (sx_il l (d + 1) (i := 0) (by decide)) (vk_recv hX.1 (by decide) hS) w_il_c w_il_i w_il_v w_l_il w_iniS ⟨by decide, by decide, w_il_n⟩ ⟨by show d + 1 + 1 ≤ d + 2; omega, by show 8 + (1 + 11) + 64 * (d + 1) ≤ 64 * (d + 2); omega⟩ ⟨Nat.le_refl 0, Nat.le_refl 0⟩ (Nat.le_of_ble_eq_true rfl) d_i2_1 (fun H1 locs1 hz hk2 hS => ?_)
  show W p l e (mm_rm (d + 2) 0 0) s m _ below meth c H1 locs1 0 0 _ (F0 m 4 ls [.int 1])
  refine lv_if_eq (tgt := 23) hx hb d_i2_4 (by decide) (fun c1 => absurd c1 (by decide)) (fun _ => ?_)
  refine lv_aload_n hx hb d_i2_7 rfl (lv_at hl 0 rfl) ?_
  refine vk_getf hx hb (hX.1.1 0 (by decide)).2.2.1 hS hown (hts _ w_f_va) (fun _ h => h) d_i2_8 ?_
  refine lv_iload_n hx hb d_i2_11 rfl (lv_at hl 1 rfl) ?_
  refine lv_iload_n hx hb d_i2_12 rfl (lv_at hl 2 rfl) ?_
  refine lv_aload_n hx hb d_i2_13 rfl (lv_at hl 0 rfl) ?_
  refine sx_callV (As := []) (rest := [.int 0, .int (nI n), .ref (adV 0)]) hx hb hml hown hts hX (fun q h => h) hS hl.1 (sx_le l d) (vk_recv hX.1 (by decide) hS) w_le_c w_le_i w_le_v w_l_le w_iniS ⟨by decide, by decide, w_le_n⟩ ⟨by show d + 1 + 1 ≤ d + 2; omega, by show 8 + (1 + 11) + 64 * (d + 1) ≤ 64 * (d + 2); omega⟩ ⟨Nat.le_refl 0, Nat.le_refl 0⟩ (Nat.le_of_ble_eq_true rfl) d_i2_14 (fun H1 locs1 hz hk3 hS => ?_)
  show W p l e (mm_rm (d + 2) 0 0) s m _ below meth c H1 locs1 0 0 _ (F0 m 17 ls [.int (nI 9), .int 0, .int (nI n), .ref (adV 0)])
  refine sx_callS (As := [.ref (adV 0), .int (nI n), .int 0, .int (nI 9)]) (rest := []) hx hb hml hown hts hX (fun q h => h) hS hl.1 (sx_li l d hn) w_li_c w_li_s w_l_li w_iniL ⟨by decide, by decide, w_li_n⟩ ⟨by show d + 1 + 1 ≤ d + 2; omega, by show 8 + (4 + 11) + 64 * (d + 1) ≤ 64 * (d + 2); omega⟩ ⟨Nat.le_refl 0, Nat.le_refl 0⟩ (Nat.le_of_ble_eq_true rfl) d_i2_17 (fun H1 locs1 hz hk4 hS => ?_)
  show W p l e (mm_rm (d + 2) 0 0) s m _ below meth c H1 locs1 0 0 _ (F0 m 20 ls [.int (xs_ix (nI n))])
  refine lv_goto (tgt := 36) hx hb d_i2_20 (by decide) ?_
  exact W.iret hx hb hr (fun t ht _ => sx_ret hS ht) hS.2.2 d_i2_36
theorem sx_i1 (l : Launch) {adK adV : Nat → Nat} (d : Nat) {n : Nat} (hn : n < 256) : sx_M l adK adV y_i1 b_i1 2 (some .int) (d + 3) [.ref (adK 0), .int (nI n)] (some (.int (xs_ix (nI n)))) := by
  refine sx_of (by decide) (Nat.le_of_ble_eq_true rfl) ?_
  intro p e s m below meth c ls B hl
  obtain ⟨hx, hb, hr, hts, hown, hlocks, hml, hX⟩ := B
  have hS : va_S (fun q : Nat => s.heap.size ≤ q) s.heap s.heap [] := va_S.rf
  have hl : lv_has ls 2 [(0, .ref (adK 0)), (1, .int (nI n))] := hl
  refine lv_aload_n hx hb d_i1_0 rfl (lv_at hl 0 rfl) ?_
  refine lv_iload_n hx hb d_i1_1 rfl (lv_at hl 1 rfl) ?_
  refine lv_iconst (v := 0) hx hb d_i1_2 (by decide) ?_
  refine sx_callV (As := [.int (nI n), .int 0]) (rest := []) hx hb hml hown hts hX (fun q h => h) hS hl.1 (sx_i2 l d hn) (vk_recv hX.1 (by decide) hS) w_i2_c w_i2_i w_i2_v w_l_i2 w_iniS ⟨by decide, by decide, w_i2_n⟩ ⟨by show d + 2 + 1 ≤ d + 3; omega, by show 8 + (3 + 11) + 64 * (d + 2) ≤ 64 * (d + 3); omega⟩ ⟨Nat.le_refl 0, Nat.le_refl 0⟩ (Nat.le_of_ble_eq_true rfl) d_i1_3 (fun H1 locs1 hz hk2 hS => ?_)
  exact W.iret hx hb hr (fun t ht _ => sx_ret hS ht) hS.2.2 d_i1_6
