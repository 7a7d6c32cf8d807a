/-! the law's loop, and the law -/
theorem lw_sub6 {L i : Nat} (hL : L ≤ 3072) (hi : i ≤ 3072) (h : ¬ nI L - (6 : Int32) < nI i) : i + 6 ≤ L := by
  rw [Int32.lt_iff_toInt_lt, Int32.toInt_sub, show (nI i).toInt = (i : Int) from Int32.toInt_ofNat_of_lt (by omega), show (nI L).toInt = (L : Int) from Int32.toInt_ofNat_of_lt (by omega), show (6 : Int32).toInt = 6 from rfl, Int.bmod_eq_of_le (by omega) (by omega)] at h
  omega
def lw_sims2 (R : Nat → xs_S → ms_S → Prop) : Prop := (∀ (n : Nat) (s : xs_S) (m : ms_S), R n s m → n < 512 → R (n + 1) s m) ∧ lw_sims R
set_option maxHeartbeats 4000000 in
set_option maxRecDepth 100000 in
theorem lw_loop {p : Program} {l : Launch} {e : Env} {s : State} {m : MethodId} {below : List Frame} {meth : Method} {c : Code} {b L : Nat} {xs : Nat → Int32} {D : va_G} {E : Nat → ClassId} {Xt : mm_Xt} (Cx : lw_Cx p s m meth c b L xs D E Xt) (hct : ∀ (d mi : Nat) (as : List Value) (h : mm_H) (Q : mm_R), mm_ct xB mm_Mk mm_Fk mm_PC d mi as h Q → ∃ t1, mm_at mm_T mi = some t1 ∧ t1.2.2.1 ≤ 40 ∧ mm_Met l D E Xt (d + 12) t1 (mm_Mk mi).1 (mm_Mk mi).2 as h Q) {R : Nat → xs_S → ms_S → Prop} (hR : lw_sims2 R) {cells slots : Nat} (hL : L ≤ 3072) (hfit : cells ≤ 600000 ∧ slots ≤ 7302249) {adm : Nat → Nat} :
    ∀ (k n i : Nat), 513 ≤ n + k → i = 6 * n → n ≤ 512 → ∀ (sx : xs_S) (sm : ms_S) (adx : Nat → Nat) (pr : Value) (H : Heap) (locs : List Loc) (ls : Array Slot), R n sx sm → va_P D vwCl (mm_wr E adx (xs_H (.ref 9) (.ref 17) (.ref 9) pr sx) ++ mm_wr E adm (ms_H sm)) H → va_D (fun q : Nat => s.heap.size ≤ q) (mm_wr E adx (xs_H (.ref 9) (.ref 17) (.ref 9) pr sx) ++ mm_wr E adm (ms_H sm)) → va_S (fun q : Nat => s.heap.size ≤ q) s.heap H locs → lv_has ls 4 [(0, .ref b), (1, .ref (adx 0)), (2, .ref (adm 0)), (3, .int (nI i))] → W p l e room_1 s m #[Value.ref b] below meth c H locs cells slots (lw_Z below #[Value.ref b] s) (F0 m 18 ls []) := by
  obtain ⟨hx, hb, hr, hml, hown, hts, hX, hbl, hlocks, hgv⟩ := id Cx.1
  have hbA : ¬ (fun q : Nat => s.heap.size ≤ q) b := Nat.not_le.mpr hbl
  intro k
  induction k with
  | zero =>
    intro n i h1 h2 h3
    exact absurd h1 (by omega)
  | succ k ih =>
    intro n i h1 h2 h3 sx sm adx pr H locs ls hRR hP hD hS hl
    refine lv_iload_n hx hb d_law_18 rfl (lv_at hl 3 rfl) ?_
    refine lv_aload_n hx hb d_law_19 rfl (lv_at hl 0 rfl) ?_
    refine va_slen hx hb hX hbl hbA hS d_law_20 ?_
    refine lv_bipush (v := 6) hx hb d_law_21 (by decide) ?_
    refine lv_isub hx hb d_law_23 ?_
    refine lv_icmp_gt (tgt := 1052) hx hb d_law_24 (by decide) (fun c1 => ?_) (fun c1 => ?_)
    · refine lv_iconst (v := 1) hx hb d_law_1052 (by decide) ?_
      refine va_forget (fun q hq => hS.2.2 q hq) ?_
      refine W.widen (k := 600000) (n := 7302249) hfit.1 hfit.2 ?_
      exact lw_ret hx hb hr hlocks d_law_1053
    · have hi : i + 6 ≤ L := lw_sub6 hL (by omega) c1
      have hn : n < 512 := by omega
      have kk : ∀ (sx2 : xs_S) (sm2 : ms_S) (adx2 : Nat → Nat) (pr2 : Value) (H1 : Heap) (locs1 : List Loc), R (n + 1) sx2 sm2 → adx2 0 = adx 0 → va_P D vwCl (mm_wr E adx2 (xs_H (.ref 9) (.ref 17) (.ref 9) pr2 sx2) ++ mm_wr E adm (ms_H sm2)) H1 → va_D (fun q : Nat => s.heap.size ≤ q) (mm_wr E adx2 (xs_H (.ref 9) (.ref 17) (.ref 9) pr2 sx2) ++ mm_wr E adm (ms_H sm2)) → va_S (fun q : Nat => s.heap.size ≤ q) s.heap H1 locs1 → W p l e room_1 s m #[Value.ref b] below meth c H1 locs1 cells slots (lw_Z below #[Value.ref b] s) (F0 m 1046 ls []) := by
        intro sx2 sm2 adx2 pr2 H1 locs1 hR2 e0 hP2 hD2 hS2
        refine lv_iinc (v := nI (i + 6)) (lv' := [(3, .int (nI (i + 6))), (0, .ref b), (1, .ref (adx 0)), (2, .ref (adm 0))]) hx hb d_law_1046 hl (k := 3) rfl (Int32.ofNat_add i 6).symm (by decide) rfl (fun ls hl => ?_)
        refine lv_goto (tgt := 18) hx hb d_law_1049 (by decide) ?_
        rw [← e0] at hl
        exact ih (n + 1) (i + 6) (by omega) (by omega) (by omega) sx2 sm2 adx2 pr2 H1 locs1 ls hR2 hP2 hD2 hS2 (lv_sub hl [1, 2, 3, 0] rfl)
      refine lv_aload_n hx hb d_law_27 rfl (lv_at hl 0 rfl) ?_
      refine lv_iload_n hx hb d_law_28 rfl (lv_at hl 3 rfl) ?_
      refine va_sld hx hb hX hbl hbA hS (vp_in_nI (by omega) (by omega)) d_law_29 ?_
      refine lv_bipush (v := 63) hx hb d_law_30 (by decide) ?_
      refine lv_iand hx hb d_law_32 ?_
      obtain ⟨j, hj, ej⟩ := pk_andE (xs (nI i).toNatClampNeg) (m := 63) 6 (by decide)
      rw [ej]
      have hto : (nI j).toInt = (j : Int) := Int32.toInt_ofNat_of_lt (by omega)
      rcases (show j = 0 ∨ j = 1 ∨ j = 2 ∨ j = 3 ∨ j = 4 ∨ j = 5 ∨ j = 6 ∨ j = 7 ∨ j = 8 ∨ j = 9 ∨ j = 10 ∨ j = 11 ∨ j = 12 ∨ j = 13 ∨ j = 14 ∨ j = 15 ∨ j = 16 ∨ j = 17 ∨ j = 18 ∨ j = 19 ∨ j = 20 ∨ j = 21 ∨ j = 22 ∨ j = 23 ∨ j = 24 ∨ j = 25 ∨ j = 26 ∨ j = 27 ∨ j = 28 ∨ j = 29 ∨ j = 30 ∨ j = 31 ∨ j = 32 ∨ j = 33 ∨ j = 34 ∨ j = 35 ∨ 36 ≤ j by omega) with rfl | rfl | rfl | rfl | rfl | rfl | rfl | rfl | rfl | rfl | rfl | rfl | rfl | rfl | rfl | rfl | rfl | rfl | rfl | rfl | rfl | rfl | rfl | rfl | rfl | rfl | rfl | rfl | rfl | rfl | rfl | rfl | rfl | rfl | rfl | rfl | hj36
      · refine lv_tableIn (tgt := 192) hx hb d_law_33 (by decide) (by decide) (show _ = some _ from rfl) (by decide) ?_
        exact lw_k0 Cx hct hR.2.2.1 hn hL hi hfit hRR hP hD hS hl kk
      · refine lv_tableIn (tgt := 255) hx hb d_law_33 (by decide) (by decide) (show _ = some _ from rfl) (by decide) ?_
        exact lw_k1 Cx hct hR.2.2.2.1 hn hL hi hfit hRR hP hD hS hl kk
      · refine lv_tableIn (tgt := 278) hx hb d_law_33 (by decide) (by decide) (show _ = some _ from rfl) (by decide) ?_
        exact lw_k2 Cx hct hR.2.2.2.2.1 hn hL hi hfit hRR hP hD hS hl kk
      · refine lv_tableIn (tgt := 291) hx hb d_law_33 (by decide) (by decide) (show _ = some _ from rfl) (by decide) ?_
        exact lw_k3 Cx hct hR.2.2.2.2.2.1 hn hL hi hfit hRR hP hD hS hl kk
      · refine lv_tableIn (tgt := 304) hx hb d_law_33 (by decide) (by decide) (show _ = some _ from rfl) (by decide) ?_
        exact lw_k4 Cx hct hR.2.2.2.2.2.2.1 hn hL hi hfit hRR hP hD hS hl kk
      · refine lv_tableIn (tgt := 337) hx hb d_law_33 (by decide) (by decide) (show _ = some _ from rfl) (by decide) ?_
        exact lw_k5 Cx hct hR.2.2.2.2.2.2.2.1 hn hL hi hfit hRR hP hD hS hl kk
      · refine lv_tableIn (tgt := 370) hx hb d_law_33 (by decide) (by decide) (show _ = some _ from rfl) (by decide) ?_
        exact lw_k6 Cx hct hR.2.2.2.2.2.2.2.2.1 hn hL hi hfit hRR hP hD hS hl kk
      · refine lv_tableIn (tgt := 393) hx hb d_law_33 (by decide) (by decide) (show _ = some _ from rfl) (by decide) ?_
        exact lw_k7 Cx hct hR.2.2.2.2.2.2.2.2.2.1 hn hL hi hfit hRR hP hD hS hl kk
      · refine lv_tableIn (tgt := 406) hx hb d_law_33 (by decide) (by decide) (show _ = some _ from rfl) (by decide) ?_
        exact lw_k8 Cx hct hR.2.2.2.2.2.2.2.2.2.2.1 hn hL hi hfit hRR hP hD hS hl kk
      · refine lv_tableIn (tgt := 439) hx hb d_law_33 (by decide) (by decide) (show _ = some _ from rfl) (by decide) ?_
        exact lw_k9 Cx hct hR.2.2.2.2.2.2.2.2.2.2.2.1 hn hL hi hfit hRR hP hD hS hl kk
      · refine lv_tableIn (tgt := 452) hx hb d_law_33 (by decide) (by decide) (show _ = some _ from rfl) (by decide) ?_
        exact lw_k10 Cx hct hR.2.2.2.2.2.2.2.2.2.2.2.2.1 hn hL hi hfit hRR hP hD hS hl kk
      · refine lv_tableIn (tgt := 475) hx hb d_law_33 (by decide) (by decide) (show _ = some _ from rfl) (by decide) ?_
        exact lw_k11 Cx hct hR.2.2.2.2.2.2.2.2.2.2.2.2.2.1 hn hL hi hfit hRR hP hD hS hl kk
      · refine lv_tableIn (tgt := 488) hx hb d_law_33 (by decide) (by decide) (show _ = some _ from rfl) (by decide) ?_
        exact lw_k12 Cx hct hR.2.2.2.2.2.2.2.2.2.2.2.2.2.2.1 hn hL hi hfit hRR hP hD hS hl kk
      · refine lv_tableIn (tgt := 501) hx hb d_law_33 (by decide) (by decide) (show _ = some _ from rfl) (by decide) ?_
        exact lw_k13 Cx hct hR.2.2.2.2.2.2.2.2.2.2.2.2.2.2.2.1 hn hL hi hfit hRR hP hD hS hl kk
      · refine lv_tableIn (tgt := 514) hx hb d_law_33 (by decide) (by decide) (show _ = some _ from rfl) (by decide) ?_
        exact lw_k14 Cx hct hR.2.2.2.2.2.2.2.2.2.2.2.2.2.2.2.2.1 hn hL hi hfit hRR hP hD hS hl kk
      · refine lv_tableIn (tgt := 527) hx hb d_law_33 (by decide) (by decide) (show _ = some _ from rfl) (by decide) ?_
        exact lw_k15 Cx hct hR.2.2.2.2.2.2.2.2.2.2.2.2.2.2.2.2.2.1 hn hL hi hfit hRR hP hD hS hl kk
      · refine lv_tableIn (tgt := 540) hx hb d_law_33 (by decide) (by decide) (show _ = some _ from rfl) (by decide) ?_
        exact lw_k16 Cx hct hR.2.2.2.2.2.2.2.2.2.2.2.2.2.2.2.2.2.2.1 hn hL hi hfit hRR hP hD hS hl kk
      · refine lv_tableIn (tgt := 563) hx hb d_law_33 (by decide) (by decide) (show _ = some _ from rfl) (by decide) ?_
        exact lw_k17 Cx hct hR.2.2.2.2.2.2.2.2.2.2.2.2.2.2.2.2.2.2.2.1 hn hL hi hfit hRR hP hD hS hl kk
      · refine lv_tableIn (tgt := 586) hx hb d_law_33 (by decide) (by decide) (show _ = some _ from rfl) (by decide) ?_
        exact lw_k18 Cx hct hR.2.2.2.2.2.2.2.2.2.2.2.2.2.2.2.2.2.2.2.2.1 hn hL hi hfit hRR hP hD hS hl kk
      · refine lv_tableIn (tgt := 609) hx hb d_law_33 (by decide) (by decide) (show _ = some _ from rfl) (by decide) ?_
        exact lw_k19 Cx hct hR.2.2.2.2.2.2.2.2.2.2.2.2.2.2.2.2.2.2.2.2.2.1 hn hL hi hfit hRR hP hD hS hl kk
      · refine lv_tableIn (tgt := 622) hx hb d_law_33 (by decide) (by decide) (show _ = some _ from rfl) (by decide) ?_
        exact lw_k20 Cx hct hR.2.2.2.2.2.2.2.2.2.2.2.2.2.2.2.2.2.2.2.2.2.2.1 hn hL hi hfit hRR hP hD hS hl kk
      · refine lv_tableIn (tgt := 635) hx hb d_law_33 (by decide) (by decide) (show _ = some _ from rfl) (by decide) ?_
        exact lw_k21 Cx hct hR.2.2.2.2.2.2.2.2.2.2.2.2.2.2.2.2.2.2.2.2.2.2.2.1 hn hL hi hfit hRR hP hD hS hl kk
      · refine lv_tableIn (tgt := 648) hx hb d_law_33 (by decide) (by decide) (show _ = some _ from rfl) (by decide) ?_
        exact lw_k22 Cx hct hR.2.2.2.2.2.2.2.2.2.2.2.2.2.2.2.2.2.2.2.2.2.2.2.2.1 hn hL hi hfit hRR hP hD hS hl kk
      · refine lv_tableIn (tgt := 661) hx hb d_law_33 (by decide) (by decide) (show _ = some _ from rfl) (by decide) ?_
        exact lw_k23 Cx hct hR.2.2.2.2.2.2.2.2.2.2.2.2.2.2.2.2.2.2.2.2.2.2.2.2.2.1 hn hL hi hfit hRR hP hD hS hl kk
      · refine lv_tableIn (tgt := 684) hx hb d_law_33 (by decide) (by decide) (show _ = some _ from rfl) (by decide) ?_
        exact lw_k24 Cx hct hR.2.2.2.2.2.2.2.2.2.2.2.2.2.2.2.2.2.2.2.2.2.2.2.2.2.2.1 hn hL hi hfit hRR hP hD hS hl kk
      · refine lv_tableIn (tgt := 717) hx hb d_law_33 (by decide) (by decide) (show _ = some _ from rfl) (by decide) ?_
        exact lw_k25 Cx hct hR.2.2.2.2.2.2.2.2.2.2.2.2.2.2.2.2.2.2.2.2.2.2.2.2.2.2.2.1 hn hL hi hfit hRR hP hD hS hl kk
      · refine lv_tableIn (tgt := 740) hx hb d_law_33 (by decide) (by decide) (show _ = some _ from rfl) (by decide) ?_
        exact lw_k26 Cx hct hR.2.2.2.2.2.2.2.2.2.2.2.2.2.2.2.2.2.2.2.2.2.2.2.2.2.2.2.2.1 hn hL hi hfit hRR hP hD hS hl kk
      · refine lv_tableIn (tgt := 763) hx hb d_law_33 (by decide) (by decide) (show _ = some _ from rfl) (by decide) ?_
        exact lw_k27 Cx hct hR.2.2.2.2.2.2.2.2.2.2.2.2.2.2.2.2.2.2.2.2.2.2.2.2.2.2.2.2.2.1 hn hL hi hfit hRR hP hD hS hl kk
      · refine lv_tableIn (tgt := 786) hx hb d_law_33 (by decide) (by decide) (show _ = some _ from rfl) (by decide) ?_
        exact lw_k28 Cx hct hR.2.2.2.2.2.2.2.2.2.2.2.2.2.2.2.2.2.2.2.2.2.2.2.2.2.2.2.2.2.2.1 hn hL hi hfit hRR hP hD hS hl kk
      · refine lv_tableIn (tgt := 819) hx hb d_law_33 (by decide) (by decide) (show _ = some _ from rfl) (by decide) ?_
        exact lw_k29 Cx hct hR.2.2.2.2.2.2.2.2.2.2.2.2.2.2.2.2.2.2.2.2.2.2.2.2.2.2.2.2.2.2.2.1 hn hL hi hfit hRR hP hD hS hl kk
      · refine lv_tableIn (tgt := 878) hx hb d_law_33 (by decide) (by decide) (show _ = some _ from rfl) (by decide) ?_
        exact lw_k30 Cx hct hR.2.2.2.2.2.2.2.2.2.2.2.2.2.2.2.2.2.2.2.2.2.2.2.2.2.2.2.2.2.2.2.2.1 hn hL hi hfit hRR hP hD hS hl kk
      · refine lv_tableIn (tgt := 891) hx hb d_law_33 (by decide) (by decide) (show _ = some _ from rfl) (by decide) ?_
        exact lw_k31 Cx hct hR.2.2.2.2.2.2.2.2.2.2.2.2.2.2.2.2.2.2.2.2.2.2.2.2.2.2.2.2.2.2.2.2.2.1 hn hL hi hfit hRR hP hD hS hl kk
      · refine lv_tableIn (tgt := 934) hx hb d_law_33 (by decide) (by decide) (show _ = some _ from rfl) (by decide) ?_
        exact lw_k32 Cx hct hR.2.2.2.2.2.2.2.2.2.2.2.2.2.2.2.2.2.2.2.2.2.2.2.2.2.2.2.2.2.2.2.2.2.2.1 hn hL hi hfit hRR hP hD hS hl kk
      · refine lv_tableIn (tgt := 977) hx hb d_law_33 (by decide) (by decide) (show _ = some _ from rfl) (by decide) ?_
        exact lw_k33 Cx hct hR.2.2.2.2.2.2.2.2.2.2.2.2.2.2.2.2.2.2.2.2.2.2.2.2.2.2.2.2.2.2.2.2.2.2.2.1 hn hL hi hfit hRR hP hD hS hl kk
      · refine lv_tableIn (tgt := 1000) hx hb d_law_33 (by decide) (by decide) (show _ = some _ from rfl) (by decide) ?_
        exact lw_k34 Cx hct hR.2.2.2.2.2.2.2.2.2.2.2.2.2.2.2.2.2.2.2.2.2.2.2.2.2.2.2.2.2.2.2.2.2.2.2.2.1 hn hL hi hfit hRR hP hD hS hl kk
      · refine lv_tableIn (tgt := 1023) hx hb d_law_33 (by decide) (by decide) (show _ = some _ from rfl) (by decide) ?_
        exact lw_k35 Cx hct hR.2.2.2.2.2.2.2.2.2.2.2.2.2.2.2.2.2.2.2.2.2.2.2.2.2.2.2.2.2.2.2.2.2.2.2.2.2 hn hL hi hfit hRR hP hD hS hl kk
      · refine lv_tableOut (tgt := 1046) hx hb d_law_33 (Or.inr (by rw [hto]; omega)) (by decide) ?_
        exact kk sx sm adx pr H locs (hR.1 n sx sm hRR hn) rfl hP hD hS
/-- the numbers of the classes and of the rows' classes at the law's start -/
theorem lw_known {s : State} {b : Nat} (hts : ∀ w ∈ lw_tbl, w.before #[Value.ref b] s = true) : ∃ (D : va_G) (E : Nat → ClassId), va_K D vwCl (mm_ty E) s := by
  have hts2 : ∀ w ∈ mm_tG, w.before #[Value.ref b] s = true := fun w hw => hts w (mm_tg hw).1
  have h0 : ∀ k : Nat, ∃ q : ClassId × (Nat → Nat), ∀ r : vw_C, vwCl[k]? = some r → u_Kn s r.1 r.2.1 r.2.2 q.1 q.2 := by
    intro k
    by_cases hk : k < 13
    · obtain ⟨CC, TT, NN, ty, g1, g2, g3, g4, g5, g6, g7, g8, g9, g10⟩ := mm_cls k hk
      obtain ⟨cC, iS, hq⟩ := u_known (n := NN) hts2 g4 (hts2 _ g10)
      refine ⟨(cC, iS), fun r hr => ?_⟩
      rw [g1] at hr
      cases hr
      exact hq
    · refine ⟨(0, fun _ => 0), fun r hr => ?_⟩
      have h9 : k < vwCl.length := (List.getElem?_eq_some_iff.mp hr).1
      exact absurd h9 (by show ¬ k < 13; exact hk)
  obtain ⟨f, hf⟩ := Classical.axiomOfChoice h0
  have w0 : (Cond.arrayClass .int).before #[Value.ref b] s = true := hts _ (List.mem_of_getElem? (i := 183) (by decide +kernel))
  have w1 : (Cond.arrayClass .byte).before #[Value.ref b] s = true := hts _ (List.mem_of_getElem? (i := 182) (by decide +kernel))
  have w2 : (Cond.arrayClass .boolean).before #[Value.ref b] s = true := hts _ (List.mem_of_getElem? (i := 385) (by decide +kernel))
  have w3 : (Cond.arrayClass .long).before #[Value.ref b] s = true := hts _ (List.mem_of_getElem? (i := 184) (by decide +kernel))
  have w4 : (Cond.arrayOver (.object RX2)).before #[Value.ref b] s = true := hts _ (List.mem_of_getElem? (i := 345) (by decide +kernel))
  obtain ⟨c0, k0, p0, x0, y0, z0⟩ := Cond.arrayClass_spec w0
  obtain ⟨c1, k1, p1, x1, y1, z1⟩ := Cond.arrayClass_spec w1
  obtain ⟨c2, k2, p2, x2, y2, z2⟩ := Cond.arrayClass_spec w2
  obtain ⟨c3, k3, p3, x3, y3, z3⟩ := Cond.arrayClass_spec w3
  obtain ⟨p4, c4, k4, q4, -, y4, z4, x4⟩ := Cond.arrayOver_spec w4
  refine ⟨((fun k => (f k).1), (fun k => (f k).2)), (fun k => match k with | 0 => c0 | 1 => c1 | 2 => c2 | 3 => c3 | _ => c4), fun k r hr => hf k r hr, fun k q hq => ?_⟩
  match k, hq with
  | 0, hq => cases hq; exact ⟨fun n z => ⟨fun k h => (by cases h), k0, y0, p0, z0⟩, x0⟩
  | 1, hq => cases hq; exact ⟨fun n z => ⟨fun k h => (by cases h), k1, y1, p1, z1⟩, x1⟩
  | 2, hq => cases hq; exact ⟨fun n z => ⟨fun k h => (by cases h), k2, y2, p2, z2⟩, x2⟩
  | 3, hq => cases hq; exact ⟨fun n z => ⟨fun k h => (by cases h), k3, y3, p3, z3⟩, x3⟩
  | 4, hq => cases hq; exact ⟨fun n z => ⟨fun k h => (by cases h), k4, y4, p4, z4⟩, k4, p4, y4, z4, q4, x4⟩
  | k + 5, hq => simp [mm_ty] at hq
theorem lw_lnX : Cond.methodLink R_law 9 (mm_y 224) ∈ lw_tbl := List.mem_of_getElem? (i := 145) (by decide +kernel)
theorem lw_lnM : Cond.methodLink R_law 12 (mm_y 0) ∈ lw_tbl := List.mem_of_getElem? (i := 1275) (by decide +kernel)
theorem lw_clX : Cond.classLink R_law 7 RX11 ∈ lw_tbl := List.mem_of_getElem? (i := 143) (by decide +kernel)
theorem lw_clM : Cond.classLink R_law 10 RX12 ∈ lw_tbl := List.mem_of_getElem? (i := 1273) (by decide +kernel)
theorem lw_one {E : Nat → ClassId} {ad : Nat → Nat} {ci q : Nat} (h : ci < 13) (e : ad 0 = q) : mm_wr E ad [.inr (ci, mm_Fk ci)] = [(q, .inr (ci, mm_Fk ci))] := by
  show [(ad 0, mm_er E ad (.inr (ci, mm_Fk ci)))] = _
  simp only [mm_er]
  rw [mm_Fk_vr _ h, e]
set_option maxHeartbeats 4000000 in
set_option maxRecDepth 100000 in
/-- THE LAW, from its entry, out of a relation between the two objects -/
theorem lw_start {p : Program} {e : Env} {s : State} {m : MethodId} {below : List Frame} {meth : Method} {c : Code} (l : Launch) {b L : Nat} {xs : Nat → Int32} {D : va_G} {E : Nat → ClassId} {Xt : mm_Xt} (hL : L ≤ 3072) (Cx : lw_Cx p s m meth c b L xs D E Xt) (hct : ∀ (d mi : Nat) (as : List Value) (h : mm_H) (Q : mm_R), mm_ct xB mm_Mk mm_Fk mm_PC d mi as h Q → ∃ t1, mm_at mm_T mi = some t1 ∧ t1.2.2.1 ≤ 40 ∧ mm_Met l D E Xt (d + 12) t1 (mm_Mk mi).1 (mm_Mk mi).2 as h Q) {R : Nat → xs_S → ms_S → Prop} (hR : lw_sims2 R) : W p l e room_1 s m #[Value.ref b] below meth c s.heap [] 0 0 (lw_Z below #[Value.ref b] s) (entryFrame m ([Value.ref b] : List Value).toArray 4) := by
  obtain ⟨⟨hx, hb, hr, hml, hown, hts0, hX, hbl, hlocks, hgv⟩, hK, hXt, hXok⟩ := id Cx
  have hts : ∀ w ∈ mm_tG, w.before #[Value.ref b] s = true := fun w hw => hts0 w (mm_tg hw).1
  have hA : ∀ q : Nat, s.heap.size ≤ q → (fun q : Nat => s.heap.size ≤ q) q := fun _ h => h
  obtain ⟨sx, sm, hfx, hfm, hR0⟩ := hR.2.1
  have hS : va_S (fun q : Nat => s.heap.size ≤ q) s.heap s.heap [] := va_S.rf
  have hP : va_P D vwCl [] s.heap := fun k q h => by simp at h
  have hD : va_D (fun q : Nat => s.heap.size ≤ q) [] := ⟨fun i j p q h => by simp at h, fun k q h => by simp at h⟩
  have hl := lv_entry ([.ref b]) (n := 4) (Nat.le_of_ble_eq_true rfl)
  rw [lg_entry_eq]
  generalize (lg_sl ([.ref b]) ++ List.replicate (4 - (lg_sl ([.ref b])).length) Slot.unset).toArray = ls at hl ⊢
  have hl : lv_has ls 4 [(0, .ref b)] := hl
  obtain ⟨x1, x2, x3, x4, x5, x6, x7, x8, x9, x10⟩ := mm_clp11
  refine va_new (ci := 11) (fs := mm_Fk 11) hx hb hts x4 tyX11 x5 hown (hts0 _ lw_clX) (hts _ x10) (hts _ x9) hK hP hD hS hA x1 x7 (Nat.le_of_ble_eq_true rfl) (Nat.le_of_ble_eq_true rfl) d_law_0 (fun q0 H hP hD hS => ?_)
  refine lv_dup hx hb d_law_3 rfl ?_
  have hPx : va_P D vwCl (mm_wr E (fun _ => q0) [.inr (11, mm_Fk 11)] ++ []) H := by rw [lw_one (by decide) rfl]; exact hP
  have hDx : va_D (fun q : Nat => s.heap.size ≤ q) (mm_wr E (fun _ => q0) [.inr (11, mm_Fk 11)] ++ []) := by rw [lw_one (by decide) rfl]; exact hD
  refine lw_icall Cx (ad := fun _ => q0) (h := [.inr (11, mm_Fk 11)]) (w2 := []) (rest := [.ref q0]) (Q := fun v2 h2 => v2 = none ∧ h2 = xs_H (.ref 9) (.ref 17) (.ref 9) .null sx) (hct (0 + 5) 224 _ _ _ (xt_init xB 0 sx _ hfx ⟨rfl, rfl⟩)) (mc := 138) (ms := 8975) (by decide +kernel) (ci := 11) (by decide +kernel) (by decide) lw_lnX (by decide) (Nat.le_of_ble_eq_true rfl) hl.1 d_law_4 hPx hDx hS ⟨Nat.le_of_ble_eq_true rfl, Nat.le_of_ble_eq_true rfl⟩ (fun v2 h2 adx H1 locs1 hq e0 hP hD hS => ?_)
  obtain ⟨rfl, rfl⟩ := hq
  show W p l e room_1 s m #[Value.ref b] below meth c H1 locs1 (0 + 1 + 138) (0 + 15 + 8975) (lw_Z below #[Value.ref b] s) (F0 m 7 ls [.ref q0])
  refine lv_astore_n (lv' := [(1, .ref q0), (0, .ref b)]) hx hb d_law_7 rfl hl (by decide) rfl (fun ls hl => ?_)
  rw [List.append_nil] at hP hD
  obtain ⟨y1, y2, y3, y4, y5, y6, y7, y8, y9, y10⟩ := mm_clp12
  refine va_new (ci := 12) (fs := mm_Fk 12) hx hb hts y4 tyX12 y5 hown (hts0 _ lw_clM) (hts _ y10) (hts _ y9) hK hP hD hS hA y1 y7 (Nat.le_of_ble_eq_true rfl) (Nat.le_of_ble_eq_true rfl) d_law_8 (fun q1 H hP hD hS => ?_)
  refine lv_dup hx hb d_law_11 rfl ?_
  obtain ⟨hP, hD⟩ := lw_comm hP hD
  have hPx : va_P D vwCl (mm_wr E (fun _ => q1) [.inr (12, mm_Fk 12)] ++ mm_wr E adx (xs_H (.ref 9) (.ref 17) (.ref 9) .null sx)) H := by rw [lw_one (by decide) rfl]; exact hP
  have hDx : va_D (fun q : Nat => s.heap.size ≤ q) (mm_wr E (fun _ => q1) [.inr (12, mm_Fk 12)] ++ mm_wr E adx (xs_H (.ref 9) (.ref 17) (.ref 9) .null sx)) := by rw [lw_one (by decide) rfl]; exact hD
  refine lw_icall Cx (ad := fun _ => q1) (h := [.inr (12, mm_Fk 12)]) (w2 := mm_wr E adx (xs_H (.ref 9) (.ref 17) (.ref 9) .null sx)) (rest := [.ref q1]) (Q := fun v2 h2 => v2 = none ∧ h2 = ms_H sm) (hct (0 + 3) 0 _ _ _ (mt_init xB 0 sm _ hfm ⟨rfl, rfl⟩)) (mc := 49) (ms := 13637) (by decide +kernel) (ci := 12) (by decide +kernel) (by decide) lw_lnM (by decide) (Nat.le_of_ble_eq_true rfl) hl.1 d_law_12 hPx hDx hS ⟨Nat.le_of_ble_eq_true rfl, Nat.le_of_ble_eq_true rfl⟩ (fun v2 h2 adm H1 locs1 hq e1 hP hD hS => ?_)
  obtain ⟨rfl, rfl⟩ := hq
  obtain ⟨hP, hD⟩ := lw_comm hP hD
  show W p l e room_1 s m #[Value.ref b] below meth c H1 locs1 (0 + 1 + 138 + 1 + 49) (0 + 15 + 8975 + 72 + 13637) (lw_Z below #[Value.ref b] s) (F0 m 15 ls [.ref q1])
  refine lv_astore_n (lv' := [(2, .ref q1), (1, .ref q0), (0, .ref b)]) hx hb d_law_15 rfl hl (by decide) rfl (fun ls hl => ?_)
  refine lv_iconst (v := 0) hx hb d_law_16 (by decide) ?_
  refine lv_istore_n (lv' := [(3, .int 0), (2, .ref q1), (1, .ref q0), (0, .ref b)]) hx hb d_law_17 rfl hl (by decide) rfl (fun ls hl => ?_)
  have e0 : q0 = adx 0 := e0.symm
  have e1 : q1 = adm 0 := e1.symm
  rw [e0, e1] at hl
  exact lw_loop Cx hct hR hL ⟨Nat.le_of_ble_eq_true rfl, Nat.le_of_ble_eq_true rfl⟩ 513 0 0 (by omega) rfl (by omega) sx sm adx .null H1 locs1 ls hR0 hP hD hS (lv_sub hl [3, 2, 1, 0] rfl)
