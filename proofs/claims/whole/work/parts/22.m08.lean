/-! the reference, method by method, 8 -/
-- X12_ways
noncomputable def mf_ways (s : ms_S) (a0 : Int32) : Option (Int32 × ms_S) :=
((mf_isFew (a0)).bind fun v_1 =>
(if v_1 = (0 : Int32) then
some ((-1 : Int32), s)
else
((mf_rowsOf s (a0) ((0 : Int32))).bind fun (v_3, s_3) =>
some (v_3, s_3))))
set_option maxHeartbeats 4000000 in
theorem mb_ways {C : mm_C} {Q : mm_R} (h_isFew : mk_isFew C) (h_rowsOf : mk_rowsOf C) (s : ms_S) (a0 : Int32) (v : Int32) (s2 : ms_S) (hf : mf_ways s a0 = some (v, s2)) (hK : Q (some (.int v)) (ms_H s2)) : mm_go C mm_Mk mm_Fk P_X12_ways Q P_X12_ways [(0, .ref 0), (1, .int a0)] [] (ms_H s) 0 0 := by
  unfold mf_ways at hf
  obtain ⟨v_1, hr_1, hf⟩ := mo_bind hf
  by_cases c_2 : v_1 = (0 : Int32)
  · have hf := mo_pos hf c_2
    obtain ⟨rfl, rfl⟩ := mo_pair hf
    exact ⟨5, (h_isFew _ (a0) v_1 _ hr_1 (And.intro (fun _ => hK) (fun q => absurd c_2 q)))⟩
  · have hf := mo_neg hf c_2
    obtain ⟨r_3, hr_3, hf⟩ := mo_bind hf
    obtain ⟨v_3, s_3⟩ := r_3
    obtain ⟨rfl, rfl⟩ := mo_pair hf
    exact ⟨9, (h_isFew _ (a0) v_1 _ hr_1 (And.intro (fun q => absurd q c_2) (fun _ => (h_rowsOf s (a0) ((0 : Int32)) v_3 s_3 _ hr_3 hK))))⟩
def mk_ways (C : mm_C) : Prop := ∀ (s : ms_S) (a0 : Int32) (v : Int32) (s2 : ms_S) (Q : mm_R), mf_ways s a0 = some (v, s2) → Q (some (.int v)) (ms_H s2) → C 93 [.ref 0, .int a0] (ms_H s) Q
set_option maxRecDepth 100000 in
theorem mt_ways (B : mm_C) (d : Nat) : mk_ways (mm_ct B mm_Mk mm_Fk mm_PC (d + 9)) := fun s a0 v s2 Q hf hK => Or.inr (mb_ways (mt_isFew B (d + 6)) (mt_rowsOf B (d + 0)) s a0 v s2 hf hK)
-- X12_waking
noncomputable def mf_waking (s : ms_S) (a0 : Int32) : Option (Int32 × ms_S) :=
((mf_isFew (a0)).bind fun v_1 =>
(if v_1 = (0 : Int32) then
some ((-1 : Int32), s)
else
((mf_rowsOf s (a0) ((1 : Int32))).bind fun (v_3, s_3) =>
some (v_3, s_3))))
set_option maxHeartbeats 4000000 in
theorem mb_waking {C : mm_C} {Q : mm_R} (h_isFew : mk_isFew C) (h_rowsOf : mk_rowsOf C) (s : ms_S) (a0 : Int32) (v : Int32) (s2 : ms_S) (hf : mf_waking s a0 = some (v, s2)) (hK : Q (some (.int v)) (ms_H s2)) : mm_go C mm_Mk mm_Fk P_X12_waking Q P_X12_waking [(0, .ref 0), (1, .int a0)] [] (ms_H s) 0 0 := by
  unfold mf_waking at hf
  obtain ⟨v_1, hr_1, hf⟩ := mo_bind hf
  by_cases c_2 : v_1 = (0 : Int32)
  · have hf := mo_pos hf c_2
    obtain ⟨rfl, rfl⟩ := mo_pair hf
    exact ⟨5, (h_isFew _ (a0) v_1 _ hr_1 (And.intro (fun _ => hK) (fun q => absurd c_2 q)))⟩
  · have hf := mo_neg hf c_2
    obtain ⟨r_3, hr_3, hf⟩ := mo_bind hf
    obtain ⟨v_3, s_3⟩ := r_3
    obtain ⟨rfl, rfl⟩ := mo_pair hf
    exact ⟨9, (h_isFew _ (a0) v_1 _ hr_1 (And.intro (fun q => absurd q c_2) (fun _ => (h_rowsOf s (a0) ((1 : Int32)) v_3 s_3 _ hr_3 hK))))⟩
def mk_waking (C : mm_C) : Prop := ∀ (s : ms_S) (a0 : Int32) (v : Int32) (s2 : ms_S) (Q : mm_R), mf_waking s a0 = some (v, s2) → Q (some (.int v)) (ms_H s2) → C 94 [.ref 0, .int a0] (ms_H s) Q
set_option maxRecDepth 100000 in
theorem mt_waking (B : mm_C) (d : Nat) : mk_waking (mm_ct B mm_Mk mm_Fk mm_PC (d + 9)) := fun s a0 v s2 Q hf hK => Or.inr (mb_waking (mt_isFew B (d + 6)) (mt_rowsOf B (d + 0)) s a0 v s2 hf hK)
-- X12_goesThrough
noncomputable def mf_goesThrough_l6  : (Int32 × ms_S) → Option ((Int32 × ms_S) ⊕ ((ms_S))) := fun (w1, s) =>
(if (294 : Int32) ≤ w1 then
some (.inr (s))
else
(bif mo_in w1 294 then some (.inl ((w1 + (1 : Int32)), (ms_sA s 58 (upd (s.2.1 58) (w1).toNatClampNeg ((-1 : Int32)))))) else none))
set_option maxHeartbeats 4000000 in
theorem mb_goesThrough_l6 {C : mm_C} {Q : mm_R} (h_copies : mk_copies C) (h_fillsThen : mk_fillsThen C) (h_numberNow : mk_numberNow C)  (t : Int32 × ms_S) (x : (ms_S)) (hl : mo_loop (mf_goesThrough_l6 ) t = some x) (hK : (fun sy => mm_go C mm_Mk mm_Fk P_X12_goesThrough Q (P_X12_goesThrough.drop 16) [(0, .ref 0)] [] (ms_H sy) 0 0) x) : (mo_c2 (fun y1 sy => mm_go C mm_Mk mm_Fk P_X12_goesThrough Q (P_X12_goesThrough.drop 6) [(0, .ref 0), (1, .int y1)] [] (ms_H sy) 0 0)) t := by
  refine mo_loop_go (G := (mo_c2 (fun y1 sy => mm_go C mm_Mk mm_Fk P_X12_goesThrough Q (P_X12_goesThrough.drop 6) [(0, .ref 0), (1, .int y1)] [] (ms_H sy) 0 0)) ) (K := (fun sy => mm_go C mm_Mk mm_Fk P_X12_goesThrough Q (P_X12_goesThrough.drop 16) [(0, .ref 0)] [] (ms_H sy) 0 0) ) ?_ t x hl hK
  intro t r hf hK
  obtain ⟨w1, s⟩ := t
  unfold mf_goesThrough_l6 at hf
  by_cases c_3 : (294 : Int32) ≤ w1
  · have hf := mo_pos hf c_3
    obtain rfl := Option.some.inj hf
    refine mm_adv 3 (cs' := P_X12_goesThrough.drop 16) (l' := [(0, .ref 0), (1, .int w1)]) (st' := []) (h' := ms_H s) (bc' := 0) (bs' := 0) (fun n g => (And.intro (fun _ => g) (fun q => absurd c_3 q))) ?_
    exact mm_re (c := [(0, .ref 0)]) hK rfl rfl
  · have hf := mo_neg hf c_3
    obtain ⟨hi_4, hf⟩ := mo_if hf
    obtain rfl := Option.some.inj hf
    refine mm_adv 10 (cs' := P_X12_goesThrough.drop 6) (l' := [(1, .int (w1 + (1 : Int32))), (0, .ref 0)]) (st' := []) (h' := ms_H (ms_sA s 58 (upd (s.2.1 58) (w1).toNatClampNeg ((-1 : Int32))))) (bc' := 0) (bs' := 0) (fun n g => (And.intro (fun q => absurd q c_3) (fun _ => (And.intro hi_4 g)))) ?_
    exact mm_re (c := [(0, .ref 0), (1, .int (w1 + (1 : Int32)))]) hK rfl rfl
noncomputable def mf_goesThrough_j87 (s : ms_S) (v1 : Int32) (v2 : Int32) : Option ((Int32 × ms_S) ⊕ ((ms_S))) :=
some (.inl ((v2 + (1 : Int32)), s))
set_option maxHeartbeats 4000000 in
theorem mb_goesThrough_j87 {C : mm_C} {Q : mm_R} (h_copies : mk_copies C) (h_fillsThen : mk_fillsThen C) (h_numberNow : mk_numberNow C) (s : ms_S) (v1 : Int32) (v2 : Int32) (r : (Int32 × ms_S) ⊕ ((ms_S))) (hf : mf_goesThrough_j87 s v1 v2 = some r) (hK : mo_sum (mo_c2 (fun y2 sy => mm_go C mm_Mk mm_Fk P_X12_goesThrough Q (P_X12_goesThrough.drop 39) [(0, .ref 0), (1, .int v1), (2, .int y2)] [] (ms_H sy) 0 0))  (fun sy => mm_go C mm_Mk mm_Fk P_X12_goesThrough Q (P_X12_goesThrough.drop 89) [(0, .ref 0), (1, .int v1)] [] (ms_H sy) 0 0)  r) : mm_go C mm_Mk mm_Fk P_X12_goesThrough Q (P_X12_goesThrough.drop 87) [(0, .ref 0), (1, .int v1), (2, .int v2)] [] (ms_H s) 0 0 := by
  unfold mf_goesThrough_j87 at hf
  obtain rfl := Option.some.inj hf
  refine mm_adv 2 (cs' := P_X12_goesThrough.drop 39) (l' := [(2, .int (v2 + (1 : Int32))), (0, .ref 0), (1, .int v1)]) (st' := []) (h' := ms_H s) (bc' := 0) (bs' := 0) (fun n g => g) ?_
  exact mm_re (c := [(0, .ref 0), (1, .int v1), (2, .int (v2 + (1 : Int32)))]) hK rfl rfl
noncomputable def mf_goesThrough_l39 (v1 : Int32) : (Int32 × ms_S) → Option ((Int32 × ms_S) ⊕ ((ms_S))) := fun (w2, s) =>
(if (7 : Int32) ≤ w2 then
some (.inr (s))
else
((mo_ag 294 (s.2.1 59) v1).bind fun x_11 =>
((mo_ag 2058 (s.2.1 51) (((7 : Int32) * x_11) + w2)).bind fun x_12 =>
(if x_12 < (0 : Int32) then
(mf_goesThrough_j87 (s) (v1) (w2))
else
((mo_ag 294 (s.2.1 58) x_12).bind fun x_14 =>
(if x_14 < (0 : Int32) then
((mo_ag 294 (s.2.1 59) v1).bind fun x_16 =>
((mo_ag 294 (s.2.1 58) x_16).bind fun x_17 =>
(bif mo_in x_12 294 then (bif mo_in (s.1 60) 294 then (mf_goesThrough_j87 ((ms_sA (ms_sA (ms_sI s 60 (((s.1 60) + (1 : Int32)))) 58 (upd (s.2.1 58) (x_12).toNatClampNeg ((x_17 + (1 : Int32))))) 59 (upd (s.2.1 59) ((s.1 60)).toNatClampNeg (x_12)))) (v1) (w2)) else none) else none)))
else
(mf_goesThrough_j87 (s) (v1) (w2))))))))
set_option maxHeartbeats 4000000 in
theorem mb_goesThrough_l39 {C : mm_C} {Q : mm_R} (h_copies : mk_copies C) (h_fillsThen : mk_fillsThen C) (h_numberNow : mk_numberNow C) (v1 : Int32) (t : Int32 × ms_S) (x : (ms_S)) (hl : mo_loop (mf_goesThrough_l39 v1) t = some x) (hK : (fun sy => mm_go C mm_Mk mm_Fk P_X12_goesThrough Q (P_X12_goesThrough.drop 89) [(0, .ref 0), (1, .int v1)] [] (ms_H sy) 0 0) x) : (mo_c2 (fun y2 sy => mm_go C mm_Mk mm_Fk P_X12_goesThrough Q (P_X12_goesThrough.drop 39) [(0, .ref 0), (1, .int v1), (2, .int y2)] [] (ms_H sy) 0 0)) t := by
  refine mo_loop_go (G := (mo_c2 (fun y2 sy => mm_go C mm_Mk mm_Fk P_X12_goesThrough Q (P_X12_goesThrough.drop 39) [(0, .ref 0), (1, .int v1), (2, .int y2)] [] (ms_H sy) 0 0)) ) (K := (fun sy => mm_go C mm_Mk mm_Fk P_X12_goesThrough Q (P_X12_goesThrough.drop 89) [(0, .ref 0), (1, .int v1)] [] (ms_H sy) 0 0) ) ?_ t x hl hK
  intro t r hf hK
  obtain ⟨w2, s⟩ := t
  unfold mf_goesThrough_l39 at hf
  by_cases c_10 : (7 : Int32) ≤ w2
  · have hf := mo_pos hf c_10
    obtain rfl := Option.some.inj hf
    refine mm_adv 3 (cs' := P_X12_goesThrough.drop 89) (l' := [(0, .ref 0), (1, .int v1), (2, .int w2)]) (st' := []) (h' := ms_H s) (bc' := 0) (bs' := 0) (fun n g => (And.intro (fun _ => g) (fun q => absurd c_10 q))) ?_
    exact mm_re (c := [(0, .ref 0), (1, .int v1)]) hK rfl rfl
  · have hf := mo_neg hf c_10
    obtain ⟨x_11, hx_11, hf⟩ := mo_bind hf
    obtain ⟨hi_11, rfl⟩ := mo_ag_inv hx_11
    obtain ⟨x_12, hx_12, hf⟩ := mo_bind hf
    obtain ⟨hi_12, rfl⟩ := mo_ag_inv hx_12
    by_cases c_13 : ((s.2.1 51) ((((7 : Int32) * ((s.2.1 59) (v1).toNatClampNeg)) + w2)).toNatClampNeg) < (0 : Int32)
    · have hf := mo_pos hf c_13
      refine mm_adv 17 (cs' := P_X12_goesThrough.drop 87) (l' := [(3, .int ((s.2.1 51) ((((7 : Int32) * ((s.2.1 59) (v1).toNatClampNeg)) + w2)).toNatClampNeg)), (0, .ref 0), (1, .int v1), (2, .int w2)]) (st' := []) (h' := ms_H s) (bc' := 0) (bs' := 0) (fun n g => (And.intro (fun q => absurd q c_10) (fun _ => (And.intro hi_11 (And.intro hi_12 (And.intro (fun _ => g) (fun q => absurd c_13 q))))))) ?_
      refine mm_re (l' := [(0, .ref 0), (1, .int v1), (2, .int w2)]) (c := [(0, .ref 0), (1, .int v1), (2, .int w2)]) ?_ rfl rfl
      exact mb_goesThrough_j87 h_copies h_fillsThen h_numberNow s (v1) (w2) _ hf hK
    · have hf := mo_neg hf c_13
      obtain ⟨x_14, hx_14, hf⟩ := mo_bind hf
      obtain ⟨hi_14, rfl⟩ := mo_ag_inv hx_14
      by_cases c_15 : ((s.2.1 58) (((s.2.1 51) ((((7 : Int32) * ((s.2.1 59) (v1).toNatClampNeg)) + w2)).toNatClampNeg)).toNatClampNeg) < (0 : Int32)
      · have hf := mo_pos hf c_15
        obtain ⟨x_16, hx_16, hf⟩ := mo_bind hf
        obtain ⟨hi_16, rfl⟩ := mo_ag_inv hx_16
        obtain ⟨x_17, hx_17, hf⟩ := mo_bind hf
        obtain ⟨hi_17, rfl⟩ := mo_ag_inv hx_17
        obtain ⟨hi_18, hf⟩ := mo_if hf
        obtain ⟨hi_19, hf⟩ := mo_if hf
        refine mm_adv 47 (cs' := P_X12_goesThrough.drop 87) (l' := [(3, .int ((s.2.1 51) ((((7 : Int32) * ((s.2.1 59) (v1).toNatClampNeg)) + w2)).toNatClampNeg)), (0, .ref 0), (1, .int v1), (2, .int w2)]) (st' := []) (h' := ms_H (ms_sA (ms_sA (ms_sI s 60 (((s.1 60) + (1 : Int32)))) 58 (upd (s.2.1 58) (((s.2.1 51) ((((7 : Int32) * ((s.2.1 59) (v1).toNatClampNeg)) + w2)).toNatClampNeg)).toNatClampNeg ((((s.2.1 58) (((s.2.1 59) (v1).toNatClampNeg)).toNatClampNeg) + (1 : Int32))))) 59 (upd (s.2.1 59) ((s.1 60)).toNatClampNeg (((s.2.1 51) ((((7 : Int32) * ((s.2.1 59) (v1).toNatClampNeg)) + w2)).toNatClampNeg))))) (bc' := 0) (bs' := 0) (fun n g => (And.intro (fun q => absurd q c_10) (fun _ => (And.intro hi_11 (And.intro hi_12 (And.intro (fun q => absurd q c_13) (fun _ => (And.intro hi_14 (And.intro (fun _ => (And.intro hi_16 (And.intro hi_17 (And.intro hi_18 (And.intro hi_19 (And.intro trivial g)))))) (fun q => absurd c_15 q)))))))))) ?_
        refine mm_re (l' := [(0, .ref 0), (1, .int v1), (2, .int w2)]) (c := [(0, .ref 0), (1, .int v1), (2, .int w2)]) ?_ rfl rfl
        exact mb_goesThrough_j87 h_copies h_fillsThen h_numberNow (ms_sA (ms_sA (ms_sI s 60 (((s.1 60) + (1 : Int32)))) 58 (upd (s.2.1 58) (((s.2.1 51) ((((7 : Int32) * ((s.2.1 59) (v1).toNatClampNeg)) + w2)).toNatClampNeg)).toNatClampNeg ((((s.2.1 58) (((s.2.1 59) (v1).toNatClampNeg)).toNatClampNeg) + (1 : Int32))))) 59 (upd (s.2.1 59) ((s.1 60)).toNatClampNeg (((s.2.1 51) ((((7 : Int32) * ((s.2.1 59) (v1).toNatClampNeg)) + w2)).toNatClampNeg)))) (v1) (w2) _ hf hK
      · have hf := mo_neg hf c_15
        refine mm_adv 23 (cs' := P_X12_goesThrough.drop 87) (l' := [(3, .int ((s.2.1 51) ((((7 : Int32) * ((s.2.1 59) (v1).toNatClampNeg)) + w2)).toNatClampNeg)), (0, .ref 0), (1, .int v1), (2, .int w2)]) (st' := []) (h' := ms_H s) (bc' := 0) (bs' := 0) (fun n g => (And.intro (fun q => absurd q c_10) (fun _ => (And.intro hi_11 (And.intro hi_12 (And.intro (fun q => absurd q c_13) (fun _ => (And.intro hi_14 (And.intro (fun q => absurd q c_15) (fun _ => g)))))))))) ?_
        refine mm_re (l' := [(0, .ref 0), (1, .int v1), (2, .int w2)]) (c := [(0, .ref 0), (1, .int v1), (2, .int w2)]) ?_ rfl rfl
        exact mb_goesThrough_j87 h_copies h_fillsThen h_numberNow s (v1) (w2) _ hf hK
noncomputable def mf_goesThrough_l33  : (Int32 × ms_S) → Option ((Int32 × ms_S) ⊕ ((ms_S))) := fun (w1, s) =>
(if (s.1 60) ≤ w1 then
some (.inr (s))
else
((mo_loop (mf_goesThrough_l39 (w1)) ((0 : Int32), s)).bind fun s_20 =>
some (.inl ((w1 + (1 : Int32)), s_20))))
set_option maxHeartbeats 4000000 in
theorem mb_goesThrough_l33 {C : mm_C} {Q : mm_R} (h_copies : mk_copies C) (h_fillsThen : mk_fillsThen C) (h_numberNow : mk_numberNow C)  (t : Int32 × ms_S) (x : (ms_S)) (hl : mo_loop (mf_goesThrough_l33 ) t = some x) (hK : (fun sy => mm_go C mm_Mk mm_Fk P_X12_goesThrough Q (P_X12_goesThrough.drop 91) [] [] (ms_H sy) 0 0) x) : (mo_c2 (fun y1 sy => mm_go C mm_Mk mm_Fk P_X12_goesThrough Q (P_X12_goesThrough.drop 33) [(0, .ref 0), (1, .int y1)] [] (ms_H sy) 0 0)) t := by
  refine mo_loop_go (G := (mo_c2 (fun y1 sy => mm_go C mm_Mk mm_Fk P_X12_goesThrough Q (P_X12_goesThrough.drop 33) [(0, .ref 0), (1, .int y1)] [] (ms_H sy) 0 0)) ) (K := (fun sy => mm_go C mm_Mk mm_Fk P_X12_goesThrough Q (P_X12_goesThrough.drop 91) [] [] (ms_H sy) 0 0) ) ?_ t x hl hK
  intro t r hf hK
  obtain ⟨w1, s⟩ := t
  unfold mf_goesThrough_l33 at hf
  by_cases c_9 : (s.1 60) ≤ w1
  · have hf := mo_pos hf c_9
    obtain rfl := Option.some.inj hf
    refine mm_adv 4 (cs' := P_X12_goesThrough.drop 91) (l' := [(0, .ref 0), (1, .int w1)]) (st' := []) (h' := ms_H s) (bc' := 0) (bs' := 0) (fun n g => (And.intro (fun _ => g) (fun q => absurd c_9 q))) ?_
    exact mm_re (c := []) hK rfl rfl
  · have hf := mo_neg hf c_9
    obtain ⟨x_20, hl_20, hf⟩ := mo_bind hf
    refine mm_adv 6 (cs' := P_X12_goesThrough.drop 39) (l' := [(2, .int (0 : Int32)), (0, .ref 0), (1, .int w1)]) (st' := []) (h' := ms_H s) (bc' := 0) (bs' := 0) (fun n g => (And.intro (fun q => absurd q c_9) (fun _ => g))) ?_
    refine mm_re (l' := [(0, .ref 0), (1, .int w1), (2, .int (0 : Int32))]) (c := [(0, .ref 0), (1, .int w1), (2, .int (0 : Int32))]) ?_ rfl rfl
    refine mb_goesThrough_l39 h_copies h_fillsThen h_numberNow (w1) ((0 : Int32), s) x_20 hl_20 ?_
    obtain ⟨s_20, rfl⟩ : ∃ q, q = x_20 := ⟨_, rfl⟩
    obtain rfl := Option.some.inj hf
    refine mm_adv 2 (cs' := P_X12_goesThrough.drop 33) (l' := [(1, .int (w1 + (1 : Int32))), (0, .ref 0)]) (st' := []) (h' := ms_H s_20) (bc' := 0) (bs' := 0) (fun n g => g) ?_
    exact mm_re (c := [(0, .ref 0), (1, .int (w1 + (1 : Int32)))]) hK rfl rfl
noncomputable def mf_goesThrough (s : ms_S)  : Option (ms_S) :=
((mf_copies s ).bind fun s_1 =>
((mf_fillsThen s_1 ).bind fun s_2 =>
((mo_loop (mf_goesThrough_l6 ) ((0 : Int32), s_2)).bind fun s_5 =>
((mf_numberNow s_5 ).bind fun (v_6, s_6) =>
((mf_numberNow (ms_sA (ms_sI s_6 60 ((1 : Int32))) 59 (upd (s_6.2.1 59) 0 (v_6))) ).bind fun (v_7, s_7) =>
(bif mo_in v_7 294 then ((mo_loop (mf_goesThrough_l33 ) ((0 : Int32), (ms_sA s_7 58 (upd (s_7.2.1 58) (v_7).toNatClampNeg ((0 : Int32)))))).bind fun s_21 =>
some s_21) else none))))))
set_option maxHeartbeats 4000000 in
theorem mb_goesThrough {C : mm_C} {Q : mm_R} (h_copies : mk_copies C) (h_fillsThen : mk_fillsThen C) (h_numberNow : mk_numberNow C) (s : ms_S)  (s2 : ms_S) (hf : mf_goesThrough s = some s2) (hK : Q (none) (ms_H s2)) : mm_go C mm_Mk mm_Fk P_X12_goesThrough Q P_X12_goesThrough [(0, .ref 0)] [] (ms_H s) 0 0 := by
  unfold mf_goesThrough at hf
  obtain ⟨s_1, hr_1, hf⟩ := mo_bind hf
  obtain ⟨s_2, hr_2, hf⟩ := mo_bind hf
  obtain ⟨x_5, hl_5, hf⟩ := mo_bind hf
  refine mm_adv 6 (cs' := P_X12_goesThrough.drop 6) (l' := [(1, .int (0 : Int32)), (0, .ref 0)]) (st' := []) (h' := ms_H s_2) (bc' := 0) (bs' := 0) (fun n g => (h_copies s  s_1 _ hr_1 (h_fillsThen s_1  s_2 _ hr_2 g))) ?_
  refine mm_re (l' := [(0, .ref 0), (1, .int (0 : Int32))]) (c := [(0, .ref 0), (1, .int (0 : Int32))]) ?_ rfl rfl
  refine mb_goesThrough_l6 h_copies h_fillsThen h_numberNow  ((0 : Int32), s_2) x_5 hl_5 ?_
  obtain ⟨s_5, rfl⟩ : ∃ q, q = x_5 := ⟨_, rfl⟩
  obtain ⟨r_6, hr_6, hf⟩ := mo_bind hf
  obtain ⟨v_6, s_6⟩ := r_6
  obtain ⟨r_7, hr_7, hf⟩ := mo_bind hf
  obtain ⟨v_7, s_7⟩ := r_7
  obtain ⟨hi_8, hf⟩ := mo_if hf
  obtain ⟨x_21, hl_21, hf⟩ := mo_bind hf
  refine mm_adv 17 (cs' := P_X12_goesThrough.drop 33) (l' := [(1, .int (0 : Int32)), (0, .ref 0)]) (st' := []) (h' := ms_H (ms_sA s_7 58 (upd (s_7.2.1 58) (v_7).toNatClampNeg ((0 : Int32))))) (bc' := 0) (bs' := 0) (fun n g => (h_numberNow s_5  v_6 s_6 _ hr_6 (And.intro (mm_vi rfl) (And.intro trivial (h_numberNow (ms_sA (ms_sI s_6 60 ((1 : Int32))) 59 (upd (s_6.2.1 59) 0 (v_6)))  v_7 s_7 _ hr_7 (And.intro hi_8 g)))))) ?_
  refine mm_re (l' := [(0, .ref 0), (1, .int (0 : Int32))]) (c := [(0, .ref 0), (1, .int (0 : Int32))]) ?_ rfl rfl
  refine mb_goesThrough_l33 h_copies h_fillsThen h_numberNow  ((0 : Int32), (ms_sA s_7 58 (upd (s_7.2.1 58) (v_7).toNatClampNeg ((0 : Int32))))) x_21 hl_21 ?_
  obtain ⟨s_21, rfl⟩ : ∃ q, q = x_21 := ⟨_, rfl⟩
  obtain rfl := Option.some.inj hf
  exact ⟨1, hK⟩
def mk_goesThrough (C : mm_C) : Prop := ∀ (s : ms_S)  (s2 : ms_S) (Q : mm_R), mf_goesThrough s = some s2 → Q (none) (ms_H s2) → C 95 [.ref 0] (ms_H s) Q
set_option maxRecDepth 100000 in
theorem mt_goesThrough (B : mm_C) (d : Nat) : mk_goesThrough (mm_ct B mm_Mk mm_Fk mm_PC (d + 8)) := fun s s2 Q hf hK => Or.inr (mb_goesThrough (mt_copies B (d + 6)) (mt_fillsThen B (d + 0)) (mt_numberNow B (d + 5)) s s2 hf hK)
-- X12_ring
noncomputable def mf_ring_l10 (v1 : Int32) : (Int32 × ms_S) → Option ((Int32 × ms_S) ⊕ ((ms_S) ⊕ (ms_S))) := fun (w2, s) =>
(if (7 : Int32) ≤ w2 then
some (.inr (.inr (s)))
else
((mo_ag 294 (s.2.1 59) v1).bind fun x_4 =>
((mo_ag 2058 (s.2.1 51) (((7 : Int32) * x_4) + w2)).bind fun x_5 =>
(if x_5 = (s.2.1 59 0) then
some (.inr (.inl (s)))
else
some (.inl ((w2 + (1 : Int32)), s))))))
set_option maxHeartbeats 4000000 in
theorem mb_ring_l10 {C : mm_C} {Q : mm_R} (h_goesThrough : mk_goesThrough C) (v1 : Int32) (t : Int32 × ms_S) (x : (ms_S) ⊕ (ms_S)) (hl : mo_loop (mf_ring_l10 v1) t = some x) (hK : (mo_sum (fun sy => mm_go C mm_Mk mm_Fk P_X12_ring Q (P_X12_ring.drop 29) [(0, .ref 0), (1, .int v1)] [] (ms_H sy) 0 0) (fun sy => mm_go C mm_Mk mm_Fk P_X12_ring Q (P_X12_ring.drop 41) [(0, .ref 0), (1, .int v1)] [] (ms_H sy) 0 0)) x) : (mo_c2 (fun y2 sy => mm_go C mm_Mk mm_Fk P_X12_ring Q (P_X12_ring.drop 10) [(0, .ref 0), (1, .int v1), (2, .int y2)] [] (ms_H sy) 0 0)) t := by
  refine mo_loop_go (G := (mo_c2 (fun y2 sy => mm_go C mm_Mk mm_Fk P_X12_ring Q (P_X12_ring.drop 10) [(0, .ref 0), (1, .int v1), (2, .int y2)] [] (ms_H sy) 0 0)) ) (K := (mo_sum (fun sy => mm_go C mm_Mk mm_Fk P_X12_ring Q (P_X12_ring.drop 29) [(0, .ref 0), (1, .int v1)] [] (ms_H sy) 0 0) (fun sy => mm_go C mm_Mk mm_Fk P_X12_ring Q (P_X12_ring.drop 41) [(0, .ref 0), (1, .int v1)] [] (ms_H sy) 0 0)) ) ?_ t x hl hK
  intro t r hf hK
  obtain ⟨w2, s⟩ := t
  unfold mf_ring_l10 at hf
  by_cases c_3 : (7 : Int32) ≤ w2
  · have hf := mo_pos hf c_3
    obtain rfl := Option.some.inj hf
    refine mm_adv 3 (cs' := P_X12_ring.drop 41) (l' := [(0, .ref 0), (1, .int v1), (2, .int w2)]) (st' := []) (h' := ms_H s) (bc' := 0) (bs' := 0) (fun n g => (And.intro (fun _ => g) (fun q => absurd c_3 q))) ?_
    exact mm_re (c := [(0, .ref 0), (1, .int v1)]) hK rfl rfl
  · have hf := mo_neg hf c_3
    obtain ⟨x_4, hx_4, hf⟩ := mo_bind hf
    obtain ⟨hi_4, rfl⟩ := mo_ag_inv hx_4
    obtain ⟨x_5, hx_5, hf⟩ := mo_bind hf
    obtain ⟨hi_5, rfl⟩ := mo_ag_inv hx_5
    by_cases c_6 : ((s.2.1 51) ((((7 : Int32) * ((s.2.1 59) (v1).toNatClampNeg)) + w2)).toNatClampNeg) = (s.2.1 59 0)
    · have hf := mo_pos hf c_6
      obtain rfl := Option.some.inj hf
      refine mm_adv 19 (cs' := P_X12_ring.drop 29) (l' := [(0, .ref 0), (1, .int v1), (2, .int w2)]) (st' := []) (h' := ms_H s) (bc' := 0) (bs' := 0) (fun n g => (And.intro (fun q => absurd q c_3) (fun _ => (And.intro hi_4 (And.intro hi_5 (And.intro (mm_vi rfl) (And.intro (fun q => absurd c_6 q) (fun _ => g)))))))) ?_
      exact mm_re (c := [(0, .ref 0), (1, .int v1)]) hK rfl rfl
    · have hf := mo_neg hf c_6
      obtain rfl := Option.some.inj hf
      refine mm_adv 21 (cs' := P_X12_ring.drop 10) (l' := [(2, .int (w2 + (1 : Int32))), (0, .ref 0), (1, .int v1)]) (st' := []) (h' := ms_H s) (bc' := 0) (bs' := 0) (fun n g => (And.intro (fun q => absurd q c_3) (fun _ => (And.intro hi_4 (And.intro hi_5 (And.intro (mm_vi rfl) (And.intro (fun _ => g) (fun q => absurd c_6 q)))))))) ?_
      exact mm_re (c := [(0, .ref 0), (1, .int v1), (2, .int (w2 + (1 : Int32)))]) hK rfl rfl
noncomputable def mf_ring_l4  : (Int32 × ms_S) → Option ((Int32 × ms_S) ⊕ ((Int32 × ms_S) ⊕ (ms_S))) := fun (w1, s) =>
(if (s.1 60) ≤ w1 then
some (.inr (.inr (s)))
else
((mo_loop (mf_ring_l10 (w1)) ((0 : Int32), s)).bind fun x_7 =>
match x_7 with
| (.inl s_7) => some (.inr (.inl (w1, s_7)))
| (.inr s_7) => some (.inl ((w1 + (1 : Int32)), s_7))
))
set_option maxHeartbeats 4000000 in
theorem mb_ring_l4 {C : mm_C} {Q : mm_R} (h_goesThrough : mk_goesThrough C)  (t : Int32 × ms_S) (x : (Int32 × ms_S) ⊕ (ms_S)) (hl : mo_loop (mf_ring_l4 ) t = some x) (hK : (mo_sum (mo_c2 (fun y1 sy => mm_go C mm_Mk mm_Fk P_X12_ring Q (P_X12_ring.drop 29) [(0, .ref 0), (1, .int y1)] [] (ms_H sy) 0 0)) (fun sy => mm_go C mm_Mk mm_Fk P_X12_ring Q (P_X12_ring.drop 43) [] [] (ms_H sy) 0 0)) x) : (mo_c2 (fun y1 sy => mm_go C mm_Mk mm_Fk P_X12_ring Q (P_X12_ring.drop 4) [(0, .ref 0), (1, .int y1)] [] (ms_H sy) 0 0)) t := by
  refine mo_loop_go (G := (mo_c2 (fun y1 sy => mm_go C mm_Mk mm_Fk P_X12_ring Q (P_X12_ring.drop 4) [(0, .ref 0), (1, .int y1)] [] (ms_H sy) 0 0)) ) (K := (mo_sum (mo_c2 (fun y1 sy => mm_go C mm_Mk mm_Fk P_X12_ring Q (P_X12_ring.drop 29) [(0, .ref 0), (1, .int y1)] [] (ms_H sy) 0 0)) (fun sy => mm_go C mm_Mk mm_Fk P_X12_ring Q (P_X12_ring.drop 43) [] [] (ms_H sy) 0 0)) ) ?_ t x hl hK
  intro t r hf hK
  obtain ⟨w1, s⟩ := t
  unfold mf_ring_l4 at hf
  by_cases c_2 : (s.1 60) ≤ w1
  · have hf := mo_pos hf c_2
    obtain rfl := Option.some.inj hf
    refine mm_adv 4 (cs' := P_X12_ring.drop 43) (l' := [(0, .ref 0), (1, .int w1)]) (st' := []) (h' := ms_H s) (bc' := 0) (bs' := 0) (fun n g => (And.intro (fun _ => g) (fun q => absurd c_2 q))) ?_
    exact mm_re (c := []) hK rfl rfl
  · have hf := mo_neg hf c_2
    obtain ⟨x_7, hl_7, hf⟩ := mo_bind hf
    refine mm_adv 6 (cs' := P_X12_ring.drop 10) (l' := [(2, .int (0 : Int32)), (0, .ref 0), (1, .int w1)]) (st' := []) (h' := ms_H s) (bc' := 0) (bs' := 0) (fun n g => (And.intro (fun q => absurd q c_2) (fun _ => g))) ?_
    refine mm_re (l' := [(0, .ref 0), (1, .int w1), (2, .int (0 : Int32))]) (c := [(0, .ref 0), (1, .int w1), (2, .int (0 : Int32))]) ?_ rfl rfl
    refine mb_ring_l10 h_goesThrough (w1) ((0 : Int32), s) x_7 hl_7 ?_
    cases x_7 with
    | inl y_7 =>
      obtain ⟨s_7, rfl⟩ : ∃ q, q = y_7 := ⟨_, rfl⟩
      obtain rfl := Option.some.inj hf
      exact mm_re (c := [(0, .ref 0), (1, .int w1)]) hK rfl rfl
    | inr z_7_0 =>
      obtain ⟨s_7, rfl⟩ : ∃ q, q = z_7_0 := ⟨_, rfl⟩
      obtain rfl := Option.some.inj hf
      refine mm_adv 2 (cs' := P_X12_ring.drop 4) (l' := [(1, .int (w1 + (1 : Int32))), (0, .ref 0)]) (st' := []) (h' := ms_H s_7) (bc' := 0) (bs' := 0) (fun n g => g) ?_
      exact mm_re (c := [(0, .ref 0), (1, .int (w1 + (1 : Int32)))]) hK rfl rfl
noncomputable def mf_ring (s : ms_S)  : Option (Int32 × ms_S) :=
((mf_goesThrough s ).bind fun s_1 =>
((mo_loop (mf_ring_l4 ) ((0 : Int32), s_1)).bind fun x_8 =>
match x_8 with
| (.inl (e1_8, s_8)) => ((mo_ag 294 (s_8.2.1 59) e1_8).bind fun x_9 =>
((mo_ag 294 (s_8.2.1 58) x_9).bind fun x_10 =>
some ((x_10 + (1 : Int32)), s_8)))
| (.inr s_8) => some ((-2 : Int32), s_8)
))
set_option maxHeartbeats 4000000 in
theorem mb_ring {C : mm_C} {Q : mm_R} (h_goesThrough : mk_goesThrough C) (s : ms_S)  (v : Int32) (s2 : ms_S) (hf : mf_ring s = some (v, s2)) (hK : Q (some (.int v)) (ms_H s2)) : mm_go C mm_Mk mm_Fk P_X12_ring Q P_X12_ring [(0, .ref 0)] [] (ms_H s) 0 0 := by
  unfold mf_ring at hf
  obtain ⟨s_1, hr_1, hf⟩ := mo_bind hf
  obtain ⟨x_8, hl_8, hf⟩ := mo_bind hf
  refine mm_adv 4 (cs' := P_X12_ring.drop 4) (l' := [(1, .int (0 : Int32)), (0, .ref 0)]) (st' := []) (h' := ms_H s_1) (bc' := 0) (bs' := 0) (fun n g => (h_goesThrough s  s_1 _ hr_1 g)) ?_
  refine mm_re (l' := [(0, .ref 0), (1, .int (0 : Int32))]) (c := [(0, .ref 0), (1, .int (0 : Int32))]) ?_ rfl rfl
  refine mb_ring_l4 h_goesThrough  ((0 : Int32), s_1) x_8 hl_8 ?_
  cases x_8 with
  | inl y_8 =>
    obtain ⟨e1_8, s_8⟩ := y_8
    obtain ⟨x_9, hx_9, hf⟩ := mo_bind hf
    obtain ⟨hi_9, rfl⟩ := mo_ag_inv hx_9
    obtain ⟨x_10, hx_10, hf⟩ := mo_bind hf
    obtain ⟨hi_10, rfl⟩ := mo_ag_inv hx_10
    obtain ⟨rfl, rfl⟩ := mo_pair hf
    exact ⟨10, (And.intro hi_9 (And.intro hi_10 hK))⟩
  | inr z_8_0 =>
    obtain ⟨s_8, rfl⟩ : ∃ q, q = z_8_0 := ⟨_, rfl⟩
    obtain ⟨rfl, rfl⟩ := mo_pair hf
    exact ⟨2, hK⟩
def mk_ring (C : mm_C) : Prop := ∀ (s : ms_S)  (v : Int32) (s2 : ms_S) (Q : mm_R), mf_ring s = some (v, s2) → Q (some (.int v)) (ms_H s2) → C 96 [.ref 0] (ms_H s) Q
set_option maxRecDepth 100000 in
theorem mt_ring (B : mm_C) (d : Nat) : mk_ring (mm_ct B mm_Mk mm_Fk mm_PC (d + 9)) := fun s v s2 Q hf hK => Or.inr (mb_ring (mt_goesThrough B (d + 0)) s v s2 hf hK)
-- X12_reach
noncomputable def mf_reach (s : ms_S)  : Option (Int32 × ms_S) :=
((mf_goesThrough s ).bind fun s_1 =>
some ((s_1.1 60), s_1))
set_option maxHeartbeats 4000000 in
theorem mb_reach {C : mm_C} {Q : mm_R} (h_goesThrough : mk_goesThrough C) (s : ms_S)  (v : Int32) (s2 : ms_S) (hf : mf_reach s = some (v, s2)) (hK : Q (some (.int v)) (ms_H s2)) : mm_go C mm_Mk mm_Fk P_X12_reach Q P_X12_reach [(0, .ref 0)] [] (ms_H s) 0 0 := by
  unfold mf_reach at hf
  obtain ⟨s_1, hr_1, hf⟩ := mo_bind hf
  obtain ⟨rfl, rfl⟩ := mo_pair hf
  exact ⟨5, (h_goesThrough s  s_1 _ hr_1 hK)⟩
def mk_reach (C : mm_C) : Prop := ∀ (s : ms_S)  (v : Int32) (s2 : ms_S) (Q : mm_R), mf_reach s = some (v, s2) → Q (some (.int v)) (ms_H s2) → C 97 [.ref 0] (ms_H s) Q
set_option maxRecDepth 100000 in
theorem mt_reach (B : mm_C) (d : Nat) : mk_reach (mm_ct B mm_Mk mm_Fk mm_PC (d + 9)) := fun s v s2 Q hf hK => Or.inr (mb_reach (mt_goesThrough B (d + 0)) s v s2 hf hK)
-- X12_slopes
noncomputable def mf_slopes_l6  : (Int32 × Int32 × ms_S) → Option ((Int32 × Int32 × ms_S) ⊕ ((Int32 × ms_S))) := fun (w1, w2, s) =>
(if (s.1 60) ≤ w2 then
some (.inr (w1, s))
else
((mo_ag 294 (s.2.1 59) w2).bind fun x_3 =>
some (.inl ((w1 ||| ((1 : Int32) <<< ((x_3 / (14 : Int32)) &&& 31))), (w2 + (1 : Int32)), s))))
set_option maxHeartbeats 4000000 in
theorem mb_slopes_l6 {C : mm_C} {Q : mm_R} (h_goesThrough : mk_goesThrough C)  (t : Int32 × Int32 × ms_S) (x : (Int32 × ms_S)) (hl : mo_loop (mf_slopes_l6 ) t = some x) (hK : (mo_c2 (fun y1 sy => mm_go C mm_Mk mm_Fk P_X12_slopes Q (P_X12_slopes.drop 23) [(1, .int y1)] [] (ms_H sy) 0 0)) x) : (mo_c2 (fun y1 => (mo_c2 (fun y2 sy => mm_go C mm_Mk mm_Fk P_X12_slopes Q (P_X12_slopes.drop 6) [(0, .ref 0), (1, .int y1), (2, .int y2)] [] (ms_H sy) 0 0)))) t := by
  refine mo_loop_go (G := (mo_c2 (fun y1 => (mo_c2 (fun y2 sy => mm_go C mm_Mk mm_Fk P_X12_slopes Q (P_X12_slopes.drop 6) [(0, .ref 0), (1, .int y1), (2, .int y2)] [] (ms_H sy) 0 0)))) ) (K := (mo_c2 (fun y1 sy => mm_go C mm_Mk mm_Fk P_X12_slopes Q (P_X12_slopes.drop 23) [(1, .int y1)] [] (ms_H sy) 0 0)) ) ?_ t x hl hK
  intro t r hf hK
  obtain ⟨w1, w2, s⟩ := t
  unfold mf_slopes_l6 at hf
  by_cases c_2 : (s.1 60) ≤ w2
  · have hf := mo_pos hf c_2
    obtain rfl := Option.some.inj hf
    refine mm_adv 4 (cs' := P_X12_slopes.drop 23) (l' := [(0, .ref 0), (1, .int w1), (2, .int w2)]) (st' := []) (h' := ms_H s) (bc' := 0) (bs' := 0) (fun n g => (And.intro (fun _ => g) (fun q => absurd c_2 q))) ?_
    exact mm_re (c := [(1, .int w1)]) hK rfl rfl
  · have hf := mo_neg hf c_2
    obtain ⟨x_3, hx_3, hf⟩ := mo_bind hf
    obtain ⟨hi_3, rfl⟩ := mo_ag_inv hx_3
    obtain rfl := Option.some.inj hf
    refine mm_adv 17 (cs' := P_X12_slopes.drop 6) (l' := [(2, .int (w2 + (1 : Int32))), (1, .int (w1 ||| ((1 : Int32) <<< ((((s.2.1 59) (w2).toNatClampNeg) / (14 : Int32)) &&& 31)))), (0, .ref 0)]) (st' := []) (h' := ms_H s) (bc' := 0) (bs' := 0) (fun n g => (And.intro (fun q => absurd q c_2) (fun _ => (And.intro hi_3 (And.intro (by decide) g))))) ?_
    exact mm_re (c := [(0, .ref 0), (1, .int (w1 ||| ((1 : Int32) <<< ((((s.2.1 59) (w2).toNatClampNeg) / (14 : Int32)) &&& 31)))), (2, .int (w2 + (1 : Int32)))]) hK rfl rfl
noncomputable def mf_slopes (s : ms_S)  : Option (Int32 × ms_S) :=
((mf_goesThrough s ).bind fun s_1 =>
((mo_loop (mf_slopes_l6 ) ((0 : Int32), (0 : Int32), s_1)).bind fun (e1_4, s_4) =>
some (e1_4, s_4)))
set_option maxHeartbeats 4000000 in
theorem mb_slopes {C : mm_C} {Q : mm_R} (h_goesThrough : mk_goesThrough C) (s : ms_S)  (v : Int32) (s2 : ms_S) (hf : mf_slopes s = some (v, s2)) (hK : Q (some (.int v)) (ms_H s2)) : mm_go C mm_Mk mm_Fk P_X12_slopes Q P_X12_slopes [(0, .ref 0)] [] (ms_H s) 0 0 := by
  unfold mf_slopes at hf
  obtain ⟨s_1, hr_1, hf⟩ := mo_bind hf
  obtain ⟨x_4, hl_4, hf⟩ := mo_bind hf
  refine mm_adv 6 (cs' := P_X12_slopes.drop 6) (l' := [(2, .int (0 : Int32)), (1, .int (0 : Int32)), (0, .ref 0)]) (st' := []) (h' := ms_H s_1) (bc' := 0) (bs' := 0) (fun n g => (h_goesThrough s  s_1 _ hr_1 g)) ?_
  refine mm_re (l' := [(0, .ref 0), (1, .int (0 : Int32)), (2, .int (0 : Int32))]) (c := [(0, .ref 0), (1, .int (0 : Int32)), (2, .int (0 : Int32))]) ?_ rfl rfl
  refine mb_slopes_l6 h_goesThrough  ((0 : Int32), (0 : Int32), s_1) x_4 hl_4 ?_
  obtain ⟨e1_4, s_4⟩ := x_4
  obtain ⟨rfl, rfl⟩ := mo_pair hf
  exact ⟨2, hK⟩
def mk_slopes (C : mm_C) : Prop := ∀ (s : ms_S)  (v : Int32) (s2 : ms_S) (Q : mm_R), mf_slopes s = some (v, s2) → Q (some (.int v)) (ms_H s2) → C 98 [.ref 0] (ms_H s) Q
set_option maxRecDepth 100000 in
theorem mt_slopes (B : mm_C) (d : Nat) : mk_slopes (mm_ct B mm_Mk mm_Fk mm_PC (d + 9)) := fun s v s2 Q hf hK => Or.inr (mb_slopes (mt_goesThrough B (d + 0)) s v s2 hf hK)
-- X12_calmOf
noncomputable def mf_calmOf (s : ms_S) (a0 : Int32) (a1 : Int32) : Option (Int32 × ms_S) :=
((mf_copies s ).bind fun s_1 =>
((mf_setsRow (ms_sA s_1 48 (upd (upd (s_1.2.1 48) 3 (a0)) 4 (a1))) ).bind fun s_2 =>
((mf_fillsWho s_2 ).bind fun s_3 =>
((mf_numberNow s_3 ).bind fun (v_4, s_4) =>
((mo_ag 294 (s_4.2.1 52) v_4).bind fun x_5 =>
some (x_5, s_4))))))
set_option maxHeartbeats 4000000 in
theorem mb_calmOf {C : mm_C} {Q : mm_R} (h_copies : mk_copies C) (h_setsRow : mk_setsRow C) (h_fillsWho : mk_fillsWho C) (h_numberNow : mk_numberNow C) (s : ms_S) (a0 : Int32) (a1 : Int32) (v : Int32) (s2 : ms_S) (hf : mf_calmOf s a0 a1 = some (v, s2)) (hK : Q (some (.int v)) (ms_H s2)) : mm_go C mm_Mk mm_Fk P_X12_calmOf Q P_X12_calmOf [(0, .ref 0), (1, .int a0), (2, .int a1)] [] (ms_H s) 0 0 := by
  unfold mf_calmOf at hf
  obtain ⟨s_1, hr_1, hf⟩ := mo_bind hf
  obtain ⟨s_2, hr_2, hf⟩ := mo_bind hf
  obtain ⟨s_3, hr_3, hf⟩ := mo_bind hf
  obtain ⟨r_4, hr_4, hf⟩ := mo_bind hf
  obtain ⟨v_4, s_4⟩ := r_4
  obtain ⟨x_5, hx_5, hf⟩ := mo_bind hf
  obtain ⟨hi_5, rfl⟩ := mo_ag_inv hx_5
  obtain ⟨rfl, rfl⟩ := mo_pair hf
  exact ⟨22, (h_copies s  s_1 _ hr_1 (And.intro (mm_vi rfl) (And.intro (mm_vi rfl) (h_setsRow (ms_sA s_1 48 (upd (upd (s_1.2.1 48) 3 (a0)) 4 (a1)))  s_2 _ hr_2 (h_fillsWho s_2  s_3 _ hr_3 (h_numberNow s_3  v_4 s_4 _ hr_4 (And.intro hi_5 hK)))))))⟩
def mk_calmOf (C : mm_C) : Prop := ∀ (s : ms_S) (a0 : Int32) (a1 : Int32) (v : Int32) (s2 : ms_S) (Q : mm_R), mf_calmOf s a0 a1 = some (v, s2) → Q (some (.int v)) (ms_H s2) → C 99 [.ref 0, .int a0, .int a1] (ms_H s) Q
set_option maxRecDepth 100000 in
theorem mt_calmOf (B : mm_C) (d : Nat) : mk_calmOf (mm_ct B mm_Mk mm_Fk mm_PC (d + 9)) := fun s a0 a1 v s2 Q hf hK => Or.inr (mb_calmOf (mt_copies B (d + 7)) (mt_setsRow B (d + 7)) (mt_fillsWho B (d + 0)) (mt_numberNow B (d + 6)) s a0 a1 v s2 hf hK)
-- X12_calm
noncomputable def mf_calm (s : ms_S) (a0 : Int32) (a1 : Int32) : Option (Int32 × ms_S) :=
((mf_isSpeaker s (a0)).bind fun (v_1, s_1) =>
(if v_1 = (0 : Int32) then
some ((-1 : Int32), s_1)
else
((mf_isSpeaker s_1 (a1)).bind fun (v_3, s_3) =>
(if v_3 = (0 : Int32) then
some ((-1 : Int32), s_3)
else
(if a0 = a1 then
some ((-1 : Int32), s_3)
else
((mf_calmOf s_3 (a0) (a1)).bind fun (v_6, s_6) =>
some (v_6, s_6)))))))
set_option maxHeartbeats 4000000 in
theorem mb_calm {C : mm_C} {Q : mm_R} (h_isSpeaker : mk_isSpeaker C) (h_calmOf : mk_calmOf C) (s : ms_S) (a0 : Int32) (a1 : Int32) (v : Int32) (s2 : ms_S) (hf : mf_calm s a0 a1 = some (v, s2)) (hK : Q (some (.int v)) (ms_H s2)) : mm_go C mm_Mk mm_Fk P_X12_calm Q P_X12_calm [(0, .ref 0), (1, .int a0), (2, .int a1)] [] (ms_H s) 0 0 := by
  unfold mf_calm at hf
  obtain ⟨r_1, hr_1, hf⟩ := mo_bind hf
  obtain ⟨v_1, s_1⟩ := r_1
  by_cases c_2 : v_1 = (0 : Int32)
  · have hf := mo_pos hf c_2
    obtain ⟨rfl, rfl⟩ := mo_pair hf
    exact ⟨6, (h_isSpeaker s (a0) v_1 s_1 _ hr_1 (And.intro (fun _ => hK) (fun q => absurd c_2 q)))⟩
  · have hf := mo_neg hf c_2
    obtain ⟨r_3, hr_3, hf⟩ := mo_bind hf
    obtain ⟨v_3, s_3⟩ := r_3
    by_cases c_4 : v_3 = (0 : Int32)
    · have hf := mo_pos hf c_4
      obtain ⟨rfl, rfl⟩ := mo_pair hf
      exact ⟨10, (h_isSpeaker s (a0) v_1 s_1 _ hr_1 (And.intro (fun q => absurd q c_2) (fun _ => (h_isSpeaker s_1 (a1) v_3 s_3 _ hr_3 (And.intro (fun _ => hK) (fun q => absurd c_4 q))))))⟩
    · have hf := mo_neg hf c_4
      by_cases c_5 : a0 = a1
      · have hf := mo_pos hf c_5
        obtain ⟨rfl, rfl⟩ := mo_pair hf
        exact ⟨13, (h_isSpeaker s (a0) v_1 s_1 _ hr_1 (And.intro (fun q => absurd q c_2) (fun _ => (h_isSpeaker s_1 (a1) v_3 s_3 _ hr_3 (And.intro (fun q => absurd q c_4) (fun _ => (And.intro (fun _ => hK) (fun q => absurd c_5 q))))))))⟩
      · have hf := mo_neg hf c_5
        obtain ⟨r_6, hr_6, hf⟩ := mo_bind hf
        obtain ⟨v_6, s_6⟩ := r_6
        obtain ⟨rfl, rfl⟩ := mo_pair hf
        exact ⟨17, (h_isSpeaker s (a0) v_1 s_1 _ hr_1 (And.intro (fun q => absurd q c_2) (fun _ => (h_isSpeaker s_1 (a1) v_3 s_3 _ hr_3 (And.intro (fun q => absurd q c_4) (fun _ => (And.intro (fun q => absurd q c_5) (fun _ => (h_calmOf s_3 (a0) (a1) v_6 s_6 _ hr_6 hK)))))))))⟩
def mk_calm (C : mm_C) : Prop := ∀ (s : ms_S) (a0 : Int32) (a1 : Int32) (v : Int32) (s2 : ms_S) (Q : mm_R), mf_calm s a0 a1 = some (v, s2) → Q (some (.int v)) (ms_H s2) → C 100 [.ref 0, .int a0, .int a1] (ms_H s) Q
set_option maxRecDepth 100000 in
theorem mt_calm (B : mm_C) (d : Nat) : mk_calm (mm_ct B mm_Mk mm_Fk mm_PC (d + 10)) := fun s a0 a1 v s2 Q hf hK => Or.inr (mb_calm (mt_isSpeaker B (d + 7)) (mt_calmOf B (d + 0)) s a0 a1 v s2 hf hK)
-- X12_fillsCalm
noncomputable def mf_fillsCalm_j43 (s : ms_S) (v1 : Int32) (v2 : Int32) : Option ((Int32 × ms_S) ⊕ ((ms_S))) :=
some (.inl ((v2 + (1 : Int32)), s))
set_option maxHeartbeats 4000000 in
theorem mb_fillsCalm_j43 {C : mm_C} {Q : mm_R} (h_calmOf : mk_calmOf C) (s : ms_S) (v1 : Int32) (v2 : Int32) (r : (Int32 × ms_S) ⊕ ((ms_S))) (hf : mf_fillsCalm_j43 s v1 v2 = some r) (hK : mo_sum (mo_c2 (fun y2 sy => mm_go C mm_Mk mm_Fk P_X12_fillsCalm Q (P_X12_fillsCalm.drop 14) [(0, .ref 0), (1, .int v1), (2, .int y2)] [] (ms_H sy) 0 0))  (fun sy => mm_go C mm_Mk mm_Fk P_X12_fillsCalm Q (P_X12_fillsCalm.drop 45) [(0, .ref 0), (1, .int v1)] [] (ms_H sy) 0 0)  r) : mm_go C mm_Mk mm_Fk P_X12_fillsCalm Q (P_X12_fillsCalm.drop 43) [(0, .ref 0), (1, .int v1), (2, .int v2)] [] (ms_H s) 0 0 := by
  unfold mf_fillsCalm_j43 at hf
  obtain rfl := Option.some.inj hf
  refine mm_adv 2 (cs' := P_X12_fillsCalm.drop 14) (l' := [(2, .int (v2 + (1 : Int32))), (0, .ref 0), (1, .int v1)]) (st' := []) (h' := ms_H s) (bc' := 0) (bs' := 0) (fun n g => g) ?_
  exact mm_re (c := [(0, .ref 0), (1, .int v1), (2, .int (v2 + (1 : Int32)))]) hK rfl rfl
noncomputable def mf_fillsCalm_l14 (v1 : Int32) : (Int32 × ms_S) → Option ((Int32 × ms_S) ⊕ ((ms_S))) := fun (w2, s) =>
((mo_ag 2 (s.2.1 23) (s.1 18)).bind fun x_3 =>
(if x_3 ≤ w2 then
some (.inr (s))
else
((mo_ag 2 (s.2.1 23) (s.1 18)).bind fun x_5 =>
(if x_5 ≤ v1 then
some (.inr (s))
else
((mf_calmOf s (v1) (w2)).bind fun (v_7, s_7) =>
(if v_7 = (0 : Int32) then
((mo_ag 5 (s_7.2.1 61) v1).bind fun x_9 =>
(bif mo_in v1 5 then (mf_fillsCalm_j43 ((ms_sA s_7 61 (upd (s_7.2.1 61) (v1).toNatClampNeg ((x_9 ||| ((1 : Int32) <<< (w2 &&& 31))))))) (v1) (w2)) else none))
else
(mf_fillsCalm_j43 (s_7) (v1) (w2))))))))
set_option maxHeartbeats 4000000 in
theorem mb_fillsCalm_l14 {C : mm_C} {Q : mm_R} (h_calmOf : mk_calmOf C) (v1 : Int32) (t : Int32 × ms_S) (x : (ms_S)) (hl : mo_loop (mf_fillsCalm_l14 v1) t = some x) (hK : (fun sy => mm_go C mm_Mk mm_Fk P_X12_fillsCalm Q (P_X12_fillsCalm.drop 45) [(0, .ref 0), (1, .int v1)] [] (ms_H sy) 0 0) x) : (mo_c2 (fun y2 sy => mm_go C mm_Mk mm_Fk P_X12_fillsCalm Q (P_X12_fillsCalm.drop 14) [(0, .ref 0), (1, .int v1), (2, .int y2)] [] (ms_H sy) 0 0)) t := by
  refine mo_loop_go (G := (mo_c2 (fun y2 sy => mm_go C mm_Mk mm_Fk P_X12_fillsCalm Q (P_X12_fillsCalm.drop 14) [(0, .ref 0), (1, .int v1), (2, .int y2)] [] (ms_H sy) 0 0)) ) (K := (fun sy => mm_go C mm_Mk mm_Fk P_X12_fillsCalm Q (P_X12_fillsCalm.drop 45) [(0, .ref 0), (1, .int v1)] [] (ms_H sy) 0 0) ) ?_ t x hl hK
  intro t r hf hK
  obtain ⟨w2, s⟩ := t
  unfold mf_fillsCalm_l14 at hf
  obtain ⟨x_3, hx_3, hf⟩ := mo_bind hf
  obtain ⟨hi_3, rfl⟩ := mo_ag_inv hx_3
  by_cases c_4 : ((s.2.1 23) ((s.1 18)).toNatClampNeg) ≤ w2
  · have hf := mo_pos hf c_4
    obtain rfl := Option.some.inj hf
    refine mm_adv 7 (cs' := P_X12_fillsCalm.drop 45) (l' := [(0, .ref 0), (1, .int v1), (2, .int w2)]) (st' := []) (h' := ms_H s) (bc' := 0) (bs' := 0) (fun n g => (And.intro hi_3 (And.intro (fun _ => g) (fun q => absurd c_4 q)))) ?_
    exact mm_re (c := [(0, .ref 0), (1, .int v1)]) hK rfl rfl
  · have hf := mo_neg hf c_4
    obtain ⟨x_5, hx_5, hf⟩ := mo_bind hf
    obtain ⟨hi_5, rfl⟩ := mo_ag_inv hx_5
    by_cases c_6 : ((s.2.1 23) ((s.1 18)).toNatClampNeg) ≤ v1
    · have hf := mo_pos hf c_6
      obtain rfl := Option.some.inj hf
      refine mm_adv 14 (cs' := P_X12_fillsCalm.drop 45) (l' := [(0, .ref 0), (1, .int v1), (2, .int w2)]) (st' := []) (h' := ms_H s) (bc' := 0) (bs' := 0) (fun n g => (And.intro hi_3 (And.intro (fun q => absurd q c_4) (fun _ => (And.intro hi_5 (And.intro (fun _ => g) (fun q => absurd c_6 q))))))) ?_
      exact mm_re (c := [(0, .ref 0), (1, .int v1)]) hK rfl rfl
    · have hf := mo_neg hf c_6
      obtain ⟨r_7, hr_7, hf⟩ := mo_bind hf
      obtain ⟨v_7, s_7⟩ := r_7
      by_cases c_8 : v_7 = (0 : Int32)
      · have hf := mo_pos hf c_8
        obtain ⟨x_9, hx_9, hf⟩ := mo_bind hf
        obtain ⟨hi_9, rfl⟩ := mo_ag_inv hx_9
        obtain ⟨hi_10, hf⟩ := mo_if hf
        refine mm_adv 29 (cs' := P_X12_fillsCalm.drop 43) (l' := [(0, .ref 0), (1, .int v1), (2, .int w2)]) (st' := []) (h' := ms_H (ms_sA s_7 61 (upd (s_7.2.1 61) (v1).toNatClampNeg ((((s_7.2.1 61) (v1).toNatClampNeg) ||| ((1 : Int32) <<< (w2 &&& 31))))))) (bc' := 0) (bs' := 0) (fun n g => (And.intro hi_3 (And.intro (fun q => absurd q c_4) (fun _ => (And.intro hi_5 (And.intro (fun q => absurd q c_6) (fun _ => (h_calmOf s (v1) (w2) v_7 s_7 _ hr_7 (And.intro (fun q => absurd c_8 q) (fun _ => (And.intro hi_9 (And.intro hi_10 g)))))))))))) ?_
        refine mm_re (l' := [(0, .ref 0), (1, .int v1), (2, .int w2)]) (c := [(0, .ref 0), (1, .int v1), (2, .int w2)]) ?_ rfl rfl
        exact mb_fillsCalm_j43 h_calmOf (ms_sA s_7 61 (upd (s_7.2.1 61) (v1).toNatClampNeg ((((s_7.2.1 61) (v1).toNatClampNeg) ||| ((1 : Int32) <<< (w2 &&& 31)))))) (v1) (w2) _ hf hK
      · have hf := mo_neg hf c_8
        refine mm_adv 19 (cs' := P_X12_fillsCalm.drop 43) (l' := [(0, .ref 0), (1, .int v1), (2, .int w2)]) (st' := []) (h' := ms_H s_7) (bc' := 0) (bs' := 0) (fun n g => (And.intro hi_3 (And.intro (fun q => absurd q c_4) (fun _ => (And.intro hi_5 (And.intro (fun q => absurd q c_6) (fun _ => (h_calmOf s (v1) (w2) v_7 s_7 _ hr_7 (And.intro (fun _ => g) (fun q => absurd c_8 q)))))))))) ?_
        refine mm_re (l' := [(0, .ref 0), (1, .int v1), (2, .int w2)]) (c := [(0, .ref 0), (1, .int v1), (2, .int w2)]) ?_ rfl rfl
        exact mb_fillsCalm_j43 h_calmOf s_7 (v1) (w2) _ hf hK
noncomputable def mf_fillsCalm_j45 (s : ms_S) (v1 : Int32) : Option ((Int32 × ms_S) ⊕ ((ms_S))) :=
some (.inl ((v1 + (1 : Int32)), s))
set_option maxHeartbeats 4000000 in
theorem mb_fillsCalm_j45 {C : mm_C} {Q : mm_R} (h_calmOf : mk_calmOf C) (s : ms_S) (v1 : Int32) (r : (Int32 × ms_S) ⊕ ((ms_S))) (hf : mf_fillsCalm_j45 s v1 = some r) (hK : mo_sum (mo_c2 (fun y1 sy => mm_go C mm_Mk mm_Fk P_X12_fillsCalm Q (P_X12_fillsCalm.drop 2) [(0, .ref 0), (1, .int y1)] [] (ms_H sy) 0 0))  (fun sy => mm_go C mm_Mk mm_Fk P_X12_fillsCalm Q (P_X12_fillsCalm.drop 47) [] [] (ms_H sy) 0 0)  r) : mm_go C mm_Mk mm_Fk P_X12_fillsCalm Q (P_X12_fillsCalm.drop 45) [(0, .ref 0), (1, .int v1)] [] (ms_H s) 0 0 := by
  unfold mf_fillsCalm_j45 at hf
  obtain rfl := Option.some.inj hf
  refine mm_adv 2 (cs' := P_X12_fillsCalm.drop 2) (l' := [(1, .int (v1 + (1 : Int32))), (0, .ref 0)]) (st' := []) (h' := ms_H s) (bc' := 0) (bs' := 0) (fun n g => g) ?_
  exact mm_re (c := [(0, .ref 0), (1, .int (v1 + (1 : Int32)))]) hK rfl rfl
noncomputable def mf_fillsCalm_l2  : (Int32 × ms_S) → Option ((Int32 × ms_S) ⊕ ((ms_S))) := fun (w1, s) =>
(if (5 : Int32) ≤ w1 then
some (.inr (s))
else
(bif mo_in w1 5 then ((mo_loop (mf_fillsCalm_l14 (w1)) ((w1 + (1 : Int32)), (ms_sA s 61 (upd (s.2.1 61) (w1).toNatClampNeg ((0 : Int32)))))).bind fun s_11 =>
(mf_fillsCalm_j45 (s_11) (w1))) else none))
set_option maxHeartbeats 4000000 in
theorem mb_fillsCalm_l2 {C : mm_C} {Q : mm_R} (h_calmOf : mk_calmOf C)  (t : Int32 × ms_S) (x : (ms_S)) (hl : mo_loop (mf_fillsCalm_l2 ) t = some x) (hK : (fun sy => mm_go C mm_Mk mm_Fk P_X12_fillsCalm Q (P_X12_fillsCalm.drop 47) [] [] (ms_H sy) 0 0) x) : (mo_c2 (fun y1 sy => mm_go C mm_Mk mm_Fk P_X12_fillsCalm Q (P_X12_fillsCalm.drop 2) [(0, .ref 0), (1, .int y1)] [] (ms_H sy) 0 0)) t := by
  refine mo_loop_go (G := (mo_c2 (fun y1 sy => mm_go C mm_Mk mm_Fk P_X12_fillsCalm Q (P_X12_fillsCalm.drop 2) [(0, .ref 0), (1, .int y1)] [] (ms_H sy) 0 0)) ) (K := (fun sy => mm_go C mm_Mk mm_Fk P_X12_fillsCalm Q (P_X12_fillsCalm.drop 47) [] [] (ms_H sy) 0 0) ) ?_ t x hl hK
  intro t r hf hK
  obtain ⟨w1, s⟩ := t
  unfold mf_fillsCalm_l2 at hf
  by_cases c_1 : (5 : Int32) ≤ w1
  · have hf := mo_pos hf c_1
    obtain rfl := Option.some.inj hf
    refine mm_adv 3 (cs' := P_X12_fillsCalm.drop 47) (l' := [(0, .ref 0), (1, .int w1)]) (st' := []) (h' := ms_H s) (bc' := 0) (bs' := 0) (fun n g => (And.intro (fun _ => g) (fun q => absurd c_1 q))) ?_
    exact mm_re (c := []) hK rfl rfl
  · have hf := mo_neg hf c_1
    obtain ⟨hi_2, hf⟩ := mo_if hf
    obtain ⟨x_11, hl_11, hf⟩ := mo_bind hf
    refine mm_adv 12 (cs' := P_X12_fillsCalm.drop 14) (l' := [(2, .int (w1 + (1 : Int32))), (0, .ref 0), (1, .int w1)]) (st' := []) (h' := ms_H (ms_sA s 61 (upd (s.2.1 61) (w1).toNatClampNeg ((0 : Int32))))) (bc' := 0) (bs' := 0) (fun n g => (And.intro (fun q => absurd q c_1) (fun _ => (And.intro hi_2 g)))) ?_
    refine mm_re (l' := [(0, .ref 0), (1, .int w1), (2, .int (w1 + (1 : Int32)))]) (c := [(0, .ref 0), (1, .int w1), (2, .int (w1 + (1 : Int32)))]) ?_ rfl rfl
    refine mb_fillsCalm_l14 h_calmOf (w1) ((w1 + (1 : Int32)), (ms_sA s 61 (upd (s.2.1 61) (w1).toNatClampNeg ((0 : Int32))))) x_11 hl_11 ?_
    obtain ⟨s_11, rfl⟩ : ∃ q, q = x_11 := ⟨_, rfl⟩
    refine mm_re (l' := [(0, .ref 0), (1, .int w1)]) (c := [(0, .ref 0), (1, .int w1)]) ?_ rfl rfl
    exact mb_fillsCalm_j45 h_calmOf s_11 (w1) _ hf hK
noncomputable def mf_fillsCalm (s : ms_S)  : Option (ms_S) :=
((mo_loop (mf_fillsCalm_l2 ) ((0 : Int32), s)).bind fun s_12 =>
some s_12)
set_option maxHeartbeats 4000000 in
theorem mb_fillsCalm {C : mm_C} {Q : mm_R} (h_calmOf : mk_calmOf C) (s : ms_S)  (s2 : ms_S) (hf : mf_fillsCalm s = some s2) (hK : Q (none) (ms_H s2)) : mm_go C mm_Mk mm_Fk P_X12_fillsCalm Q P_X12_fillsCalm [(0, .ref 0)] [] (ms_H s) 0 0 := by
  unfold mf_fillsCalm at hf
  obtain ⟨x_12, hl_12, hf⟩ := mo_bind hf
  refine mm_adv 2 (cs' := P_X12_fillsCalm.drop 2) (l' := [(1, .int (0 : Int32)), (0, .ref 0)]) (st' := []) (h' := ms_H s) (bc' := 0) (bs' := 0) (fun n g => g) ?_
  refine mm_re (l' := [(0, .ref 0), (1, .int (0 : Int32))]) (c := [(0, .ref 0), (1, .int (0 : Int32))]) ?_ rfl rfl
  refine mb_fillsCalm_l2 h_calmOf  ((0 : Int32), s) x_12 hl_12 ?_
  obtain ⟨s_12, rfl⟩ : ∃ q, q = x_12 := ⟨_, rfl⟩
  obtain rfl := Option.some.inj hf
  exact ⟨1, hK⟩
def mk_fillsCalm (C : mm_C) : Prop := ∀ (s : ms_S)  (s2 : ms_S) (Q : mm_R), mf_fillsCalm s = some s2 → Q (none) (ms_H s2) → C 101 [.ref 0] (ms_H s) Q
set_option maxRecDepth 100000 in
theorem mt_fillsCalm (B : mm_C) (d : Nat) : mk_fillsCalm (mm_ct B mm_Mk mm_Fk mm_PC (d + 10)) := fun s s2 Q hf hK => Or.inr (mb_fillsCalm (mt_calmOf B (d + 0)) s s2 hf hK)
-- X12_lowestOf
noncomputable def mf_lowestOf_l2 (v0 : Int32) : (Int32) → Option ((Int32) ⊕ ((Int32))) := fun w1 =>
(if ((v0 >>> (w1 &&& 31)) &&& (1 : Int32)) = (0 : Int32) then
some (.inl ((w1 + (1 : Int32))))
else
some (.inr (w1)))
set_option maxHeartbeats 4000000 in
theorem mb_lowestOf_l2 {C : mm_C} {Q : mm_R}  (h : mm_H) (v0 : Int32) (t : Int32) (x : (Int32)) (hl : mo_loop (mf_lowestOf_l2 v0) t = some x) (hK : (fun y1 => mm_go C mm_Mk mm_Fk P_X12_lowestOf Q (P_X12_lowestOf.drop 10) [(1, .int y1)] [] h 0 0) x) : (fun y1 => mm_go C mm_Mk mm_Fk P_X12_lowestOf Q (P_X12_lowestOf.drop 2) [(0, .int v0), (1, .int y1)] [] h 0 0) t := by
  refine mo_loop_go (G := (fun y1 => mm_go C mm_Mk mm_Fk P_X12_lowestOf Q (P_X12_lowestOf.drop 2) [(0, .int v0), (1, .int y1)] [] h 0 0) ) (K := (fun y1 => mm_go C mm_Mk mm_Fk P_X12_lowestOf Q (P_X12_lowestOf.drop 10) [(1, .int y1)] [] h 0 0) ) ?_ t x hl hK
  intro t r hf hK
  obtain ⟨w1, rfl⟩ : ∃ q, q = t := ⟨_, rfl⟩
  unfold mf_lowestOf_l2 at hf
  by_cases c_1 : ((v0 >>> (w1 &&& 31)) &&& (1 : Int32)) = (0 : Int32)
  · have hf := mo_pos hf c_1
    obtain rfl := Option.some.inj hf
    refine mm_adv 8 (cs' := P_X12_lowestOf.drop 2) (l' := [(1, .int (w1 + (1 : Int32))), (0, .int v0)]) (st' := []) (h' := h) (bc' := 0) (bs' := 0) (fun n g => (And.intro (fun q => absurd c_1 q) (fun _ => g))) ?_
    exact mm_re (c := [(0, .int v0), (1, .int (w1 + (1 : Int32)))]) hK rfl rfl
  · have hf := mo_neg hf c_1
    obtain rfl := Option.some.inj hf
    refine mm_adv 6 (cs' := P_X12_lowestOf.drop 10) (l' := [(0, .int v0), (1, .int w1)]) (st' := []) (h' := h) (bc' := 0) (bs' := 0) (fun n g => (And.intro (fun _ => g) (fun q => absurd c_1 q))) ?_
    exact mm_re (c := [(1, .int w1)]) hK rfl rfl
noncomputable def mf_lowestOf (a0 : Int32) : Option (Int32) :=
((mo_loop (mf_lowestOf_l2 (a0)) ((0 : Int32))).bind fun e1_2 =>
some (e1_2))
set_option maxHeartbeats 4000000 in
theorem mb_lowestOf {C : mm_C} {Q : mm_R}  {h : mm_H} (a0 : Int32) (v : Int32) (hf : mf_lowestOf a0 = some v) (hK : Q (some (.int v)) h) : mm_go C mm_Mk mm_Fk P_X12_lowestOf Q P_X12_lowestOf [(0, .int a0)] [] h 0 0 := by
  unfold mf_lowestOf at hf
  obtain ⟨x_2, hl_2, hf⟩ := mo_bind hf
  refine mm_adv 2 (cs' := P_X12_lowestOf.drop 2) (l' := [(1, .int (0 : Int32)), (0, .int a0)]) (st' := []) (h' := h) (bc' := 0) (bs' := 0) (fun n g => g) ?_
  refine mm_re (l' := [(0, .int a0), (1, .int (0 : Int32))]) (c := [(0, .int a0), (1, .int (0 : Int32))]) ?_ rfl rfl
  refine mb_lowestOf_l2  _ (a0) ((0 : Int32)) x_2 hl_2 ?_
  obtain ⟨e1_2, rfl⟩ : ∃ q, q = x_2 := ⟨_, rfl⟩
  obtain rfl := Option.some.inj hf
  exact ⟨2, hK⟩
def mk_lowestOf (C : mm_C) : Prop := ∀ (h : mm_H) (a0 : Int32) (v : Int32) (Q : mm_R), mf_lowestOf a0 = some v → Q (some (.int v)) h → C 102 [.int a0] h Q
set_option maxRecDepth 100000 in
theorem mt_lowestOf (B : mm_C) (d : Nat) : mk_lowestOf (mm_ct B mm_Mk mm_Fk mm_PC (d + 1)) := fun h a0 v Q hf hK => Or.inr (mb_lowestOf  a0 v hf hK)
-- X12_isCouple
noncomputable def mf_isCouple (s : ms_S) (a0 : Int32) (a1 : Int32) (a2 : Int32) : Option (Int32 × ms_S) :=
(if ((a2 >>> (a1 &&& 31)) &&& (1 : Int32)) = (1 : Int32) then
((mo_ag 5 (s.2.1 61) a0).bind fun x_2 =>
(if ((x_2 >>> (a1 &&& 31)) &&& (1 : Int32)) = (1 : Int32) then
some ((1 : Int32), s)
else
some ((0 : Int32), s)))
else
some ((0 : Int32), s))
set_option maxHeartbeats 4000000 in
theorem mb_isCouple {C : mm_C} {Q : mm_R}  (s : ms_S) (a0 : Int32) (a1 : Int32) (a2 : Int32) (v : Int32) (s2 : ms_S) (hf : mf_isCouple s a0 a1 a2 = some (v, s2)) (hK : Q (some (.int v)) (ms_H s2)) : mm_go C mm_Mk mm_Fk P_X12_isCouple Q P_X12_isCouple [(0, .ref 0), (1, .int a0), (2, .int a1), (3, .int a2)] [] (ms_H s) 0 0 := by
  unfold mf_isCouple at hf
  by_cases c_1 : ((a2 >>> (a1 &&& 31)) &&& (1 : Int32)) = (1 : Int32)
  · have hf := mo_pos hf c_1
    obtain ⟨x_2, hx_2, hf⟩ := mo_bind hf
    obtain ⟨hi_2, rfl⟩ := mo_ag_inv hx_2
    by_cases c_3 : ((((s.2.1 61) (a0).toNatClampNeg) >>> (a1 &&& 31)) &&& (1 : Int32)) = (1 : Int32)
    · have hf := mo_pos hf c_3
      obtain ⟨rfl, rfl⟩ := mo_pair hf
      exact ⟨20, (And.intro (fun q => absurd c_1 q) (fun _ => (And.intro hi_2 (And.intro (fun q => absurd c_3 q) (fun _ => (And.intro rfl hK))))))⟩
    · have hf := mo_neg hf c_3
      obtain ⟨rfl, rfl⟩ := mo_pair hf
      exact ⟨19, (And.intro (fun q => absurd c_1 q) (fun _ => (And.intro hi_2 (And.intro (fun _ => (And.intro rfl hK)) (fun q => absurd c_3 q)))))⟩
  · have hf := mo_neg hf c_1
    obtain ⟨rfl, rfl⟩ := mo_pair hf
    exact ⟨9, (And.intro (fun _ => (And.intro rfl hK)) (fun q => absurd c_1 q))⟩
def mk_isCouple (C : mm_C) : Prop := ∀ (s : ms_S) (a0 : Int32) (a1 : Int32) (a2 : Int32) (v : Int32) (s2 : ms_S) (Q : mm_R), mf_isCouple s a0 a1 a2 = some (v, s2) → Q (some (.int v)) (ms_H s2) → C 103 [.ref 0, .int a0, .int a1, .int a2] (ms_H s) Q
set_option maxRecDepth 100000 in
theorem mt_isCouple (B : mm_C) (d : Nat) : mk_isCouple (mm_ct B mm_Mk mm_Fk mm_PC (d + 1)) := fun s a0 a1 a2 v s2 Q hf hK => Or.inr (mb_isCouple  s a0 a1 a2 v s2 hf hK)
-- X12_couplesWith
noncomputable def mf_couplesWith (s : ms_S) (a0 : Int32) (a1 : Int32) (a2 : Int32) : Option (Int32 × ms_S) :=
((mo_ag 32 (s.2.1 62) ((a2 &&& (((1 : Int32) <<< (a0 &&& 31)) ^^^ (-1 : Int32))) &&& (((1 : Int32) <<< (a1 &&& 31)) ^^^ (-1 : Int32)))).bind fun x_1 =>
some (((1 : Int32) + x_1), s))
set_option maxHeartbeats 4000000 in
theorem mb_couplesWith {C : mm_C} {Q : mm_R}  (s : ms_S) (a0 : Int32) (a1 : Int32) (a2 : Int32) (v : Int32) (s2 : ms_S) (hf : mf_couplesWith s a0 a1 a2 = some (v, s2)) (hK : Q (some (.int v)) (ms_H s2)) : mm_go C mm_Mk mm_Fk P_X12_couplesWith Q P_X12_couplesWith [(0, .ref 0), (1, .int a0), (2, .int a1), (3, .int a2)] [] (ms_H s) 0 0 := by
  unfold mf_couplesWith at hf
  obtain ⟨x_1, hx_1, hf⟩ := mo_bind hf
  obtain ⟨hi_1, rfl⟩ := mo_ag_inv hx_1
  obtain ⟨rfl, rfl⟩ := mo_pair hf
  exact ⟨19, (And.intro hi_1 hK)⟩
def mk_couplesWith (C : mm_C) : Prop := ∀ (s : ms_S) (a0 : Int32) (a1 : Int32) (a2 : Int32) (v : Int32) (s2 : ms_S) (Q : mm_R), mf_couplesWith s a0 a1 a2 = some (v, s2) → Q (some (.int v)) (ms_H s2) → C 104 [.ref 0, .int a0, .int a1, .int a2] (ms_H s) Q
set_option maxRecDepth 100000 in
theorem mt_couplesWith (B : mm_C) (d : Nat) : mk_couplesWith (mm_ct B mm_Mk mm_Fk mm_PC (d + 1)) := fun s a0 a1 a2 v s2 Q hf hK => Or.inr (mb_couplesWith  s a0 a1 a2 v s2 hf hK)
-- X12_fillsCouples
noncomputable def mf_fillsCouples_j67 (s : ms_S) (v1 : Int32) (v2 : Int32) (v3 : Int32) : Option ((Int32 × ms_S) ⊕ ((ms_S))) :=
some (.inl ((v3 + (1 : Int32)), s))
set_option maxHeartbeats 4000000 in
theorem mb_fillsCouples_j67 {C : mm_C} {Q : mm_R} (h_fillsCalm : mk_fillsCalm C) (h_lowestOf : mk_lowestOf C) (h_isCouple : mk_isCouple C) (h_couplesWith : mk_couplesWith C) (s : ms_S) (v1 : Int32) (v2 : Int32) (v3 : Int32) (r : (Int32 × ms_S) ⊕ ((ms_S))) (hf : mf_fillsCouples_j67 s v1 v2 v3 = some r) (hK : mo_sum (mo_c2 (fun y3 sy => mm_go C mm_Mk mm_Fk P_X12_fillsCouples Q (P_X12_fillsCouples.drop 39) [(0, .ref 0), (1, .int v1), (2, .int v2), (3, .int y3)] [] (ms_H sy) 0 0))  (fun sy => mm_go C mm_Mk mm_Fk P_X12_fillsCouples Q (P_X12_fillsCouples.drop 69) [(0, .ref 0), (1, .int v1)] [] (ms_H sy) 0 0)  r) : mm_go C mm_Mk mm_Fk P_X12_fillsCouples Q (P_X12_fillsCouples.drop 67) [(0, .ref 0), (1, .int v1), (2, .int v2), (3, .int v3)] [] (ms_H s) 0 0 := by
  unfold mf_fillsCouples_j67 at hf
  obtain rfl := Option.some.inj hf
  refine mm_adv 2 (cs' := P_X12_fillsCouples.drop 39) (l' := [(3, .int (v3 + (1 : Int32))), (0, .ref 0), (1, .int v1), (2, .int v2)]) (st' := []) (h' := ms_H s) (bc' := 0) (bs' := 0) (fun n g => g) ?_
  exact mm_re (c := [(0, .ref 0), (1, .int v1), (2, .int v2), (3, .int (v3 + (1 : Int32)))]) hK rfl rfl
noncomputable def mf_fillsCouples_l39 (v1 : Int32) (v2 : Int32) : (Int32 × ms_S) → Option ((Int32 × ms_S) ⊕ ((ms_S))) := fun (w3, s) =>
(if (5 : Int32) ≤ w3 then
some (.inr (s))
else
((mf_isCouple s (v2) (w3) (v1)).bind fun (v_8, s_8) =>
(if v_8 = (0 : Int32) then
(mf_fillsCouples_j67 (s_8) (v1) (v2) (w3))
else
((mf_couplesWith s_8 (v2) (w3) (v1)).bind fun (v_10, s_10) =>
((mo_ag 32 (s_10.2.1 62) v1).bind fun x_11 =>
(if v_10 ≤ x_11 then
(mf_fillsCouples_j67 (s_10) (v1) (v2) (w3))
else
((mf_couplesWith s_10 (v2) (w3) (v1)).bind fun (v_13, s_13) =>
(bif mo_in v1 32 then (mf_fillsCouples_j67 ((ms_sA s_13 62 (upd (s_13.2.1 62) (v1).toNatClampNeg (v_13)))) (v1) (v2) (w3)) else none))))))))
set_option maxHeartbeats 4000000 in
theorem mb_fillsCouples_l39 {C : mm_C} {Q : mm_R} (h_fillsCalm : mk_fillsCalm C) (h_lowestOf : mk_lowestOf C) (h_isCouple : mk_isCouple C) (h_couplesWith : mk_couplesWith C) (v1 : Int32) (v2 : Int32) (t : Int32 × ms_S) (x : (ms_S)) (hl : mo_loop (mf_fillsCouples_l39 v1 v2) t = some x) (hK : (fun sy => mm_go C mm_Mk mm_Fk P_X12_fillsCouples Q (P_X12_fillsCouples.drop 69) [(0, .ref 0), (1, .int v1)] [] (ms_H sy) 0 0) x) : (mo_c2 (fun y3 sy => mm_go C mm_Mk mm_Fk P_X12_fillsCouples Q (P_X12_fillsCouples.drop 39) [(0, .ref 0), (1, .int v1), (2, .int v2), (3, .int y3)] [] (ms_H sy) 0 0)) t := by
  refine mo_loop_go (G := (mo_c2 (fun y3 sy => mm_go C mm_Mk mm_Fk P_X12_fillsCouples Q (P_X12_fillsCouples.drop 39) [(0, .ref 0), (1, .int v1), (2, .int v2), (3, .int y3)] [] (ms_H sy) 0 0)) ) (K := (fun sy => mm_go C mm_Mk mm_Fk P_X12_fillsCouples Q (P_X12_fillsCouples.drop 69) [(0, .ref 0), (1, .int v1)] [] (ms_H sy) 0 0) ) ?_ t x hl hK
  intro t r hf hK
  obtain ⟨w3, s⟩ := t
  unfold mf_fillsCouples_l39 at hf
  by_cases c_7 : (5 : Int32) ≤ w3
  · have hf := mo_pos hf c_7
    obtain rfl := Option.some.inj hf
    refine mm_adv 3 (cs' := P_X12_fillsCouples.drop 69) (l' := [(0, .ref 0), (1, .int v1), (2, .int v2), (3, .int w3)]) (st' := []) (h' := ms_H s) (bc' := 0) (bs' := 0) (fun n g => (And.intro (fun _ => g) (fun q => absurd c_7 q))) ?_
    exact mm_re (c := [(0, .ref 0), (1, .int v1)]) hK rfl rfl
  · have hf := mo_neg hf c_7
    obtain ⟨r_8, hr_8, hf⟩ := mo_bind hf
    obtain ⟨v_8, s_8⟩ := r_8
    by_cases c_9 : v_8 = (0 : Int32)
    · have hf := mo_pos hf c_9
      refine mm_adv 9 (cs' := P_X12_fillsCouples.drop 67) (l' := [(0, .ref 0), (1, .int v1), (2, .int v2), (3, .int w3)]) (st' := []) (h' := ms_H s_8) (bc' := 0) (bs' := 0) (fun n g => (And.intro (fun q => absurd q c_7) (fun _ => (h_isCouple s (v2) (w3) (v1) v_8 s_8 _ hr_8 (And.intro (fun _ => g) (fun q => absurd c_9 q)))))) ?_
      refine mm_re (l' := [(0, .ref 0), (1, .int v1), (2, .int v2), (3, .int w3)]) (c := [(0, .ref 0), (1, .int v1), (2, .int v2), (3, .int w3)]) ?_ rfl rfl
      exact mb_fillsCouples_j67 h_fillsCalm h_lowestOf h_isCouple h_couplesWith s_8 (v1) (v2) (w3) _ hf hK
    · have hf := mo_neg hf c_9
      obtain ⟨r_10, hr_10, hf⟩ := mo_bind hf
      obtain ⟨v_10, s_10⟩ := r_10
      obtain ⟨x_11, hx_11, hf⟩ := mo_bind hf
      obtain ⟨hi_11, rfl⟩ := mo_ag_inv hx_11
      by_cases c_12 : v_10 ≤ ((s_10.2.1 62) (v1).toNatClampNeg)
      · have hf := mo_pos hf c_12
        refine mm_adv 19 (cs' := P_X12_fillsCouples.drop 67) (l' := [(0, .ref 0), (1, .int v1), (2, .int v2), (3, .int w3)]) (st' := []) (h' := ms_H s_10) (bc' := 0) (bs' := 0) (fun n g => (And.intro (fun q => absurd q c_7) (fun _ => (h_isCouple s (v2) (w3) (v1) v_8 s_8 _ hr_8 (And.intro (fun q => absurd q c_9) (fun _ => (h_couplesWith s_8 (v2) (w3) (v1) v_10 s_10 _ hr_10 (And.intro hi_11 (And.intro (fun _ => g) (fun q => absurd c_12 q)))))))))) ?_
        refine mm_re (l' := [(0, .ref 0), (1, .int v1), (2, .int v2), (3, .int w3)]) (c := [(0, .ref 0), (1, .int v1), (2, .int v2), (3, .int w3)]) ?_ rfl rfl
        exact mb_fillsCouples_j67 h_fillsCalm h_lowestOf h_isCouple h_couplesWith s_10 (v1) (v2) (w3) _ hf hK
      · have hf := mo_neg hf c_12
        obtain ⟨r_13, hr_13, hf⟩ := mo_bind hf
        obtain ⟨v_13, s_13⟩ := r_13
        obtain ⟨hi_14, hf⟩ := mo_if hf
        refine mm_adv 28 (cs' := P_X12_fillsCouples.drop 67) (l' := [(0, .ref 0), (1, .int v1), (2, .int v2), (3, .int w3)]) (st' := []) (h' := ms_H (ms_sA s_13 62 (upd (s_13.2.1 62) (v1).toNatClampNeg (v_13)))) (bc' := 0) (bs' := 0) (fun n g => (And.intro (fun q => absurd q c_7) (fun _ => (h_isCouple s (v2) (w3) (v1) v_8 s_8 _ hr_8 (And.intro (fun q => absurd q c_9) (fun _ => (h_couplesWith s_8 (v2) (w3) (v1) v_10 s_10 _ hr_10 (And.intro hi_11 (And.intro (fun q => absurd q c_12) (fun _ => (h_couplesWith s_10 (v2) (w3) (v1) v_13 s_13 _ hr_13 (And.intro hi_14 g)))))))))))) ?_
        refine mm_re (l' := [(0, .ref 0), (1, .int v1), (2, .int v2), (3, .int w3)]) (c := [(0, .ref 0), (1, .int v1), (2, .int v2), (3, .int w3)]) ?_ rfl rfl
        exact mb_fillsCouples_j67 h_fillsCalm h_lowestOf h_isCouple h_couplesWith (ms_sA s_13 62 (upd (s_13.2.1 62) (v1).toNatClampNeg (v_13))) (v1) (v2) (w3) _ hf hK
noncomputable def mf_fillsCouples_l9  : (Int32 × ms_S) → Option ((Int32 × ms_S) ⊕ ((ms_S))) := fun (w1, s) =>
((mo_ag 2 (s.2.1 23) (s.1 18)).bind fun x_2 =>
(if ((1 : Int32) <<< (x_2 &&& 31)) ≤ w1 then
some (.inr (s))
else
((mf_lowestOf (w1)).bind fun v_4 =>
((mo_ag 32 (s.2.1 62) (w1 &&& (((1 : Int32) <<< (v_4 &&& 31)) ^^^ (-1 : Int32)))).bind fun x_5 =>
(bif mo_in w1 32 then ((mo_loop (mf_fillsCouples_l39 (w1) (v_4)) ((v_4 + (1 : Int32)), (ms_sA s 62 (upd (s.2.1 62) (w1).toNatClampNeg (x_5))))).bind fun s_15 =>
some (.inl ((w1 + (1 : Int32)), s_15))) else none)))))
set_option maxHeartbeats 4000000 in
theorem mb_fillsCouples_l9 {C : mm_C} {Q : mm_R} (h_fillsCalm : mk_fillsCalm C) (h_lowestOf : mk_lowestOf C) (h_isCouple : mk_isCouple C) (h_couplesWith : mk_couplesWith C)  (t : Int32 × ms_S) (x : (ms_S)) (hl : mo_loop (mf_fillsCouples_l9 ) t = some x) (hK : (fun sy => mm_go C mm_Mk mm_Fk P_X12_fillsCouples Q (P_X12_fillsCouples.drop 71) [] [] (ms_H sy) 0 0) x) : (mo_c2 (fun y1 sy => mm_go C mm_Mk mm_Fk P_X12_fillsCouples Q (P_X12_fillsCouples.drop 9) [(0, .ref 0), (1, .int y1)] [] (ms_H sy) 0 0)) t := by
  refine mo_loop_go (G := (mo_c2 (fun y1 sy => mm_go C mm_Mk mm_Fk P_X12_fillsCouples Q (P_X12_fillsCouples.drop 9) [(0, .ref 0), (1, .int y1)] [] (ms_H sy) 0 0)) ) (K := (fun sy => mm_go C mm_Mk mm_Fk P_X12_fillsCouples Q (P_X12_fillsCouples.drop 71) [] [] (ms_H sy) 0 0) ) ?_ t x hl hK
  intro t r hf hK
  obtain ⟨w1, s⟩ := t
  unfold mf_fillsCouples_l9 at hf
  obtain ⟨x_2, hx_2, hf⟩ := mo_bind hf
  obtain ⟨hi_2, rfl⟩ := mo_ag_inv hx_2
  by_cases c_3 : ((1 : Int32) <<< (((s.2.1 23) ((s.1 18)).toNatClampNeg) &&& 31)) ≤ w1
  · have hf := mo_pos hf c_3
    obtain rfl := Option.some.inj hf
    refine mm_adv 9 (cs' := P_X12_fillsCouples.drop 71) (l' := [(0, .ref 0), (1, .int w1)]) (st' := []) (h' := ms_H s) (bc' := 0) (bs' := 0) (fun n g => (And.intro hi_2 (And.intro (fun _ => g) (fun q => absurd c_3 q)))) ?_
    exact mm_re (c := []) hK rfl rfl
  · have hf := mo_neg hf c_3
    obtain ⟨v_4, hr_4, hf⟩ := mo_bind hf
    obtain ⟨x_5, hx_5, hf⟩ := mo_bind hf
    obtain ⟨hi_5, rfl⟩ := mo_ag_inv hx_5
    obtain ⟨hi_6, hf⟩ := mo_if hf
    obtain ⟨x_15, hl_15, hf⟩ := mo_bind hf
    refine mm_adv 30 (cs' := P_X12_fillsCouples.drop 39) (l' := [(3, .int (v_4 + (1 : Int32))), (2, .int v_4), (0, .ref 0), (1, .int w1)]) (st' := []) (h' := ms_H (ms_sA s 62 (upd (s.2.1 62) (w1).toNatClampNeg (((s.2.1 62) ((w1 &&& (((1 : Int32) <<< (v_4 &&& 31)) ^^^ (-1 : Int32)))).toNatClampNeg))))) (bc' := 0) (bs' := 0) (fun n g => (And.intro hi_2 (And.intro (fun q => absurd q c_3) (fun _ => (h_lowestOf _ (w1) v_4 _ hr_4 (And.intro hi_5 (And.intro hi_6 g))))))) ?_
    refine mm_re (l' := [(0, .ref 0), (1, .int w1), (2, .int v_4), (3, .int (v_4 + (1 : Int32)))]) (c := [(0, .ref 0), (1, .int w1), (2, .int v_4), (3, .int (v_4 + (1 : Int32)))]) ?_ rfl rfl
    refine mb_fillsCouples_l39 h_fillsCalm h_lowestOf h_isCouple h_couplesWith (w1) (v_4) ((v_4 + (1 : Int32)), (ms_sA s 62 (upd (s.2.1 62) (w1).toNatClampNeg (((s.2.1 62) ((w1 &&& (((1 : Int32) <<< (v_4 &&& 31)) ^^^ (-1 : Int32)))).toNatClampNeg))))) x_15 hl_15 ?_
    obtain ⟨s_15, rfl⟩ : ∃ q, q = x_15 := ⟨_, rfl⟩
    obtain rfl := Option.some.inj hf
    refine mm_adv 2 (cs' := P_X12_fillsCouples.drop 9) (l' := [(1, .int (w1 + (1 : Int32))), (0, .ref 0)]) (st' := []) (h' := ms_H s_15) (bc' := 0) (bs' := 0) (fun n g => g) ?_
    exact mm_re (c := [(0, .ref 0), (1, .int (w1 + (1 : Int32)))]) hK rfl rfl
noncomputable def mf_fillsCouples (s : ms_S)  : Option (ms_S) :=
((mf_fillsCalm s ).bind fun s_1 =>
((mo_loop (mf_fillsCouples_l9 ) ((1 : Int32), (ms_sA s_1 62 (upd (s_1.2.1 62) 0 ((0 : Int32)))))).bind fun s_16 =>
some s_16))
set_option maxHeartbeats 4000000 in
theorem mb_fillsCouples {C : mm_C} {Q : mm_R} (h_fillsCalm : mk_fillsCalm C) (h_lowestOf : mk_lowestOf C) (h_isCouple : mk_isCouple C) (h_couplesWith : mk_couplesWith C) (s : ms_S)  (s2 : ms_S) (hf : mf_fillsCouples s = some s2) (hK : Q (none) (ms_H s2)) : mm_go C mm_Mk mm_Fk P_X12_fillsCouples Q P_X12_fillsCouples [(0, .ref 0)] [] (ms_H s) 0 0 := by
  unfold mf_fillsCouples at hf
  obtain ⟨s_1, hr_1, hf⟩ := mo_bind hf
  obtain ⟨x_16, hl_16, hf⟩ := mo_bind hf
  refine mm_adv 9 (cs' := P_X12_fillsCouples.drop 9) (l' := [(1, .int (1 : Int32)), (0, .ref 0)]) (st' := []) (h' := ms_H (ms_sA s_1 62 (upd (s_1.2.1 62) 0 ((0 : Int32))))) (bc' := 0) (bs' := 0) (fun n g => (h_fillsCalm s  s_1 _ hr_1 (And.intro (mm_vi rfl) g))) ?_
  refine mm_re (l' := [(0, .ref 0), (1, .int (1 : Int32))]) (c := [(0, .ref 0), (1, .int (1 : Int32))]) ?_ rfl rfl
  refine mb_fillsCouples_l9 h_fillsCalm h_lowestOf h_isCouple h_couplesWith  ((1 : Int32), (ms_sA s_1 62 (upd (s_1.2.1 62) 0 ((0 : Int32))))) x_16 hl_16 ?_
  obtain ⟨s_16, rfl⟩ : ∃ q, q = x_16 := ⟨_, rfl⟩
  obtain rfl := Option.some.inj hf
  exact ⟨1, hK⟩
def mk_fillsCouples (C : mm_C) : Prop := ∀ (s : ms_S)  (s2 : ms_S) (Q : mm_R), mf_fillsCouples s = some s2 → Q (none) (ms_H s2) → C 105 [.ref 0] (ms_H s) Q
set_option maxRecDepth 100000 in
theorem mt_fillsCouples (B : mm_C) (d : Nat) : mk_fillsCouples (mm_ct B mm_Mk mm_Fk mm_PC (d + 11)) := fun s s2 Q hf hK => Or.inr (mb_fillsCouples (mt_fillsCalm B (d + 0)) (mt_lowestOf B (d + 9)) (mt_isCouple B (d + 9)) (mt_couplesWith B (d + 9)) s s2 hf hK)
