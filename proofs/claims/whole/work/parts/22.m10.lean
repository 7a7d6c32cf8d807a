/-! the reference, method by method, 10 -/
-- X12_isAsked
noncomputable def mf_isAsked (s : ms_S) (a0 : Int32) (a1 : Int32) : Option (Int32 × ms_S) :=
((mf_in (a0) ((0 : Int32)) ((s.1 63))).bind fun v_1 =>
(if v_1 = (0 : Int32) then
some ((0 : Int32), s)
else
((mf_in (a1) ((1 : Int32)) ((5 : Int32))).bind fun v_3 =>
(if v_3 = (0 : Int32) then
some ((0 : Int32), s)
else
some ((1 : Int32), s)))))
set_option maxHeartbeats 4000000 in
theorem mb_isAsked {C : mm_C} {Q : mm_R} (h_in : mk_in C) (s : ms_S) (a0 : Int32) (a1 : Int32) (v : Int32) (s2 : ms_S) (hf : mf_isAsked s a0 a1 = some (v, s2)) (hK : Q (some (.int v)) (ms_H s2)) : mm_go C mm_Mk mm_Fk P_X12_isAsked Q P_X12_isAsked [(0, .ref 0), (1, .int a0), (2, .int a1)] [] (ms_H s) 0 0 := by
  unfold mf_isAsked at hf
  obtain ⟨v_1, hr_1, hf⟩ := mo_bind hf
  by_cases c_2 : v_1 = (0 : Int32)
  · have hf := mo_pos hf c_2
    obtain ⟨rfl, rfl⟩ := mo_pair hf
    exact ⟨8, (h_in _ (a0) ((0 : Int32)) ((s.1 63)) v_1 _ hr_1 (And.intro (fun _ => (And.intro rfl hK)) (fun q => absurd c_2 q)))⟩
  · have hf := mo_neg hf c_2
    obtain ⟨v_3, hr_3, hf⟩ := mo_bind hf
    by_cases c_4 : v_3 = (0 : Int32)
    · have hf := mo_pos hf c_4
      obtain ⟨rfl, rfl⟩ := mo_pair hf
      exact ⟨13, (h_in _ (a0) ((0 : Int32)) ((s.1 63)) v_1 _ hr_1 (And.intro (fun q => absurd q c_2) (fun _ => (h_in _ (a1) ((1 : Int32)) ((5 : Int32)) v_3 _ hr_3 (And.intro (fun _ => (And.intro rfl hK)) (fun q => absurd c_4 q))))))⟩
    · have hf := mo_neg hf c_4
      obtain ⟨rfl, rfl⟩ := mo_pair hf
      exact ⟨14, (h_in _ (a0) ((0 : Int32)) ((s.1 63)) v_1 _ hr_1 (And.intro (fun q => absurd q c_2) (fun _ => (h_in _ (a1) ((1 : Int32)) ((5 : Int32)) v_3 _ hr_3 (And.intro (fun q => absurd q c_4) (fun _ => (And.intro rfl hK)))))))⟩
def mk_isAsked (C : mm_C) : Prop := ∀ (s : ms_S) (a0 : Int32) (a1 : Int32) (v : Int32) (s2 : ms_S) (Q : mm_R), mf_isAsked s a0 a1 = some (v, s2) → Q (some (.int v)) (ms_H s2) → C 116 [.ref 0, .int a0, .int a1] (ms_H s) Q
set_option maxRecDepth 100000 in
theorem mt_isAsked (B : mm_C) (d : Nat) : mk_isAsked (mm_ct B mm_Mk mm_Fk mm_PC (d + 2)) := fun s a0 a1 v s2 Q hf hK => Or.inr (mb_isAsked (mt_in B (d + 0)) s a0 a1 v s2 hf hK)
-- X12_rows
noncomputable def mf_rows_j39 (s : ms_S) (v1 : Int32) (v2 : Int32) (v3 : Int32) (v4 : Int32) (v5 : Int32) (v6 : Int32) : Option ((Int32 × Int32 × Int32 × ms_S) ⊕ ((Int32 × Int32 × ms_S))) :=
some (.inl (v4, v5, (v6 + (-1 : Int32)), s))
set_option maxHeartbeats 4000000 in
theorem mb_rows_j39 {C : mm_C} {Q : mm_R} (h_isAsked : mk_isAsked C) (h_in : mk_in C) (h_copies : mk_copies C) (h_fillsThen : mk_fillsThen C) (h_sevens : mk_sevens C) (h_numberNow : mk_numberNow C) (h_doesFit : mk_doesFit C) (s : ms_S) (v1 : Int32) (v2 : Int32) (v3 : Int32) (v4 : Int32) (v5 : Int32) (v6 : Int32) (r : (Int32 × Int32 × Int32 × ms_S) ⊕ ((Int32 × Int32 × ms_S))) (hf : mf_rows_j39 s v1 v2 v3 v4 v5 v6 = some r) (hK : mo_sum (mo_c2 (fun y4 => (mo_c2 (fun y5 => (mo_c2 (fun y6 sy => mm_go C mm_Mk mm_Fk P_X12_rows Q (P_X12_rows.drop 25) [(0, .ref 0), (1, .int v1), (2, .int v2), (3, .int v3), (4, .int y4), (5, .int y5), (6, .int y6)] [] (ms_H sy) 0 0))))))  (mo_c2 (fun y4 => (mo_c2 (fun y5 sy => mm_go C mm_Mk mm_Fk P_X12_rows Q (P_X12_rows.drop 41) [(3, .int v3), (4, .int y4), (5, .int y5)] [] (ms_H sy) 0 0))))  r) : mm_go C mm_Mk mm_Fk P_X12_rows Q (P_X12_rows.drop 39) [(0, .ref 0), (1, .int v1), (2, .int v2), (3, .int v3), (4, .int v4), (5, .int v5), (6, .int v6)] [] (ms_H s) 0 0 := by
  unfold mf_rows_j39 at hf
  obtain rfl := Option.some.inj hf
  refine mm_adv 2 (cs' := P_X12_rows.drop 25) (l' := [(6, .int (v6 + (-1 : Int32))), (0, .ref 0), (1, .int v1), (2, .int v2), (3, .int v3), (4, .int v4), (5, .int v5)]) (st' := []) (h' := ms_H s) (bc' := 0) (bs' := 0) (fun n g => g) ?_
  exact mm_re (c := [(0, .ref 0), (1, .int v1), (2, .int v2), (3, .int v3), (4, .int v4), (5, .int v5), (6, .int (v6 + (-1 : Int32)))]) hK rfl rfl
noncomputable def mf_rows_l25 (v1 : Int32) (v2 : Int32) (v3 : Int32) : (Int32 × Int32 × Int32 × ms_S) → Option ((Int32 × Int32 × Int32 × ms_S) ⊕ ((Int32 × Int32 × ms_S))) := fun (w4, w5, w6, s) =>
(if w6 < (0 : Int32) then
some (.inr (w4, w5, s))
else
((mf_numberNow s ).bind fun (v_9, s_9) =>
((mf_doesFit s_9 (v_9) (w6) (v1) (v2)).bind fun (v_10, s_10) =>
(if v_10 = (0 : Int32) then
(mf_rows_j39 (s_10) (v1) (v2) (v3) (w4) (w5) (w6))
else
(mf_rows_j39 (s_10) (v1) (v2) (v3) ((w4 + (1 : Int32))) (w6) (w6))))))
set_option maxHeartbeats 4000000 in
theorem mb_rows_l25 {C : mm_C} {Q : mm_R} (h_isAsked : mk_isAsked C) (h_in : mk_in C) (h_copies : mk_copies C) (h_fillsThen : mk_fillsThen C) (h_sevens : mk_sevens C) (h_numberNow : mk_numberNow C) (h_doesFit : mk_doesFit C) (v1 : Int32) (v2 : Int32) (v3 : Int32) (t : Int32 × Int32 × Int32 × ms_S) (x : (Int32 × Int32 × ms_S)) (hl : mo_loop (mf_rows_l25 v1 v2 v3) t = some x) (hK : (mo_c2 (fun y4 => (mo_c2 (fun y5 sy => mm_go C mm_Mk mm_Fk P_X12_rows Q (P_X12_rows.drop 41) [(3, .int v3), (4, .int y4), (5, .int y5)] [] (ms_H sy) 0 0)))) x) : (mo_c2 (fun y4 => (mo_c2 (fun y5 => (mo_c2 (fun y6 sy => mm_go C mm_Mk mm_Fk P_X12_rows Q (P_X12_rows.drop 25) [(0, .ref 0), (1, .int v1), (2, .int v2), (3, .int v3), (4, .int y4), (5, .int y5), (6, .int y6)] [] (ms_H sy) 0 0)))))) t := by
  refine mo_loop_go (G := (mo_c2 (fun y4 => (mo_c2 (fun y5 => (mo_c2 (fun y6 sy => mm_go C mm_Mk mm_Fk P_X12_rows Q (P_X12_rows.drop 25) [(0, .ref 0), (1, .int v1), (2, .int v2), (3, .int v3), (4, .int y4), (5, .int y5), (6, .int y6)] [] (ms_H sy) 0 0)))))) ) (K := (mo_c2 (fun y4 => (mo_c2 (fun y5 sy => mm_go C mm_Mk mm_Fk P_X12_rows Q (P_X12_rows.drop 41) [(3, .int v3), (4, .int y4), (5, .int y5)] [] (ms_H sy) 0 0)))) ) ?_ t x hl hK
  intro t r hf hK
  obtain ⟨w4, w5, w6, s⟩ := t
  unfold mf_rows_l25 at hf
  by_cases c_8 : w6 < (0 : Int32)
  · have hf := mo_pos hf c_8
    obtain rfl := Option.some.inj hf
    refine mm_adv 2 (cs' := P_X12_rows.drop 41) (l' := [(0, .ref 0), (1, .int v1), (2, .int v2), (3, .int v3), (4, .int w4), (5, .int w5), (6, .int w6)]) (st' := []) (h' := ms_H s) (bc' := 0) (bs' := 0) (fun n g => (And.intro (fun _ => g) (fun q => absurd c_8 q))) ?_
    exact mm_re (c := [(3, .int v3), (4, .int w4), (5, .int w5)]) hK rfl rfl
  · have hf := mo_neg hf c_8
    obtain ⟨r_9, hr_9, hf⟩ := mo_bind hf
    obtain ⟨v_9, s_9⟩ := r_9
    obtain ⟨r_10, hr_10, hf⟩ := mo_bind hf
    obtain ⟨v_10, s_10⟩ := r_10
    by_cases c_11 : v_10 = (0 : Int32)
    · have hf := mo_pos hf c_11
      refine mm_adv 11 (cs' := P_X12_rows.drop 39) (l' := [(0, .ref 0), (1, .int v1), (2, .int v2), (3, .int v3), (4, .int w4), (5, .int w5), (6, .int w6)]) (st' := []) (h' := ms_H s_10) (bc' := 0) (bs' := 0) (fun n g => (And.intro (fun q => absurd q c_8) (fun _ => (h_numberNow s  v_9 s_9 _ hr_9 (h_doesFit s_9 (v_9) (w6) (v1) (v2) v_10 s_10 _ hr_10 (And.intro (fun q => absurd c_11 q) (fun _ => g))))))) ?_
      refine mm_re (l' := [(0, .ref 0), (1, .int v1), (2, .int v2), (3, .int v3), (4, .int w4), (5, .int w5), (6, .int w6)]) (c := [(0, .ref 0), (1, .int v1), (2, .int v2), (3, .int v3), (4, .int w4), (5, .int w5), (6, .int w6)]) ?_ rfl rfl
      exact mb_rows_j39 h_isAsked h_in h_copies h_fillsThen h_sevens h_numberNow h_doesFit s_10 (v1) (v2) (v3) (w4) (w5) (w6) _ hf hK
    · have hf := mo_neg hf c_11
      refine mm_adv 13 (cs' := P_X12_rows.drop 39) (l' := [(5, .int w6), (4, .int (w4 + (1 : Int32))), (0, .ref 0), (1, .int v1), (2, .int v2), (3, .int v3), (6, .int w6)]) (st' := []) (h' := ms_H s_10) (bc' := 0) (bs' := 0) (fun n g => (And.intro (fun q => absurd q c_8) (fun _ => (h_numberNow s  v_9 s_9 _ hr_9 (h_doesFit s_9 (v_9) (w6) (v1) (v2) v_10 s_10 _ hr_10 (And.intro (fun _ => g) (fun q => absurd c_11 q))))))) ?_
      refine mm_re (l' := [(0, .ref 0), (1, .int v1), (2, .int v2), (3, .int v3), (4, .int (w4 + (1 : Int32))), (5, .int w6), (6, .int w6)]) (c := [(0, .ref 0), (1, .int v1), (2, .int v2), (3, .int v3), (4, .int (w4 + (1 : Int32))), (5, .int w6), (6, .int w6)]) ?_ rfl rfl
      exact mb_rows_j39 h_isAsked h_in h_copies h_fillsThen h_sevens h_numberNow h_doesFit s_10 (v1) (v2) (v3) ((w4 + (1 : Int32))) (w6) (w6) _ hf hK
noncomputable def mf_rows (s : ms_S) (a0 : Int32) (a1 : Int32) (a2 : Int32) : Option (Int32 × ms_S) :=
((mf_isAsked s (a0) (a1)).bind fun (v_1, s_1) =>
(if v_1 = (0 : Int32) then
some ((-1 : Int32), s_1)
else
((mf_in (a2) ((0 : Int32)) ((1 : Int32))).bind fun v_3 =>
(if v_3 = (0 : Int32) then
some ((-1 : Int32), s_1)
else
((mf_copies s_1 ).bind fun s_5 =>
((mf_fillsThen s_5 ).bind fun s_6 =>
((mf_sevens (a1)).bind fun v_7 =>
((mo_loop (mf_rows_l25 (a0) (a1) (a2)) ((0 : Int32), (-2 : Int32), (v_7 - (1 : Int32)), s_6)).bind fun (e4_12, e5_12, s_12) =>
(if a2 = (0 : Int32) then
some (e4_12, s_12)
else
some (e5_12, s_12))))))))))
set_option maxHeartbeats 4000000 in
theorem mb_rows {C : mm_C} {Q : mm_R} (h_isAsked : mk_isAsked C) (h_in : mk_in C) (h_copies : mk_copies C) (h_fillsThen : mk_fillsThen C) (h_sevens : mk_sevens C) (h_numberNow : mk_numberNow C) (h_doesFit : mk_doesFit C) (s : ms_S) (a0 : Int32) (a1 : Int32) (a2 : Int32) (v : Int32) (s2 : ms_S) (hf : mf_rows s a0 a1 a2 = some (v, s2)) (hK : Q (some (.int v)) (ms_H s2)) : mm_go C mm_Mk mm_Fk P_X12_rows Q P_X12_rows [(0, .ref 0), (1, .int a0), (2, .int a1), (3, .int a2)] [] (ms_H s) 0 0 := by
  unfold mf_rows at hf
  obtain ⟨r_1, hr_1, hf⟩ := mo_bind hf
  obtain ⟨v_1, s_1⟩ := r_1
  by_cases c_2 : v_1 = (0 : Int32)
  · have hf := mo_pos hf c_2
    obtain ⟨rfl, rfl⟩ := mo_pair hf
    exact ⟨7, (h_isAsked s (a0) (a1) v_1 s_1 _ hr_1 (And.intro (fun _ => hK) (fun q => absurd c_2 q)))⟩
  · have hf := mo_neg hf c_2
    obtain ⟨v_3, hr_3, hf⟩ := mo_bind hf
    by_cases c_4 : v_3 = (0 : Int32)
    · have hf := mo_pos hf c_4
      obtain ⟨rfl, rfl⟩ := mo_pair hf
      exact ⟨12, (h_isAsked s (a0) (a1) v_1 s_1 _ hr_1 (And.intro (fun q => absurd q c_2) (fun _ => (h_in _ (a2) ((0 : Int32)) ((1 : Int32)) v_3 _ hr_3 (And.intro (fun q => absurd c_4 q) (fun _ => hK))))))⟩
    · have hf := mo_neg hf c_4
      obtain ⟨s_5, hr_5, hf⟩ := mo_bind hf
      obtain ⟨s_6, hr_6, hf⟩ := mo_bind hf
      obtain ⟨v_7, hr_7, hf⟩ := mo_bind hf
      obtain ⟨x_12, hl_12, hf⟩ := mo_bind hf
      refine mm_adv 23 (cs' := P_X12_rows.drop 25) (l' := [(6, .int (v_7 - (1 : Int32))), (5, .int (-2 : Int32)), (4, .int (0 : Int32)), (0, .ref 0), (1, .int a0), (2, .int a1), (3, .int a2)]) (st' := []) (h' := ms_H s_6) (bc' := 0) (bs' := 0) (fun n g => (h_isAsked s (a0) (a1) v_1 s_1 _ hr_1 (And.intro (fun q => absurd q c_2) (fun _ => (h_in _ (a2) ((0 : Int32)) ((1 : Int32)) v_3 _ hr_3 (And.intro (fun _ => (h_copies s_1  s_5 _ hr_5 (h_fillsThen s_5  s_6 _ hr_6 (h_sevens _ (a1) v_7 _ hr_7 g)))) (fun q => absurd c_4 q))))))) ?_
      refine mm_re (l' := [(0, .ref 0), (1, .int a0), (2, .int a1), (3, .int a2), (4, .int (0 : Int32)), (5, .int (-2 : Int32)), (6, .int (v_7 - (1 : Int32)))]) (c := [(0, .ref 0), (1, .int a0), (2, .int a1), (3, .int a2), (4, .int (0 : Int32)), (5, .int (-2 : Int32)), (6, .int (v_7 - (1 : Int32)))]) ?_ rfl rfl
      refine mb_rows_l25 h_isAsked h_in h_copies h_fillsThen h_sevens h_numberNow h_doesFit (a0) (a1) (a2) ((0 : Int32), (-2 : Int32), (v_7 - (1 : Int32)), s_6) x_12 hl_12 ?_
      obtain ⟨e4_12, e5_12, s_12⟩ := x_12
      by_cases c_13 : a2 = (0 : Int32)
      · have hf := mo_pos hf c_13
        obtain ⟨rfl, rfl⟩ := mo_pair hf
        exact ⟨5, (And.intro (fun q => absurd c_13 q) (fun _ => hK))⟩
      · have hf := mo_neg hf c_13
        obtain ⟨rfl, rfl⟩ := mo_pair hf
        exact ⟨4, (And.intro (fun _ => hK) (fun q => absurd c_13 q))⟩
def mk_rows (C : mm_C) : Prop := ∀ (s : ms_S) (a0 : Int32) (a1 : Int32) (a2 : Int32) (v : Int32) (s2 : ms_S) (Q : mm_R), mf_rows s a0 a1 a2 = some (v, s2) → Q (some (.int v)) (ms_H s2) → C 117 [.ref 0, .int a0, .int a1, .int a2] (ms_H s) Q
set_option maxRecDepth 100000 in
theorem mt_rows (B : mm_C) (d : Nat) : mk_rows (mm_ct B mm_Mk mm_Fk mm_PC (d + 8)) := fun s a0 a1 a2 v s2 Q hf hK => Or.inr (mb_rows (mt_isAsked B (d + 5)) (mt_in B (d + 6)) (mt_copies B (d + 6)) (mt_fillsThen B (d + 0)) (mt_sevens B (d + 6)) (mt_numberNow B (d + 5)) (mt_doesFit B (d + 6)) s a0 a1 a2 v s2 hf hK)
-- X12_listen
noncomputable def mf_listen_l18 (v1 : Int32) (v2 : Int32) (v3 : Int32) : (Int32 × ms_S) → Option ((Int32 × ms_S) ⊕ ((ms_S))) := fun (w4, s) =>
(if (6 : Int32) ≤ w4 then
some (.inr (s))
else
(bif mo_in w4 6 then some (.inl ((w4 + (1 : Int32)), (ms_sA s 69 (upd (s.2.1 69) (w4).toNatClampNeg ((0 : Int32)))))) else none))
set_option maxHeartbeats 4000000 in
theorem mb_listen_l18 {C : mm_C} {Q : mm_R} (h_isAsked : mk_isAsked C) (h_in : mk_in C) (h_copies : mk_copies C) (h_fillsThen : mk_fillsThen C) (h_sevens : mk_sevens C) (h_numberNow : mk_numberNow C) (h_doesFit : mk_doesFit C) (v1 : Int32) (v2 : Int32) (v3 : Int32) (t : Int32 × ms_S) (x : (ms_S)) (hl : mo_loop (mf_listen_l18 v1 v2 v3) t = some x) (hK : (fun sy => mm_go C mm_Mk mm_Fk P_X12_listen Q (P_X12_listen.drop 28) [(0, .ref 0), (1, .int v1), (2, .int v2), (3, .int v3)] [] (ms_H sy) 0 0) x) : (mo_c2 (fun y4 sy => mm_go C mm_Mk mm_Fk P_X12_listen Q (P_X12_listen.drop 18) [(0, .ref 0), (1, .int v1), (2, .int v2), (3, .int v3), (4, .int y4)] [] (ms_H sy) 0 0)) t := by
  refine mo_loop_go (G := (mo_c2 (fun y4 sy => mm_go C mm_Mk mm_Fk P_X12_listen Q (P_X12_listen.drop 18) [(0, .ref 0), (1, .int v1), (2, .int v2), (3, .int v3), (4, .int y4)] [] (ms_H sy) 0 0)) ) (K := (fun sy => mm_go C mm_Mk mm_Fk P_X12_listen Q (P_X12_listen.drop 28) [(0, .ref 0), (1, .int v1), (2, .int v2), (3, .int v3)] [] (ms_H sy) 0 0) ) ?_ t x hl hK
  intro t r hf hK
  obtain ⟨w4, s⟩ := t
  unfold mf_listen_l18 at hf
  by_cases c_7 : (6 : Int32) ≤ w4
  · have hf := mo_pos hf c_7
    obtain rfl := Option.some.inj hf
    refine mm_adv 3 (cs' := P_X12_listen.drop 28) (l' := [(0, .ref 0), (1, .int v1), (2, .int v2), (3, .int v3), (4, .int w4)]) (st' := []) (h' := ms_H s) (bc' := 0) (bs' := 0) (fun n g => (And.intro (fun _ => g) (fun q => absurd c_7 q))) ?_
    exact mm_re (c := [(0, .ref 0), (1, .int v1), (2, .int v2), (3, .int v3)]) hK rfl rfl
  · have hf := mo_neg hf c_7
    obtain ⟨hi_8, hf⟩ := mo_if hf
    obtain rfl := Option.some.inj hf
    refine mm_adv 10 (cs' := P_X12_listen.drop 18) (l' := [(4, .int (w4 + (1 : Int32))), (0, .ref 0), (1, .int v1), (2, .int v2), (3, .int v3)]) (st' := []) (h' := ms_H (ms_sA s 69 (upd (s.2.1 69) (w4).toNatClampNeg ((0 : Int32))))) (bc' := 0) (bs' := 0) (fun n g => (And.intro (fun q => absurd q c_7) (fun _ => (And.intro hi_8 g)))) ?_
    exact mm_re (c := [(0, .ref 0), (1, .int v1), (2, .int v2), (3, .int v3), (4, .int (w4 + (1 : Int32)))]) hK rfl rfl
noncomputable def mf_listen_j67 (s : ms_S) (v1 : Int32) (v2 : Int32) (v3 : Int32) (v4 : Int32) (v5 : Int32) : Option ((Int32 × Int32 × ms_S) ⊕ ((Int32 × ms_S))) :=
some (.inl (v4, (v5 + (1 : Int32)), s))
set_option maxHeartbeats 4000000 in
theorem mb_listen_j67 {C : mm_C} {Q : mm_R} (h_isAsked : mk_isAsked C) (h_in : mk_in C) (h_copies : mk_copies C) (h_fillsThen : mk_fillsThen C) (h_sevens : mk_sevens C) (h_numberNow : mk_numberNow C) (h_doesFit : mk_doesFit C) (s : ms_S) (v1 : Int32) (v2 : Int32) (v3 : Int32) (v4 : Int32) (v5 : Int32) (r : (Int32 × Int32 × ms_S) ⊕ ((Int32 × ms_S))) (hf : mf_listen_j67 s v1 v2 v3 v4 v5 = some r) (hK : mo_sum (mo_c2 (fun y4 => (mo_c2 (fun y5 sy => mm_go C mm_Mk mm_Fk P_X12_listen Q (P_X12_listen.drop 32) [(0, .ref 0), (1, .int v1), (2, .int v2), (3, .int v3), (4, .int y4), (5, .int y5)] [] (ms_H sy) 0 0))))  (mo_c2 (fun y4 sy => mm_go C mm_Mk mm_Fk P_X12_listen Q (P_X12_listen.drop 69) [(0, .ref 0), (2, .int v2), (4, .int y4)] [] (ms_H sy) 0 0))  r) : mm_go C mm_Mk mm_Fk P_X12_listen Q (P_X12_listen.drop 67) [(0, .ref 0), (1, .int v1), (2, .int v2), (3, .int v3), (4, .int v4), (5, .int v5)] [] (ms_H s) 0 0 := by
  unfold mf_listen_j67 at hf
  obtain rfl := Option.some.inj hf
  refine mm_adv 2 (cs' := P_X12_listen.drop 32) (l' := [(5, .int (v5 + (1 : Int32))), (0, .ref 0), (1, .int v1), (2, .int v2), (3, .int v3), (4, .int v4)]) (st' := []) (h' := ms_H s) (bc' := 0) (bs' := 0) (fun n g => g) ?_
  exact mm_re (c := [(0, .ref 0), (1, .int v1), (2, .int v2), (3, .int v3), (4, .int v4), (5, .int (v5 + (1 : Int32)))]) hK rfl rfl
noncomputable def mf_listen_j65 (s : ms_S) (v1 : Int32) (v2 : Int32) (v3 : Int32) (v4 : Int32) (v5 : Int32) (v6 : Int32) : Option ((Int32 × ms_S) ⊕ ((ms_S))) :=
some (.inl ((v6 + (1 : Int32)), s))
set_option maxHeartbeats 4000000 in
theorem mb_listen_j65 {C : mm_C} {Q : mm_R} (h_isAsked : mk_isAsked C) (h_in : mk_in C) (h_copies : mk_copies C) (h_fillsThen : mk_fillsThen C) (h_sevens : mk_sevens C) (h_numberNow : mk_numberNow C) (h_doesFit : mk_doesFit C) (s : ms_S) (v1 : Int32) (v2 : Int32) (v3 : Int32) (v4 : Int32) (v5 : Int32) (v6 : Int32) (r : (Int32 × ms_S) ⊕ ((ms_S))) (hf : mf_listen_j65 s v1 v2 v3 v4 v5 v6 = some r) (hK : mo_sum (mo_c2 (fun y6 sy => mm_go C mm_Mk mm_Fk P_X12_listen Q (P_X12_listen.drop 48) [(0, .ref 0), (1, .int v1), (2, .int v2), (3, .int v3), (4, .int v4), (5, .int v5), (6, .int y6)] [] (ms_H sy) 0 0))  (fun sy => mm_go C mm_Mk mm_Fk P_X12_listen Q (P_X12_listen.drop 67) [(0, .ref 0), (1, .int v1), (2, .int v2), (3, .int v3), (4, .int v4), (5, .int v5)] [] (ms_H sy) 0 0)  r) : mm_go C mm_Mk mm_Fk P_X12_listen Q (P_X12_listen.drop 65) [(0, .ref 0), (1, .int v1), (2, .int v2), (3, .int v3), (4, .int v4), (5, .int v5), (6, .int v6)] [] (ms_H s) 0 0 := by
  unfold mf_listen_j65 at hf
  obtain rfl := Option.some.inj hf
  refine mm_adv 2 (cs' := P_X12_listen.drop 48) (l' := [(6, .int (v6 + (1 : Int32))), (0, .ref 0), (1, .int v1), (2, .int v2), (3, .int v3), (4, .int v4), (5, .int v5)]) (st' := []) (h' := ms_H s) (bc' := 0) (bs' := 0) (fun n g => g) ?_
  exact mm_re (c := [(0, .ref 0), (1, .int v1), (2, .int v2), (3, .int v3), (4, .int v4), (5, .int v5), (6, .int (v6 + (1 : Int32)))]) hK rfl rfl
noncomputable def mf_listen_l48 (v1 : Int32) (v2 : Int32) (v3 : Int32) (v4 : Int32) (v5 : Int32) : (Int32 × ms_S) → Option ((Int32 × ms_S) ⊕ ((ms_S))) := fun (w6, s) =>
(if v2 < w6 then
some (.inr (s))
else
((mo_ag 6 (s.2.1 67) w6).bind fun x_16 =>
(if x_16 < v3 then
(mf_listen_j65 (s) (v1) (v2) (v3) (v4) (v5) (w6))
else
((mo_ag 6 (s.2.1 69) w6).bind fun x_18 =>
(bif mo_in w6 6 then (mf_listen_j65 ((ms_sA s 69 (upd (s.2.1 69) (w6).toNatClampNeg ((x_18 + (1 : Int32)))))) (v1) (v2) (v3) (v4) (v5) (w6)) else none)))))
set_option maxHeartbeats 4000000 in
theorem mb_listen_l48 {C : mm_C} {Q : mm_R} (h_isAsked : mk_isAsked C) (h_in : mk_in C) (h_copies : mk_copies C) (h_fillsThen : mk_fillsThen C) (h_sevens : mk_sevens C) (h_numberNow : mk_numberNow C) (h_doesFit : mk_doesFit C) (v1 : Int32) (v2 : Int32) (v3 : Int32) (v4 : Int32) (v5 : Int32) (t : Int32 × ms_S) (x : (ms_S)) (hl : mo_loop (mf_listen_l48 v1 v2 v3 v4 v5) t = some x) (hK : (fun sy => mm_go C mm_Mk mm_Fk P_X12_listen Q (P_X12_listen.drop 67) [(0, .ref 0), (1, .int v1), (2, .int v2), (3, .int v3), (4, .int v4), (5, .int v5)] [] (ms_H sy) 0 0) x) : (mo_c2 (fun y6 sy => mm_go C mm_Mk mm_Fk P_X12_listen Q (P_X12_listen.drop 48) [(0, .ref 0), (1, .int v1), (2, .int v2), (3, .int v3), (4, .int v4), (5, .int v5), (6, .int y6)] [] (ms_H sy) 0 0)) t := by
  refine mo_loop_go (G := (mo_c2 (fun y6 sy => mm_go C mm_Mk mm_Fk P_X12_listen Q (P_X12_listen.drop 48) [(0, .ref 0), (1, .int v1), (2, .int v2), (3, .int v3), (4, .int v4), (5, .int v5), (6, .int y6)] [] (ms_H sy) 0 0)) ) (K := (fun sy => mm_go C mm_Mk mm_Fk P_X12_listen Q (P_X12_listen.drop 67) [(0, .ref 0), (1, .int v1), (2, .int v2), (3, .int v3), (4, .int v4), (5, .int v5)] [] (ms_H sy) 0 0) ) ?_ t x hl hK
  intro t r hf hK
  obtain ⟨w6, s⟩ := t
  unfold mf_listen_l48 at hf
  by_cases c_15 : v2 < w6
  · have hf := mo_pos hf c_15
    obtain rfl := Option.some.inj hf
    refine mm_adv 3 (cs' := P_X12_listen.drop 67) (l' := [(0, .ref 0), (1, .int v1), (2, .int v2), (3, .int v3), (4, .int v4), (5, .int v5), (6, .int w6)]) (st' := []) (h' := ms_H s) (bc' := 0) (bs' := 0) (fun n g => (And.intro (fun _ => g) (fun q => absurd c_15 q))) ?_
    exact mm_re (c := [(0, .ref 0), (1, .int v1), (2, .int v2), (3, .int v3), (4, .int v4), (5, .int v5)]) hK rfl rfl
  · have hf := mo_neg hf c_15
    obtain ⟨x_16, hx_16, hf⟩ := mo_bind hf
    obtain ⟨hi_16, rfl⟩ := mo_ag_inv hx_16
    by_cases c_17 : ((s.2.1 67) (w6).toNatClampNeg) < v3
    · have hf := mo_pos hf c_17
      refine mm_adv 9 (cs' := P_X12_listen.drop 65) (l' := [(0, .ref 0), (1, .int v1), (2, .int v2), (3, .int v3), (4, .int v4), (5, .int v5), (6, .int w6)]) (st' := []) (h' := ms_H s) (bc' := 0) (bs' := 0) (fun n g => (And.intro (fun q => absurd q c_15) (fun _ => (And.intro hi_16 (And.intro (fun _ => g) (fun q => absurd c_17 q)))))) ?_
      refine mm_re (l' := [(0, .ref 0), (1, .int v1), (2, .int v2), (3, .int v3), (4, .int v4), (5, .int v5), (6, .int w6)]) (c := [(0, .ref 0), (1, .int v1), (2, .int v2), (3, .int v3), (4, .int v4), (5, .int v5), (6, .int w6)]) ?_ rfl rfl
      exact mb_listen_j65 h_isAsked h_in h_copies h_fillsThen h_sevens h_numberNow h_doesFit s (v1) (v2) (v3) (v4) (v5) (w6) _ hf hK
    · have hf := mo_neg hf c_17
      obtain ⟨x_18, hx_18, hf⟩ := mo_bind hf
      obtain ⟨hi_18, rfl⟩ := mo_ag_inv hx_18
      obtain ⟨hi_19, hf⟩ := mo_if hf
      refine mm_adv 17 (cs' := P_X12_listen.drop 65) (l' := [(0, .ref 0), (1, .int v1), (2, .int v2), (3, .int v3), (4, .int v4), (5, .int v5), (6, .int w6)]) (st' := []) (h' := ms_H (ms_sA s 69 (upd (s.2.1 69) (w6).toNatClampNeg ((((s.2.1 69) (w6).toNatClampNeg) + (1 : Int32)))))) (bc' := 0) (bs' := 0) (fun n g => (And.intro (fun q => absurd q c_15) (fun _ => (And.intro hi_16 (And.intro (fun q => absurd q c_17) (fun _ => (And.intro hi_18 (And.intro hi_19 g)))))))) ?_
      refine mm_re (l' := [(0, .ref 0), (1, .int v1), (2, .int v2), (3, .int v3), (4, .int v4), (5, .int v5), (6, .int w6)]) (c := [(0, .ref 0), (1, .int v1), (2, .int v2), (3, .int v3), (4, .int v4), (5, .int v5), (6, .int w6)]) ?_ rfl rfl
      exact mb_listen_j65 h_isAsked h_in h_copies h_fillsThen h_sevens h_numberNow h_doesFit (ms_sA s 69 (upd (s.2.1 69) (w6).toNatClampNeg ((((s.2.1 69) (w6).toNatClampNeg) + (1 : Int32))))) (v1) (v2) (v3) (v4) (v5) (w6) _ hf hK
noncomputable def mf_listen_l32 (v1 : Int32) (v2 : Int32) (v3 : Int32) : (Int32 × Int32 × ms_S) → Option ((Int32 × Int32 × ms_S) ⊕ ((Int32 × ms_S))) := fun (w4, w5, s) =>
((mf_sevens (v2)).bind fun v_10 =>
(if v_10 ≤ w5 then
some (.inr (w4, s))
else
((mf_numberNow s ).bind fun (v_12, s_12) =>
((mf_doesFit s_12 (v_12) (w5) (v1) (v2)).bind fun (v_13, s_13) =>
(if v_13 = (0 : Int32) then
(mf_listen_j67 (s_13) (v1) (v2) (v3) (w4) (w5))
else
((mo_loop (mf_listen_l48 (v1) (v2) (v3) ((w4 + (1 : Int32))) (w5)) ((1 : Int32), s_13)).bind fun s_20 =>
(mf_listen_j67 (s_20) (v1) (v2) (v3) ((w4 + (1 : Int32))) (w5))))))))
set_option maxHeartbeats 4000000 in
theorem mb_listen_l32 {C : mm_C} {Q : mm_R} (h_isAsked : mk_isAsked C) (h_in : mk_in C) (h_copies : mk_copies C) (h_fillsThen : mk_fillsThen C) (h_sevens : mk_sevens C) (h_numberNow : mk_numberNow C) (h_doesFit : mk_doesFit C) (v1 : Int32) (v2 : Int32) (v3 : Int32) (t : Int32 × Int32 × ms_S) (x : (Int32 × ms_S)) (hl : mo_loop (mf_listen_l32 v1 v2 v3) t = some x) (hK : (mo_c2 (fun y4 sy => mm_go C mm_Mk mm_Fk P_X12_listen Q (P_X12_listen.drop 69) [(0, .ref 0), (2, .int v2), (4, .int y4)] [] (ms_H sy) 0 0)) x) : (mo_c2 (fun y4 => (mo_c2 (fun y5 sy => mm_go C mm_Mk mm_Fk P_X12_listen Q (P_X12_listen.drop 32) [(0, .ref 0), (1, .int v1), (2, .int v2), (3, .int v3), (4, .int y4), (5, .int y5)] [] (ms_H sy) 0 0)))) t := by
  refine mo_loop_go (G := (mo_c2 (fun y4 => (mo_c2 (fun y5 sy => mm_go C mm_Mk mm_Fk P_X12_listen Q (P_X12_listen.drop 32) [(0, .ref 0), (1, .int v1), (2, .int v2), (3, .int v3), (4, .int y4), (5, .int y5)] [] (ms_H sy) 0 0)))) ) (K := (mo_c2 (fun y4 sy => mm_go C mm_Mk mm_Fk P_X12_listen Q (P_X12_listen.drop 69) [(0, .ref 0), (2, .int v2), (4, .int y4)] [] (ms_H sy) 0 0)) ) ?_ t x hl hK
  intro t r hf hK
  obtain ⟨w4, w5, s⟩ := t
  unfold mf_listen_l32 at hf
  obtain ⟨v_10, hr_10, hf⟩ := mo_bind hf
  by_cases c_11 : v_10 ≤ w5
  · have hf := mo_pos hf c_11
    obtain rfl := Option.some.inj hf
    refine mm_adv 4 (cs' := P_X12_listen.drop 69) (l' := [(0, .ref 0), (1, .int v1), (2, .int v2), (3, .int v3), (4, .int w4), (5, .int w5)]) (st' := []) (h' := ms_H s) (bc' := 0) (bs' := 0) (fun n g => (h_sevens _ (v2) v_10 _ hr_10 (And.intro (fun _ => g) (fun q => absurd c_11 q)))) ?_
    exact mm_re (c := [(0, .ref 0), (2, .int v2), (4, .int w4)]) hK rfl rfl
  · have hf := mo_neg hf c_11
    obtain ⟨r_12, hr_12, hf⟩ := mo_bind hf
    obtain ⟨v_12, s_12⟩ := r_12
    obtain ⟨r_13, hr_13, hf⟩ := mo_bind hf
    obtain ⟨v_13, s_13⟩ := r_13
    by_cases c_14 : v_13 = (0 : Int32)
    · have hf := mo_pos hf c_14
      refine mm_adv 13 (cs' := P_X12_listen.drop 67) (l' := [(0, .ref 0), (1, .int v1), (2, .int v2), (3, .int v3), (4, .int w4), (5, .int w5)]) (st' := []) (h' := ms_H s_13) (bc' := 0) (bs' := 0) (fun n g => (h_sevens _ (v2) v_10 _ hr_10 (And.intro (fun q => absurd q c_11) (fun _ => (h_numberNow s  v_12 s_12 _ hr_12 (h_doesFit s_12 (v_12) (w5) (v1) (v2) v_13 s_13 _ hr_13 (And.intro (fun q => absurd c_14 q) (fun _ => g)))))))) ?_
      refine mm_re (l' := [(0, .ref 0), (1, .int v1), (2, .int v2), (3, .int v3), (4, .int w4), (5, .int w5)]) (c := [(0, .ref 0), (1, .int v1), (2, .int v2), (3, .int v3), (4, .int w4), (5, .int w5)]) ?_ rfl rfl
      exact mb_listen_j67 h_isAsked h_in h_copies h_fillsThen h_sevens h_numberNow h_doesFit s_13 (v1) (v2) (v3) (w4) (w5) _ hf hK
    · have hf := mo_neg hf c_14
      obtain ⟨x_20, hl_20, hf⟩ := mo_bind hf
      refine mm_adv 15 (cs' := P_X12_listen.drop 48) (l' := [(6, .int (1 : Int32)), (4, .int (w4 + (1 : Int32))), (0, .ref 0), (1, .int v1), (2, .int v2), (3, .int v3), (5, .int w5)]) (st' := []) (h' := ms_H s_13) (bc' := 0) (bs' := 0) (fun n g => (h_sevens _ (v2) v_10 _ hr_10 (And.intro (fun q => absurd q c_11) (fun _ => (h_numberNow s  v_12 s_12 _ hr_12 (h_doesFit s_12 (v_12) (w5) (v1) (v2) v_13 s_13 _ hr_13 (And.intro (fun _ => g) (fun q => absurd c_14 q)))))))) ?_
      refine mm_re (l' := [(0, .ref 0), (1, .int v1), (2, .int v2), (3, .int v3), (4, .int (w4 + (1 : Int32))), (5, .int w5), (6, .int (1 : Int32))]) (c := [(0, .ref 0), (1, .int v1), (2, .int v2), (3, .int v3), (4, .int (w4 + (1 : Int32))), (5, .int w5), (6, .int (1 : Int32))]) ?_ rfl rfl
      refine mb_listen_l48 h_isAsked h_in h_copies h_fillsThen h_sevens h_numberNow h_doesFit (v1) (v2) (v3) ((w4 + (1 : Int32))) (w5) ((1 : Int32), s_13) x_20 hl_20 ?_
      obtain ⟨s_20, rfl⟩ : ∃ q, q = x_20 := ⟨_, rfl⟩
      refine mm_re (l' := [(0, .ref 0), (1, .int v1), (2, .int v2), (3, .int v3), (4, .int (w4 + (1 : Int32))), (5, .int w5)]) (c := [(0, .ref 0), (1, .int v1), (2, .int v2), (3, .int v3), (4, .int (w4 + (1 : Int32))), (5, .int w5)]) ?_ rfl rfl
      exact mb_listen_j67 h_isAsked h_in h_copies h_fillsThen h_sevens h_numberNow h_doesFit s_20 (v1) (v2) (v3) ((w4 + (1 : Int32))) (w5) _ hf hK
noncomputable def mf_listen_j113 (s : ms_S) (v2 : Int32) (v4 : Int32) (v5 : Int32) (v6 : Int32) (v7 : Int32) : Option ((Int32 × Int32 × Int32 × ms_S) ⊕ ((Int32 × ms_S))) :=
some (.inl (v5, v6, (v7 + (1 : Int32)), s))
set_option maxHeartbeats 4000000 in
theorem mb_listen_j113 {C : mm_C} {Q : mm_R} (h_isAsked : mk_isAsked C) (h_in : mk_in C) (h_copies : mk_copies C) (h_fillsThen : mk_fillsThen C) (h_sevens : mk_sevens C) (h_numberNow : mk_numberNow C) (h_doesFit : mk_doesFit C) (s : ms_S) (v2 : Int32) (v4 : Int32) (v5 : Int32) (v6 : Int32) (v7 : Int32) (r : (Int32 × Int32 × Int32 × ms_S) ⊕ ((Int32 × ms_S))) (hf : mf_listen_j113 s v2 v4 v5 v6 v7 = some r) (hK : mo_sum (mo_c2 (fun y5 => (mo_c2 (fun y6 => (mo_c2 (fun y7 sy => mm_go C mm_Mk mm_Fk P_X12_listen Q (P_X12_listen.drop 75) [(0, .ref 0), (2, .int v2), (4, .int v4), (5, .int y5), (6, .int y6), (7, .int y7)] [] (ms_H sy) 0 0))))))  (mo_c2 (fun y5 sy => mm_go C mm_Mk mm_Fk P_X12_listen Q (P_X12_listen.drop 115) [(5, .int y5)] [] (ms_H sy) 0 0))  r) : mm_go C mm_Mk mm_Fk P_X12_listen Q (P_X12_listen.drop 113) [(0, .ref 0), (2, .int v2), (4, .int v4), (5, .int v5), (6, .int v6), (7, .int v7)] [] (ms_H s) 0 0 := by
  unfold mf_listen_j113 at hf
  obtain rfl := Option.some.inj hf
  refine mm_adv 2 (cs' := P_X12_listen.drop 75) (l' := [(7, .int (v7 + (1 : Int32))), (0, .ref 0), (2, .int v2), (4, .int v4), (5, .int v5), (6, .int v6)]) (st' := []) (h' := ms_H s) (bc' := 0) (bs' := 0) (fun n g => g) ?_
  exact mm_re (c := [(0, .ref 0), (2, .int v2), (4, .int v4), (5, .int v5), (6, .int v6), (7, .int (v7 + (1 : Int32)))]) hK rfl rfl
noncomputable def mf_listen_j109 (s : ms_S) (v2 : Int32) (v4 : Int32) (v7 : Int32) (v8 : Int32) : Option ((Int32 × Int32 × Int32 × ms_S) ⊕ ((Int32 × ms_S))) :=
(mf_listen_j113 (s) (v2) (v4) (v7) (v8) (v7))
set_option maxHeartbeats 4000000 in
theorem mb_listen_j109 {C : mm_C} {Q : mm_R} (h_isAsked : mk_isAsked C) (h_in : mk_in C) (h_copies : mk_copies C) (h_fillsThen : mk_fillsThen C) (h_sevens : mk_sevens C) (h_numberNow : mk_numberNow C) (h_doesFit : mk_doesFit C) (s : ms_S) (v2 : Int32) (v4 : Int32) (v7 : Int32) (v8 : Int32) (r : (Int32 × Int32 × Int32 × ms_S) ⊕ ((Int32 × ms_S))) (hf : mf_listen_j109 s v2 v4 v7 v8 = some r) (hK : mo_sum (mo_c2 (fun y5 => (mo_c2 (fun y6 => (mo_c2 (fun y7 sy => mm_go C mm_Mk mm_Fk P_X12_listen Q (P_X12_listen.drop 75) [(0, .ref 0), (2, .int v2), (4, .int v4), (5, .int y5), (6, .int y6), (7, .int y7)] [] (ms_H sy) 0 0))))))  (mo_c2 (fun y5 sy => mm_go C mm_Mk mm_Fk P_X12_listen Q (P_X12_listen.drop 115) [(5, .int y5)] [] (ms_H sy) 0 0))  r) : mm_go C mm_Mk mm_Fk P_X12_listen Q (P_X12_listen.drop 109) [(0, .ref 0), (2, .int v2), (4, .int v4), (7, .int v7), (8, .int v8)] [] (ms_H s) 0 0 := by
  unfold mf_listen_j109 at hf
  refine mm_adv 4 (cs' := P_X12_listen.drop 113) (l' := [(6, .int v8), (5, .int v7), (0, .ref 0), (2, .int v2), (4, .int v4), (7, .int v7), (8, .int v8)]) (st' := []) (h' := ms_H s) (bc' := 0) (bs' := 0) (fun n g => g) ?_
  refine mm_re (l' := [(0, .ref 0), (2, .int v2), (4, .int v4), (5, .int v7), (6, .int v8), (7, .int v7)]) (c := [(0, .ref 0), (2, .int v2), (4, .int v4), (5, .int v7), (6, .int v8), (7, .int v7)]) ?_ rfl rfl
  exact mb_listen_j113 h_isAsked h_in h_copies h_fillsThen h_sevens h_numberNow h_doesFit s (v2) (v4) (v7) (v8) (v7) _ hf hK
noncomputable def mf_listen_j102 (s : ms_S) (v2 : Int32) (v4 : Int32) (v5 : Int32) (v6 : Int32) (v7 : Int32) (k0 : Int32) : Option ((Int32 × Int32 × Int32 × ms_S) ⊕ ((Int32 × ms_S))) :=
(if v5 < (0 : Int32) then
(mf_listen_j109 (s) (v2) (v4) (v7) (k0))
else
(if k0 < v6 then
(mf_listen_j109 (s) (v2) (v4) (v7) (k0))
else
(mf_listen_j113 (s) (v2) (v4) (v5) (v6) (v7))))
set_option maxHeartbeats 4000000 in
theorem mb_listen_j102 {C : mm_C} {Q : mm_R} (h_isAsked : mk_isAsked C) (h_in : mk_in C) (h_copies : mk_copies C) (h_fillsThen : mk_fillsThen C) (h_sevens : mk_sevens C) (h_numberNow : mk_numberNow C) (h_doesFit : mk_doesFit C) (s : ms_S) (v2 : Int32) (v4 : Int32) (v5 : Int32) (v6 : Int32) (v7 : Int32) (k0 : Int32) (r : (Int32 × Int32 × Int32 × ms_S) ⊕ ((Int32 × ms_S))) (hf : mf_listen_j102 s v2 v4 v5 v6 v7 k0 = some r) (hK : mo_sum (mo_c2 (fun y5 => (mo_c2 (fun y6 => (mo_c2 (fun y7 sy => mm_go C mm_Mk mm_Fk P_X12_listen Q (P_X12_listen.drop 75) [(0, .ref 0), (2, .int v2), (4, .int v4), (5, .int y5), (6, .int y6), (7, .int y7)] [] (ms_H sy) 0 0))))))  (mo_c2 (fun y5 sy => mm_go C mm_Mk mm_Fk P_X12_listen Q (P_X12_listen.drop 115) [(5, .int y5)] [] (ms_H sy) 0 0))  r) : mm_go C mm_Mk mm_Fk P_X12_listen Q (P_X12_listen.drop 102) [(0, .ref 0), (2, .int v2), (4, .int v4), (5, .int v5), (6, .int v6), (7, .int v7)] [.int k0] (ms_H s) 0 0 := by
  unfold mf_listen_j102 at hf
  by_cases c_28 : v5 < (0 : Int32)
  · have hf := mo_pos hf c_28
    refine mm_adv 3 (cs' := P_X12_listen.drop 109) (l' := [(8, .int k0), (0, .ref 0), (2, .int v2), (4, .int v4), (5, .int v5), (6, .int v6), (7, .int v7)]) (st' := []) (h' := ms_H s) (bc' := 0) (bs' := 0) (fun n g => (And.intro (fun _ => g) (fun q => absurd c_28 q))) ?_
    refine mm_re (l' := [(0, .ref 0), (2, .int v2), (4, .int v4), (7, .int v7), (8, .int k0)]) (c := [(0, .ref 0), (2, .int v2), (4, .int v4), (7, .int v7), (8, .int k0)]) ?_ rfl rfl
    exact mb_listen_j109 h_isAsked h_in h_copies h_fillsThen h_sevens h_numberNow h_doesFit s (v2) (v4) (v7) (k0) _ hf hK
  · have hf := mo_neg hf c_28
    by_cases c_29 : k0 < v6
    · have hf := mo_pos hf c_29
      refine mm_adv 6 (cs' := P_X12_listen.drop 109) (l' := [(8, .int k0), (0, .ref 0), (2, .int v2), (4, .int v4), (5, .int v5), (6, .int v6), (7, .int v7)]) (st' := []) (h' := ms_H s) (bc' := 0) (bs' := 0) (fun n g => (And.intro (fun q => absurd q c_28) (fun _ => (And.intro (fun _ => g) (fun q => absurd c_29 q))))) ?_
      refine mm_re (l' := [(0, .ref 0), (2, .int v2), (4, .int v4), (7, .int v7), (8, .int k0)]) (c := [(0, .ref 0), (2, .int v2), (4, .int v4), (7, .int v7), (8, .int k0)]) ?_ rfl rfl
      exact mb_listen_j109 h_isAsked h_in h_copies h_fillsThen h_sevens h_numberNow h_doesFit s (v2) (v4) (v7) (k0) _ hf hK
    · have hf := mo_neg hf c_29
      refine mm_adv 7 (cs' := P_X12_listen.drop 113) (l' := [(8, .int k0), (0, .ref 0), (2, .int v2), (4, .int v4), (5, .int v5), (6, .int v6), (7, .int v7)]) (st' := []) (h' := ms_H s) (bc' := 0) (bs' := 0) (fun n g => (And.intro (fun q => absurd q c_28) (fun _ => (And.intro (fun q => absurd q c_29) (fun _ => g))))) ?_
      refine mm_re (l' := [(0, .ref 0), (2, .int v2), (4, .int v4), (5, .int v5), (6, .int v6), (7, .int v7)]) (c := [(0, .ref 0), (2, .int v2), (4, .int v4), (5, .int v5), (6, .int v6), (7, .int v7)]) ?_ rfl rfl
      exact mb_listen_j113 h_isAsked h_in h_copies h_fillsThen h_sevens h_numberNow h_doesFit s (v2) (v4) (v5) (v6) (v7) _ hf hK
noncomputable def mf_listen_l75 (v2 : Int32) (v4 : Int32) : (Int32 × Int32 × Int32 × ms_S) → Option ((Int32 × Int32 × Int32 × ms_S) ⊕ ((Int32 × ms_S))) := fun (w5, w6, w7, s) =>
(if v2 < w7 then
some (.inr (w5, s))
else
(if v4 ≤ (0 : Int32) then
some (.inr (w5, s))
else
((mo_ag 6 (s.2.1 69) w7).bind fun x_24 =>
((mo_ag 6 (s.2.1 69) w7).bind fun x_25 =>
(if x_24 ≤ (v4 - x_25) then
((mo_ag 6 (s.2.1 69) w7).bind fun x_27 =>
(mf_listen_j102 (s) (v2) (v4) (w5) (w6) (w7) ((v4 - x_27))))
else
((mo_ag 6 (s.2.1 69) w7).bind fun x_30 =>
(mf_listen_j102 (s) (v2) (v4) (w5) (w6) (w7) (x_30))))))))
set_option maxHeartbeats 4000000 in
theorem mb_listen_l75 {C : mm_C} {Q : mm_R} (h_isAsked : mk_isAsked C) (h_in : mk_in C) (h_copies : mk_copies C) (h_fillsThen : mk_fillsThen C) (h_sevens : mk_sevens C) (h_numberNow : mk_numberNow C) (h_doesFit : mk_doesFit C) (v2 : Int32) (v4 : Int32) (t : Int32 × Int32 × Int32 × ms_S) (x : (Int32 × ms_S)) (hl : mo_loop (mf_listen_l75 v2 v4) t = some x) (hK : (mo_c2 (fun y5 sy => mm_go C mm_Mk mm_Fk P_X12_listen Q (P_X12_listen.drop 115) [(5, .int y5)] [] (ms_H sy) 0 0)) x) : (mo_c2 (fun y5 => (mo_c2 (fun y6 => (mo_c2 (fun y7 sy => mm_go C mm_Mk mm_Fk P_X12_listen Q (P_X12_listen.drop 75) [(0, .ref 0), (2, .int v2), (4, .int v4), (5, .int y5), (6, .int y6), (7, .int y7)] [] (ms_H sy) 0 0)))))) t := by
  refine mo_loop_go (G := (mo_c2 (fun y5 => (mo_c2 (fun y6 => (mo_c2 (fun y7 sy => mm_go C mm_Mk mm_Fk P_X12_listen Q (P_X12_listen.drop 75) [(0, .ref 0), (2, .int v2), (4, .int v4), (5, .int y5), (6, .int y6), (7, .int y7)] [] (ms_H sy) 0 0)))))) ) (K := (mo_c2 (fun y5 sy => mm_go C mm_Mk mm_Fk P_X12_listen Q (P_X12_listen.drop 115) [(5, .int y5)] [] (ms_H sy) 0 0)) ) ?_ t x hl hK
  intro t r hf hK
  obtain ⟨w5, w6, w7, s⟩ := t
  unfold mf_listen_l75 at hf
  by_cases c_22 : v2 < w7
  · have hf := mo_pos hf c_22
    obtain rfl := Option.some.inj hf
    refine mm_adv 3 (cs' := P_X12_listen.drop 115) (l' := [(0, .ref 0), (2, .int v2), (4, .int v4), (5, .int w5), (6, .int w6), (7, .int w7)]) (st' := []) (h' := ms_H s) (bc' := 0) (bs' := 0) (fun n g => (And.intro (fun _ => g) (fun q => absurd c_22 q))) ?_
    exact mm_re (c := [(5, .int w5)]) hK rfl rfl
  · have hf := mo_neg hf c_22
    by_cases c_23 : v4 ≤ (0 : Int32)
    · have hf := mo_pos hf c_23
      obtain rfl := Option.some.inj hf
      refine mm_adv 5 (cs' := P_X12_listen.drop 115) (l' := [(0, .ref 0), (2, .int v2), (4, .int v4), (5, .int w5), (6, .int w6), (7, .int w7)]) (st' := []) (h' := ms_H s) (bc' := 0) (bs' := 0) (fun n g => (And.intro (fun q => absurd q c_22) (fun _ => (And.intro (fun _ => g) (fun q => absurd c_23 q))))) ?_
      exact mm_re (c := [(5, .int w5)]) hK rfl rfl
    · have hf := mo_neg hf c_23
      obtain ⟨x_24, hx_24, hf⟩ := mo_bind hf
      obtain ⟨hi_24, rfl⟩ := mo_ag_inv hx_24
      obtain ⟨x_25, hx_25, hf⟩ := mo_bind hf
      obtain ⟨hi_25, rfl⟩ := mo_ag_inv hx_25
      by_cases c_26 : ((s.2.1 69) (w7).toNatClampNeg) ≤ (v4 - ((s.2.1 69) (w7).toNatClampNeg))
      · have hf := mo_pos hf c_26
        obtain ⟨x_27, hx_27, hf⟩ := mo_bind hf
        obtain ⟨hi_27, rfl⟩ := mo_ag_inv hx_27
        refine mm_adv 22 (cs' := P_X12_listen.drop 102) (l' := [(0, .ref 0), (2, .int v2), (4, .int v4), (5, .int w5), (6, .int w6), (7, .int w7)]) (st' := [.int (v4 - ((s.2.1 69) (w7).toNatClampNeg))]) (h' := ms_H s) (bc' := 0) (bs' := 0) (fun n g => (And.intro (fun q => absurd q c_22) (fun _ => (And.intro (fun q => absurd q c_23) (fun _ => (And.intro hi_24 (And.intro hi_25 (And.intro (fun _ => (And.intro hi_27 g)) (fun q => absurd c_26 q))))))))) ?_
        refine mm_re (l' := [(0, .ref 0), (2, .int v2), (4, .int v4), (5, .int w5), (6, .int w6), (7, .int w7)]) (c := [(0, .ref 0), (2, .int v2), (4, .int v4), (5, .int w5), (6, .int w6), (7, .int w7)]) ?_ rfl rfl
        exact mb_listen_j102 h_isAsked h_in h_copies h_fillsThen h_sevens h_numberNow h_doesFit s (v2) (v4) (w5) (w6) (w7) ((v4 - ((s.2.1 69) (w7).toNatClampNeg))) _ hf hK
      · have hf := mo_neg hf c_26
        obtain ⟨x_30, hx_30, hf⟩ := mo_bind hf
        obtain ⟨hi_30, rfl⟩ := mo_ag_inv hx_30
        refine mm_adv 21 (cs' := P_X12_listen.drop 102) (l' := [(0, .ref 0), (2, .int v2), (4, .int v4), (5, .int w5), (6, .int w6), (7, .int w7)]) (st' := [.int ((s.2.1 69) (w7).toNatClampNeg)]) (h' := ms_H s) (bc' := 0) (bs' := 0) (fun n g => (And.intro (fun q => absurd q c_22) (fun _ => (And.intro (fun q => absurd q c_23) (fun _ => (And.intro hi_24 (And.intro hi_25 (And.intro (fun q => absurd q c_26) (fun _ => (And.intro hi_30 g)))))))))) ?_
        refine mm_re (l' := [(0, .ref 0), (2, .int v2), (4, .int v4), (5, .int w5), (6, .int w6), (7, .int w7)]) (c := [(0, .ref 0), (2, .int v2), (4, .int v4), (5, .int w5), (6, .int w6), (7, .int w7)]) ?_ rfl rfl
        exact mb_listen_j102 h_isAsked h_in h_copies h_fillsThen h_sevens h_numberNow h_doesFit s (v2) (v4) (w5) (w6) (w7) (((s.2.1 69) (w7).toNatClampNeg)) _ hf hK
noncomputable def mf_listen (s : ms_S) (a0 : Int32) (a1 : Int32) (a2 : Int32) : Option (Int32 × ms_S) :=
((mf_isAsked s (a0) (a1)).bind fun (v_1, s_1) =>
(if v_1 = (0 : Int32) then
some ((-1 : Int32), s_1)
else
((mf_in (a2) ((0 : Int32)) ((20 : Int32))).bind fun v_3 =>
(if v_3 = (0 : Int32) then
some ((-1 : Int32), s_1)
else
((mf_copies s_1 ).bind fun s_5 =>
((mf_fillsThen s_5 ).bind fun s_6 =>
((mo_loop (mf_listen_l18 (a0) (a1) (a2)) ((0 : Int32), s_6)).bind fun s_9 =>
((mo_loop (mf_listen_l32 (a0) (a1) (a2)) ((0 : Int32), (0 : Int32), s_9)).bind fun (e4_21, s_21) =>
((mo_loop (mf_listen_l75 (a1) (e4_21)) ((-2 : Int32), (0 : Int32), (1 : Int32), s_21)).bind fun (e5_31, s_31) =>
some (e5_31, s_31))))))))))
set_option maxHeartbeats 4000000 in
theorem mb_listen {C : mm_C} {Q : mm_R} (h_isAsked : mk_isAsked C) (h_in : mk_in C) (h_copies : mk_copies C) (h_fillsThen : mk_fillsThen C) (h_sevens : mk_sevens C) (h_numberNow : mk_numberNow C) (h_doesFit : mk_doesFit C) (s : ms_S) (a0 : Int32) (a1 : Int32) (a2 : Int32) (v : Int32) (s2 : ms_S) (hf : mf_listen s a0 a1 a2 = some (v, s2)) (hK : Q (some (.int v)) (ms_H s2)) : mm_go C mm_Mk mm_Fk P_X12_listen Q P_X12_listen [(0, .ref 0), (1, .int a0), (2, .int a1), (3, .int a2)] [] (ms_H s) 0 0 := by
  unfold mf_listen at hf
  obtain ⟨r_1, hr_1, hf⟩ := mo_bind hf
  obtain ⟨v_1, s_1⟩ := r_1
  by_cases c_2 : v_1 = (0 : Int32)
  · have hf := mo_pos hf c_2
    obtain ⟨rfl, rfl⟩ := mo_pair hf
    exact ⟨7, (h_isAsked s (a0) (a1) v_1 s_1 _ hr_1 (And.intro (fun _ => hK) (fun q => absurd c_2 q)))⟩
  · have hf := mo_neg hf c_2
    obtain ⟨v_3, hr_3, hf⟩ := mo_bind hf
    by_cases c_4 : v_3 = (0 : Int32)
    · have hf := mo_pos hf c_4
      obtain ⟨rfl, rfl⟩ := mo_pair hf
      exact ⟨12, (h_isAsked s (a0) (a1) v_1 s_1 _ hr_1 (And.intro (fun q => absurd q c_2) (fun _ => (h_in _ (a2) ((0 : Int32)) ((20 : Int32)) v_3 _ hr_3 (And.intro (fun q => absurd c_4 q) (fun _ => hK))))))⟩
    · have hf := mo_neg hf c_4
      obtain ⟨s_5, hr_5, hf⟩ := mo_bind hf
      obtain ⟨s_6, hr_6, hf⟩ := mo_bind hf
      obtain ⟨x_9, hl_9, hf⟩ := mo_bind hf
      refine mm_adv 16 (cs' := P_X12_listen.drop 18) (l' := [(4, .int (0 : Int32)), (0, .ref 0), (1, .int a0), (2, .int a1), (3, .int a2)]) (st' := []) (h' := ms_H s_6) (bc' := 0) (bs' := 0) (fun n g => (h_isAsked s (a0) (a1) v_1 s_1 _ hr_1 (And.intro (fun q => absurd q c_2) (fun _ => (h_in _ (a2) ((0 : Int32)) ((20 : Int32)) v_3 _ hr_3 (And.intro (fun _ => (h_copies s_1  s_5 _ hr_5 (h_fillsThen s_5  s_6 _ hr_6 g))) (fun q => absurd c_4 q))))))) ?_
      refine mm_re (l' := [(0, .ref 0), (1, .int a0), (2, .int a1), (3, .int a2), (4, .int (0 : Int32))]) (c := [(0, .ref 0), (1, .int a0), (2, .int a1), (3, .int a2), (4, .int (0 : Int32))]) ?_ rfl rfl
      refine mb_listen_l18 h_isAsked h_in h_copies h_fillsThen h_sevens h_numberNow h_doesFit (a0) (a1) (a2) ((0 : Int32), s_6) x_9 hl_9 ?_
      obtain ⟨s_9, rfl⟩ : ∃ q, q = x_9 := ⟨_, rfl⟩
      obtain ⟨x_21, hl_21, hf⟩ := mo_bind hf
      refine mm_adv 4 (cs' := P_X12_listen.drop 32) (l' := [(5, .int (0 : Int32)), (4, .int (0 : Int32)), (0, .ref 0), (1, .int a0), (2, .int a1), (3, .int a2)]) (st' := []) (h' := ms_H s_9) (bc' := 0) (bs' := 0) (fun n g => g) ?_
      refine mm_re (l' := [(0, .ref 0), (1, .int a0), (2, .int a1), (3, .int a2), (4, .int (0 : Int32)), (5, .int (0 : Int32))]) (c := [(0, .ref 0), (1, .int a0), (2, .int a1), (3, .int a2), (4, .int (0 : Int32)), (5, .int (0 : Int32))]) ?_ rfl rfl
      refine mb_listen_l32 h_isAsked h_in h_copies h_fillsThen h_sevens h_numberNow h_doesFit (a0) (a1) (a2) ((0 : Int32), (0 : Int32), s_9) x_21 hl_21 ?_
      obtain ⟨e4_21, s_21⟩ := x_21
      obtain ⟨x_31, hl_31, hf⟩ := mo_bind hf
      refine mm_adv 6 (cs' := P_X12_listen.drop 75) (l' := [(7, .int (1 : Int32)), (6, .int (0 : Int32)), (5, .int (-2 : Int32)), (0, .ref 0), (2, .int a1), (4, .int e4_21)]) (st' := []) (h' := ms_H s_21) (bc' := 0) (bs' := 0) (fun n g => g) ?_
      refine mm_re (l' := [(0, .ref 0), (2, .int a1), (4, .int e4_21), (5, .int (-2 : Int32)), (6, .int (0 : Int32)), (7, .int (1 : Int32))]) (c := [(0, .ref 0), (2, .int a1), (4, .int e4_21), (5, .int (-2 : Int32)), (6, .int (0 : Int32)), (7, .int (1 : Int32))]) ?_ rfl rfl
      refine mb_listen_l75 h_isAsked h_in h_copies h_fillsThen h_sevens h_numberNow h_doesFit (a1) (e4_21) ((-2 : Int32), (0 : Int32), (1 : Int32), s_21) x_31 hl_31 ?_
      obtain ⟨e5_31, s_31⟩ := x_31
      obtain ⟨rfl, rfl⟩ := mo_pair hf
      exact ⟨2, hK⟩
def mk_listen (C : mm_C) : Prop := ∀ (s : ms_S) (a0 : Int32) (a1 : Int32) (a2 : Int32) (v : Int32) (s2 : ms_S) (Q : mm_R), mf_listen s a0 a1 a2 = some (v, s2) → Q (some (.int v)) (ms_H s2) → C 118 [.ref 0, .int a0, .int a1, .int a2] (ms_H s) Q
set_option maxRecDepth 100000 in
theorem mt_listen (B : mm_C) (d : Nat) : mk_listen (mm_ct B mm_Mk mm_Fk mm_PC (d + 8)) := fun s a0 a1 a2 v s2 Q hf hK => Or.inr (mb_listen (mt_isAsked B (d + 5)) (mt_in B (d + 6)) (mt_copies B (d + 6)) (mt_fillsThen B (d + 0)) (mt_sevens B (d + 6)) (mt_numberNow B (d + 5)) (mt_doesFit B (d + 6)) s a0 a1 a2 v s2 hf hK)
-- X12_hold
noncomputable def mf_hold_l14 (v1 : Int32) : (Int32 × ms_S) → Option ((Int32 × ms_S) ⊕ ((ms_S))) := fun (w2, s) =>
(if (12 : Int32) ≤ w2 then
some (.inr (s))
else
((mo_ag 12 (s.2.1 47) w2).bind fun x_5 =>
(bif mo_in (((12 : Int32) * v1) + w2) 36 then some (.inl ((w2 + (1 : Int32)), (ms_sA s 71 (upd (s.2.1 71) ((((12 : Int32) * v1) + w2)).toNatClampNeg (x_5))))) else none)))
set_option maxHeartbeats 4000000 in
theorem mb_hold_l14 {C : mm_C} {Q : mm_R} (h_in : mk_in C) (v1 : Int32) (t : Int32 × ms_S) (x : (ms_S)) (hl : mo_loop (mf_hold_l14 v1) t = some x) (hK : (fun sy => mm_go C mm_Mk mm_Fk P_X12_hold Q (P_X12_hold.drop 31) [] [] (ms_H sy) 0 0) x) : (mo_c2 (fun y2 sy => mm_go C mm_Mk mm_Fk P_X12_hold Q (P_X12_hold.drop 14) [(0, .ref 0), (1, .int v1), (2, .int y2)] [] (ms_H sy) 0 0)) t := by
  refine mo_loop_go (G := (mo_c2 (fun y2 sy => mm_go C mm_Mk mm_Fk P_X12_hold Q (P_X12_hold.drop 14) [(0, .ref 0), (1, .int v1), (2, .int y2)] [] (ms_H sy) 0 0)) ) (K := (fun sy => mm_go C mm_Mk mm_Fk P_X12_hold Q (P_X12_hold.drop 31) [] [] (ms_H sy) 0 0) ) ?_ t x hl hK
  intro t r hf hK
  obtain ⟨w2, s⟩ := t
  unfold mf_hold_l14 at hf
  by_cases c_4 : (12 : Int32) ≤ w2
  · have hf := mo_pos hf c_4
    obtain rfl := Option.some.inj hf
    refine mm_adv 3 (cs' := P_X12_hold.drop 31) (l' := [(0, .ref 0), (1, .int v1), (2, .int w2)]) (st' := []) (h' := ms_H s) (bc' := 0) (bs' := 0) (fun n g => (And.intro (fun _ => g) (fun q => absurd c_4 q))) ?_
    exact mm_re (c := []) hK rfl rfl
  · have hf := mo_neg hf c_4
    obtain ⟨x_5, hx_5, hf⟩ := mo_bind hf
    obtain ⟨hi_5, rfl⟩ := mo_ag_inv hx_5
    obtain ⟨hi_6, hf⟩ := mo_if hf
    obtain rfl := Option.some.inj hf
    refine mm_adv 17 (cs' := P_X12_hold.drop 14) (l' := [(2, .int (w2 + (1 : Int32))), (0, .ref 0), (1, .int v1)]) (st' := []) (h' := ms_H (ms_sA s 71 (upd (s.2.1 71) ((((12 : Int32) * v1) + w2)).toNatClampNeg (((s.2.1 47) (w2).toNatClampNeg))))) (bc' := 0) (bs' := 0) (fun n g => (And.intro (fun q => absurd q c_4) (fun _ => (And.intro hi_5 (And.intro hi_6 g))))) ?_
    exact mm_re (c := [(0, .ref 0), (1, .int v1), (2, .int (w2 + (1 : Int32)))]) hK rfl rfl
noncomputable def mf_hold (s : ms_S) (a0 : Int32) : Option (Int32 × ms_S) :=
((mf_in (a0) ((0 : Int32)) ((2 : Int32))).bind fun v_1 =>
(if v_1 = (0 : Int32) then
some ((0 : Int32), s)
else
(bif mo_in a0 3 then ((mo_loop (mf_hold_l14 (a0)) ((0 : Int32), (ms_sA s 70 (upd (s.2.1 70) (a0).toNatClampNeg ((vp_nar .boolean (1 : Int32))))))).bind fun s_7 =>
some ((1 : Int32), s_7)) else none)))
set_option maxHeartbeats 4000000 in
theorem mb_hold {C : mm_C} {Q : mm_R} (h_in : mk_in C) (s : ms_S) (a0 : Int32) (v : Int32) (s2 : ms_S) (hf : mf_hold s a0 = some (v, s2)) (hK : Q (some (.int v)) (ms_H s2)) : mm_go C mm_Mk mm_Fk P_X12_hold Q P_X12_hold [(0, .ref 0), (1, .int a0)] [] (ms_H s) 0 0 := by
  unfold mf_hold at hf
  obtain ⟨v_1, hr_1, hf⟩ := mo_bind hf
  by_cases c_2 : v_1 = (0 : Int32)
  · have hf := mo_pos hf c_2
    obtain ⟨rfl, rfl⟩ := mo_pair hf
    exact ⟨7, (h_in _ (a0) ((0 : Int32)) ((2 : Int32)) v_1 _ hr_1 (And.intro (fun q => absurd c_2 q) (fun _ => (And.intro rfl hK))))⟩
  · have hf := mo_neg hf c_2
    obtain ⟨hi_3, hf⟩ := mo_if hf
    obtain ⟨x_7, hl_7, hf⟩ := mo_bind hf
    refine mm_adv 12 (cs' := P_X12_hold.drop 14) (l' := [(2, .int (0 : Int32)), (0, .ref 0), (1, .int a0)]) (st' := []) (h' := ms_H (ms_sA s 70 (upd (s.2.1 70) (a0).toNatClampNeg ((vp_nar .boolean (1 : Int32)))))) (bc' := 0) (bs' := 0) (fun n g => (h_in _ (a0) ((0 : Int32)) ((2 : Int32)) v_1 _ hr_1 (And.intro (fun _ => (And.intro hi_3 g)) (fun q => absurd c_2 q)))) ?_
    refine mm_re (l' := [(0, .ref 0), (1, .int a0), (2, .int (0 : Int32))]) (c := [(0, .ref 0), (1, .int a0), (2, .int (0 : Int32))]) ?_ rfl rfl
    refine mb_hold_l14 h_in (a0) ((0 : Int32), (ms_sA s 70 (upd (s.2.1 70) (a0).toNatClampNeg ((vp_nar .boolean (1 : Int32)))))) x_7 hl_7 ?_
    obtain ⟨s_7, rfl⟩ : ∃ q, q = x_7 := ⟨_, rfl⟩
    obtain ⟨rfl, rfl⟩ := mo_pair hf
    exact ⟨2, (And.intro rfl hK)⟩
def mk_hold (C : mm_C) : Prop := ∀ (s : ms_S) (a0 : Int32) (v : Int32) (s2 : ms_S) (Q : mm_R), mf_hold s a0 = some (v, s2) → Q (some (.int v)) (ms_H s2) → C 119 [.ref 0, .int a0] (ms_H s) Q
set_option maxRecDepth 100000 in
theorem mt_hold (B : mm_C) (d : Nat) : mk_hold (mm_ct B mm_Mk mm_Fk mm_PC (d + 2)) := fun s a0 v s2 Q hf hK => Or.inr (mb_hold (mt_in B (d + 0)) s a0 v s2 hf hK)
-- X12_restore
noncomputable def mf_restore_l14 (v1 : Int32) : (Int32 × ms_S) → Option ((Int32 × ms_S) ⊕ ((ms_S))) := fun (w2, s) =>
(if (12 : Int32) ≤ w2 then
some (.inr (s))
else
((mo_ag 36 (s.2.1 71) (((12 : Int32) * v1) + w2)).bind fun x_6 =>
(bif mo_in w2 12 then some (.inl ((w2 + (1 : Int32)), (ms_sA s 47 (upd (s.2.1 47) (w2).toNatClampNeg (x_6))))) else none)))
set_option maxHeartbeats 4000000 in
theorem mb_restore_l14 {C : mm_C} {Q : mm_R} (h_in : mk_in C) (v1 : Int32) (t : Int32 × ms_S) (x : (ms_S)) (hl : mo_loop (mf_restore_l14 v1) t = some x) (hK : (fun sy => mm_go C mm_Mk mm_Fk P_X12_restore Q (P_X12_restore.drop 31) [(0, .ref 0)] [] (ms_H sy) 0 0) x) : (mo_c2 (fun y2 sy => mm_go C mm_Mk mm_Fk P_X12_restore Q (P_X12_restore.drop 14) [(0, .ref 0), (1, .int v1), (2, .int y2)] [] (ms_H sy) 0 0)) t := by
  refine mo_loop_go (G := (mo_c2 (fun y2 sy => mm_go C mm_Mk mm_Fk P_X12_restore Q (P_X12_restore.drop 14) [(0, .ref 0), (1, .int v1), (2, .int y2)] [] (ms_H sy) 0 0)) ) (K := (fun sy => mm_go C mm_Mk mm_Fk P_X12_restore Q (P_X12_restore.drop 31) [(0, .ref 0)] [] (ms_H sy) 0 0) ) ?_ t x hl hK
  intro t r hf hK
  obtain ⟨w2, s⟩ := t
  unfold mf_restore_l14 at hf
  by_cases c_5 : (12 : Int32) ≤ w2
  · have hf := mo_pos hf c_5
    obtain rfl := Option.some.inj hf
    refine mm_adv 3 (cs' := P_X12_restore.drop 31) (l' := [(0, .ref 0), (1, .int v1), (2, .int w2)]) (st' := []) (h' := ms_H s) (bc' := 0) (bs' := 0) (fun n g => (And.intro (fun _ => g) (fun q => absurd c_5 q))) ?_
    exact mm_re (c := [(0, .ref 0)]) hK rfl rfl
  · have hf := mo_neg hf c_5
    obtain ⟨x_6, hx_6, hf⟩ := mo_bind hf
    obtain ⟨hi_6, rfl⟩ := mo_ag_inv hx_6
    obtain ⟨hi_7, hf⟩ := mo_if hf
    obtain rfl := Option.some.inj hf
    refine mm_adv 17 (cs' := P_X12_restore.drop 14) (l' := [(2, .int (w2 + (1 : Int32))), (0, .ref 0), (1, .int v1)]) (st' := []) (h' := ms_H (ms_sA s 47 (upd (s.2.1 47) (w2).toNatClampNeg (((s.2.1 71) ((((12 : Int32) * v1) + w2)).toNatClampNeg))))) (bc' := 0) (bs' := 0) (fun n g => (And.intro (fun q => absurd q c_5) (fun _ => (And.intro hi_6 (And.intro hi_7 g))))) ?_
    exact mm_re (c := [(0, .ref 0), (1, .int v1), (2, .int (w2 + (1 : Int32)))]) hK rfl rfl
noncomputable def mf_restore (s : ms_S) (a0 : Int32) : Option (Int32 × ms_S) :=
((mf_in (a0) ((0 : Int32)) ((2 : Int32))).bind fun v_1 =>
(if v_1 = (0 : Int32) then
some ((0 : Int32), s)
else
((mo_ag 3 (s.2.1 70) a0).bind fun x_3 =>
(if x_3 = (0 : Int32) then
some ((0 : Int32), s)
else
((mo_loop (mf_restore_l14 (a0)) ((0 : Int32), s)).bind fun s_8 =>
some ((1 : Int32), (ms_sI s_8 54 ((0 : Int32)))))))))
set_option maxHeartbeats 4000000 in
theorem mb_restore {C : mm_C} {Q : mm_R} (h_in : mk_in C) (s : ms_S) (a0 : Int32) (v : Int32) (s2 : ms_S) (hf : mf_restore s a0 = some (v, s2)) (hK : Q (some (.int v)) (ms_H s2)) : mm_go C mm_Mk mm_Fk P_X12_restore Q P_X12_restore [(0, .ref 0), (1, .int a0)] [] (ms_H s) 0 0 := by
  unfold mf_restore at hf
  obtain ⟨v_1, hr_1, hf⟩ := mo_bind hf
  by_cases c_2 : v_1 = (0 : Int32)
  · have hf := mo_pos hf c_2
    obtain ⟨rfl, rfl⟩ := mo_pair hf
    exact ⟨7, (h_in _ (a0) ((0 : Int32)) ((2 : Int32)) v_1 _ hr_1 (And.intro (fun _ => (And.intro rfl hK)) (fun q => absurd c_2 q)))⟩
  · have hf := mo_neg hf c_2
    obtain ⟨x_3, hx_3, hf⟩ := mo_bind hf
    obtain ⟨hi_3, rfl⟩ := mo_ag_inv hx_3
    by_cases c_4 : ((s.2.1 70) (a0).toNatClampNeg) = (0 : Int32)
    · have hf := mo_pos hf c_4
      obtain ⟨rfl, rfl⟩ := mo_pair hf
      exact ⟨12, (h_in _ (a0) ((0 : Int32)) ((2 : Int32)) v_1 _ hr_1 (And.intro (fun q => absurd q c_2) (fun _ => (And.intro hi_3 (And.intro (fun q => absurd c_4 q) (fun _ => (And.intro rfl hK)))))))⟩
    · have hf := mo_neg hf c_4
      obtain ⟨x_8, hl_8, hf⟩ := mo_bind hf
      refine mm_adv 12 (cs' := P_X12_restore.drop 14) (l' := [(2, .int (0 : Int32)), (0, .ref 0), (1, .int a0)]) (st' := []) (h' := ms_H s) (bc' := 0) (bs' := 0) (fun n g => (h_in _ (a0) ((0 : Int32)) ((2 : Int32)) v_1 _ hr_1 (And.intro (fun q => absurd q c_2) (fun _ => (And.intro hi_3 (And.intro (fun _ => g) (fun q => absurd c_4 q))))))) ?_
      refine mm_re (l' := [(0, .ref 0), (1, .int a0), (2, .int (0 : Int32))]) (c := [(0, .ref 0), (1, .int a0), (2, .int (0 : Int32))]) ?_ rfl rfl
      refine mb_restore_l14 h_in (a0) ((0 : Int32), s) x_8 hl_8 ?_
      obtain ⟨s_8, rfl⟩ : ∃ q, q = x_8 := ⟨_, rfl⟩
      obtain ⟨rfl, rfl⟩ := mo_pair hf
      exact ⟨5, (And.intro trivial (And.intro rfl hK))⟩
def mk_restore (C : mm_C) : Prop := ∀ (s : ms_S) (a0 : Int32) (v : Int32) (s2 : ms_S) (Q : mm_R), mf_restore s a0 = some (v, s2) → Q (some (.int v)) (ms_H s2) → C 120 [.ref 0, .int a0] (ms_H s) Q
set_option maxRecDepth 100000 in
theorem mt_restore (B : mm_C) (d : Nat) : mk_restore (mm_ct B mm_Mk mm_Fk mm_PC (d + 2)) := fun s a0 v s2 Q hf hK => Or.inr (mb_restore (mt_in B (d + 0)) s a0 v s2 hf hK)
-- X12_count
noncomputable def mf_count_j79 (s : ms_S) (k0 : Int32) (k1 : Int32) : Option (Int32 × ms_S) :=
(if (s.2.1 70 2) = (0 : Int32) then
some (((k1 + k0) + (0 : Int32)), s)
else
some (((k1 + k0) + (1 : Int32)), s))
set_option maxHeartbeats 4000000 in
theorem mb_count_j79 {C : mm_C} {Q : mm_R} (h_copies : mk_copies C) (h_canBits : mk_canBits C) (s : ms_S) (k0 : Int32) (k1 : Int32) (v : Int32) (s2 : ms_S) (hf : mf_count_j79 s k0 k1 = some (v, s2)) (hK : Q (some (.int v)) (ms_H s2)) : mm_go C mm_Mk mm_Fk P_X12_count Q (P_X12_count.drop 79) [(0, .ref 0)] [.int k0, .int k1] (ms_H s) 0 0 := by
  unfold mf_count_j79 at hf
  by_cases c_8 : (s.2.1 70 2) = (0 : Int32)
  · have hf := mo_pos hf c_8
    obtain ⟨rfl, rfl⟩ := mo_pair hf
    exact ⟨9, (And.intro (mm_vi rfl) (And.intro (fun _ => hK) (fun q => absurd c_8 q)))⟩
  · have hf := mo_neg hf c_8
    obtain ⟨rfl, rfl⟩ := mo_pair hf
    exact ⟨10, (And.intro (mm_vi rfl) (And.intro (fun q => absurd q c_8) (fun _ => hK)))⟩
noncomputable def mf_count_j71 (s : ms_S) (k0 : Int32) : Option (Int32 × ms_S) :=
(if (s.2.1 70 1) = (0 : Int32) then
(mf_count_j79 (s) ((0 : Int32)) (k0))
else
(mf_count_j79 (s) ((1 : Int32)) (k0)))
set_option maxHeartbeats 4000000 in
theorem mb_count_j71 {C : mm_C} {Q : mm_R} (h_copies : mk_copies C) (h_canBits : mk_canBits C) (s : ms_S) (k0 : Int32) (v : Int32) (s2 : ms_S) (hf : mf_count_j71 s k0 = some (v, s2)) (hK : Q (some (.int v)) (ms_H s2)) : mm_go C mm_Mk mm_Fk P_X12_count Q (P_X12_count.drop 71) [(0, .ref 0)] [.int k0] (ms_H s) 0 0 := by
  unfold mf_count_j71 at hf
  by_cases c_7 : (s.2.1 70 1) = (0 : Int32)
  · have hf := mo_pos hf c_7
    refine mm_adv 6 (cs' := P_X12_count.drop 79) (l' := [(0, .ref 0)]) (st' := [.int (0 : Int32), .int k0]) (h' := ms_H s) (bc' := 0) (bs' := 0) (fun n g => (And.intro (mm_vi rfl) (And.intro (fun _ => g) (fun q => absurd c_7 q)))) ?_
    refine mm_re (l' := [(0, .ref 0)]) (c := [(0, .ref 0)]) ?_ rfl rfl
    exact mb_count_j79 h_copies h_canBits s ((0 : Int32)) (k0) _ _ hf hK
  · have hf := mo_neg hf c_7
    refine mm_adv 7 (cs' := P_X12_count.drop 79) (l' := [(0, .ref 0)]) (st' := [.int (1 : Int32), .int k0]) (h' := ms_H s) (bc' := 0) (bs' := 0) (fun n g => (And.intro (mm_vi rfl) (And.intro (fun q => absurd q c_7) (fun _ => g)))) ?_
    refine mm_re (l' := [(0, .ref 0)]) (c := [(0, .ref 0)]) ?_ rfl rfl
    exact mb_count_j79 h_copies h_canBits s ((1 : Int32)) (k0) _ _ hf hK
noncomputable def mf_count (s : ms_S) (a0 : Int32) : Option (Int32 × ms_S) :=
((mf_copies s ).bind fun s_1 =>
(if a0 = (0 : Int32) then
((mo_ag 2 (s_1.2.1 23) (s_1.1 18)).bind fun x_3 =>
some (x_3, s_1))
else
(if a0 = (1 : Int32) then
((mo_ag 2 (s_1.2.1 25) (s_1.1 18)).bind fun x_4 =>
some (x_4, s_1))
else
(if a0 = (2 : Int32) then
some ((s_1.2.1 48 0), s_1)
else
(if a0 = (3 : Int32) then
some ((s_1.2.1 48 1), s_1)
else
(if a0 = (4 : Int32) then
(if (s_1.2.1 48 2) = (6 : Int32) then
some ((-2 : Int32), s_1)
else
some ((s_1.2.1 48 2), s_1))
else
(if a0 = (5 : Int32) then
some ((s_1.2.1 48 3), s_1)
else
(if a0 = (6 : Int32) then
some ((s_1.2.1 48 4), s_1)
else
(if a0 = (7 : Int32) then
some ((s_1.2.1 48 5), s_1)
else
(if a0 = (8 : Int32) then
some ((s_1.1 2), s_1)
else
(if a0 = (9 : Int32) then
some ((s_1.1 54), s_1)
else
(if a0 = (10 : Int32) then
some ((s_1.1 63), s_1)
else
(if a0 = (11 : Int32) then
(if (s_1.2.1 70 0) = (0 : Int32) then
(mf_count_j71 (s_1) ((0 : Int32)))
else
(mf_count_j71 (s_1) ((1 : Int32))))
else
(if a0 = (12 : Int32) then
some ((s_1.2.1 48 6), s_1)
else
(if a0 = (13 : Int32) then
((mf_canBits s_1 ).bind fun (v_9, s_9) =>
some (v_9, s_9))
else
some ((-1 : Int32), s_1))))))))))))))))
set_option maxHeartbeats 4000000 in
theorem mb_count {C : mm_C} {Q : mm_R} (h_copies : mk_copies C) (h_canBits : mk_canBits C) (s : ms_S) (a0 : Int32) (v : Int32) (s2 : ms_S) (hf : mf_count s a0 = some (v, s2)) (hK : Q (some (.int v)) (ms_H s2)) : mm_go C mm_Mk mm_Fk P_X12_count Q P_X12_count [(0, .ref 0), (1, .int a0)] [] (ms_H s) 0 0 := by
  unfold mf_count at hf
  obtain ⟨s_1, hr_1, hf⟩ := mo_bind hf
  by_cases c_2_0 : a0 = (0 : Int32)
  · have hf := mo_pos hf c_2_0
    obtain ⟨x_3, hx_3, hf⟩ := mo_bind hf
    obtain ⟨hi_3, rfl⟩ := mo_ag_inv hx_3
    obtain ⟨rfl, rfl⟩ := mo_pair hf
    exact ⟨10, (h_copies s  s_1 _ hr_1 (And.intro (fun _ => (And.intro hi_3 hK)) (fun q => absurd c_2_0 q)))⟩
  replace hf := mo_neg hf c_2_0
  by_cases c_2_1 : a0 = (1 : Int32)
  · have hf := mo_pos hf c_2_1
    obtain ⟨x_4, hx_4, hf⟩ := mo_bind hf
    obtain ⟨hi_4, rfl⟩ := mo_ag_inv hx_4
    obtain ⟨rfl, rfl⟩ := mo_pair hf
    exact ⟨10, (h_copies s  s_1 _ hr_1 (And.intro (fun q => absurd q c_2_0) (fun _ => (And.intro (fun _ => (And.intro hi_4 hK)) (fun q => absurd c_2_1 q)))))⟩
  replace hf := mo_neg hf c_2_1
  by_cases c_2_2 : a0 = (2 : Int32)
  · have hf := mo_pos hf c_2_2
    obtain ⟨rfl, rfl⟩ := mo_pair hf
    exact ⟨9, (h_copies s  s_1 _ hr_1 (And.intro (fun q => absurd q c_2_0) (fun _ => (And.intro (fun q => absurd q c_2_1) (fun _ => (And.intro (fun _ => (And.intro (mm_vi rfl) hK)) (fun q => absurd c_2_2 q)))))))⟩
  replace hf := mo_neg hf c_2_2
  by_cases c_2_3 : a0 = (3 : Int32)
  · have hf := mo_pos hf c_2_3
    obtain ⟨rfl, rfl⟩ := mo_pair hf
    exact ⟨9, (h_copies s  s_1 _ hr_1 (And.intro (fun q => absurd q c_2_0) (fun _ => (And.intro (fun q => absurd q c_2_1) (fun _ => (And.intro (fun q => absurd q c_2_2) (fun _ => (And.intro (fun _ => (And.intro (mm_vi rfl) hK)) (fun q => absurd c_2_3 q)))))))))⟩
  replace hf := mo_neg hf c_2_3
  by_cases c_2_4 : a0 = (4 : Int32)
  · have hf := mo_pos hf c_2_4
    by_cases c_5 : (s_1.2.1 48 2) = (6 : Int32)
    · have hf := mo_pos hf c_5
      obtain ⟨rfl, rfl⟩ := mo_pair hf
      exact ⟨13, (h_copies s  s_1 _ hr_1 (And.intro (fun q => absurd q c_2_0) (fun _ => (And.intro (fun q => absurd q c_2_1) (fun _ => (And.intro (fun q => absurd q c_2_2) (fun _ => (And.intro (fun q => absurd q c_2_3) (fun _ => (And.intro (fun _ => (And.intro (mm_vi rfl) (And.intro (fun q => absurd c_5 q) (fun _ => hK)))) (fun q => absurd c_2_4 q)))))))))))⟩
    · have hf := mo_neg hf c_5
      obtain ⟨rfl, rfl⟩ := mo_pair hf
      exact ⟨15, (h_copies s  s_1 _ hr_1 (And.intro (fun q => absurd q c_2_0) (fun _ => (And.intro (fun q => absurd q c_2_1) (fun _ => (And.intro (fun q => absurd q c_2_2) (fun _ => (And.intro (fun q => absurd q c_2_3) (fun _ => (And.intro (fun _ => (And.intro (mm_vi rfl) (And.intro (fun _ => (And.intro (mm_vi rfl) hK)) (fun q => absurd c_5 q)))) (fun q => absurd c_2_4 q)))))))))))⟩
  replace hf := mo_neg hf c_2_4
  by_cases c_2_5 : a0 = (5 : Int32)
  · have hf := mo_pos hf c_2_5
    obtain ⟨rfl, rfl⟩ := mo_pair hf
    exact ⟨9, (h_copies s  s_1 _ hr_1 (And.intro (fun q => absurd q c_2_0) (fun _ => (And.intro (fun q => absurd q c_2_1) (fun _ => (And.intro (fun q => absurd q c_2_2) (fun _ => (And.intro (fun q => absurd q c_2_3) (fun _ => (And.intro (fun q => absurd q c_2_4) (fun _ => (And.intro (fun _ => (And.intro (mm_vi rfl) hK)) (fun q => absurd c_2_5 q)))))))))))))⟩
  replace hf := mo_neg hf c_2_5
  by_cases c_2_6 : a0 = (6 : Int32)
  · have hf := mo_pos hf c_2_6
    obtain ⟨rfl, rfl⟩ := mo_pair hf
    exact ⟨9, (h_copies s  s_1 _ hr_1 (And.intro (fun q => absurd q c_2_0) (fun _ => (And.intro (fun q => absurd q c_2_1) (fun _ => (And.intro (fun q => absurd q c_2_2) (fun _ => (And.intro (fun q => absurd q c_2_3) (fun _ => (And.intro (fun q => absurd q c_2_4) (fun _ => (And.intro (fun q => absurd q c_2_5) (fun _ => (And.intro (fun _ => (And.intro (mm_vi rfl) hK)) (fun q => absurd c_2_6 q)))))))))))))))⟩
  replace hf := mo_neg hf c_2_6
  by_cases c_2_7 : a0 = (7 : Int32)
  · have hf := mo_pos hf c_2_7
    obtain ⟨rfl, rfl⟩ := mo_pair hf
    exact ⟨9, (h_copies s  s_1 _ hr_1 (And.intro (fun q => absurd q c_2_0) (fun _ => (And.intro (fun q => absurd q c_2_1) (fun _ => (And.intro (fun q => absurd q c_2_2) (fun _ => (And.intro (fun q => absurd q c_2_3) (fun _ => (And.intro (fun q => absurd q c_2_4) (fun _ => (And.intro (fun q => absurd q c_2_5) (fun _ => (And.intro (fun q => absurd q c_2_6) (fun _ => (And.intro (fun _ => (And.intro (mm_vi rfl) hK)) (fun q => absurd c_2_7 q)))))))))))))))))⟩
  replace hf := mo_neg hf c_2_7
  by_cases c_2_8 : a0 = (8 : Int32)
  · have hf := mo_pos hf c_2_8
    obtain ⟨rfl, rfl⟩ := mo_pair hf
    exact ⟨7, (h_copies s  s_1 _ hr_1 (And.intro (fun q => absurd q c_2_0) (fun _ => (And.intro (fun q => absurd q c_2_1) (fun _ => (And.intro (fun q => absurd q c_2_2) (fun _ => (And.intro (fun q => absurd q c_2_3) (fun _ => (And.intro (fun q => absurd q c_2_4) (fun _ => (And.intro (fun q => absurd q c_2_5) (fun _ => (And.intro (fun q => absurd q c_2_6) (fun _ => (And.intro (fun q => absurd q c_2_7) (fun _ => (And.intro (fun _ => hK) (fun q => absurd c_2_8 q)))))))))))))))))))⟩
  replace hf := mo_neg hf c_2_8
  by_cases c_2_9 : a0 = (9 : Int32)
  · have hf := mo_pos hf c_2_9
    obtain ⟨rfl, rfl⟩ := mo_pair hf
    exact ⟨7, (h_copies s  s_1 _ hr_1 (And.intro (fun q => absurd q c_2_0) (fun _ => (And.intro (fun q => absurd q c_2_1) (fun _ => (And.intro (fun q => absurd q c_2_2) (fun _ => (And.intro (fun q => absurd q c_2_3) (fun _ => (And.intro (fun q => absurd q c_2_4) (fun _ => (And.intro (fun q => absurd q c_2_5) (fun _ => (And.intro (fun q => absurd q c_2_6) (fun _ => (And.intro (fun q => absurd q c_2_7) (fun _ => (And.intro (fun q => absurd q c_2_8) (fun _ => (And.intro (fun _ => hK) (fun q => absurd c_2_9 q)))))))))))))))))))))⟩
  replace hf := mo_neg hf c_2_9
  by_cases c_2_10 : a0 = (10 : Int32)
  · have hf := mo_pos hf c_2_10
    obtain ⟨rfl, rfl⟩ := mo_pair hf
    exact ⟨7, (h_copies s  s_1 _ hr_1 (And.intro (fun q => absurd q c_2_0) (fun _ => (And.intro (fun q => absurd q c_2_1) (fun _ => (And.intro (fun q => absurd q c_2_2) (fun _ => (And.intro (fun q => absurd q c_2_3) (fun _ => (And.intro (fun q => absurd q c_2_4) (fun _ => (And.intro (fun q => absurd q c_2_5) (fun _ => (And.intro (fun q => absurd q c_2_6) (fun _ => (And.intro (fun q => absurd q c_2_7) (fun _ => (And.intro (fun q => absurd q c_2_8) (fun _ => (And.intro (fun q => absurd q c_2_9) (fun _ => (And.intro (fun _ => hK) (fun q => absurd c_2_10 q)))))))))))))))))))))))⟩
  replace hf := mo_neg hf c_2_10
  by_cases c_2_11 : a0 = (11 : Int32)
  · have hf := mo_pos hf c_2_11
    by_cases c_6 : (s_1.2.1 70 0) = (0 : Int32)
    · have hf := mo_pos hf c_6
      refine mm_adv 10 (cs' := P_X12_count.drop 71) (l' := [(0, .ref 0), (1, .int a0)]) (st' := [.int (0 : Int32)]) (h' := ms_H s_1) (bc' := 0) (bs' := 0) (fun n g => (h_copies s  s_1 _ hr_1 (And.intro (fun q => absurd q c_2_0) (fun _ => (And.intro (fun q => absurd q c_2_1) (fun _ => (And.intro (fun q => absurd q c_2_2) (fun _ => (And.intro (fun q => absurd q c_2_3) (fun _ => (And.intro (fun q => absurd q c_2_4) (fun _ => (And.intro (fun q => absurd q c_2_5) (fun _ => (And.intro (fun q => absurd q c_2_6) (fun _ => (And.intro (fun q => absurd q c_2_7) (fun _ => (And.intro (fun q => absurd q c_2_8) (fun _ => (And.intro (fun q => absurd q c_2_9) (fun _ => (And.intro (fun q => absurd q c_2_10) (fun _ => (And.intro (fun _ => (And.intro (mm_vi rfl) (And.intro (fun _ => g) (fun q => absurd c_6 q)))) (fun q => absurd c_2_11 q)))))))))))))))))))))))))) ?_
      refine mm_re (l' := [(0, .ref 0)]) (c := [(0, .ref 0)]) ?_ rfl rfl
      exact mb_count_j71 h_copies h_canBits s_1 ((0 : Int32)) _ _ hf hK
    · have hf := mo_neg hf c_6
      refine mm_adv 11 (cs' := P_X12_count.drop 71) (l' := [(0, .ref 0), (1, .int a0)]) (st' := [.int (1 : Int32)]) (h' := ms_H s_1) (bc' := 0) (bs' := 0) (fun n g => (h_copies s  s_1 _ hr_1 (And.intro (fun q => absurd q c_2_0) (fun _ => (And.intro (fun q => absurd q c_2_1) (fun _ => (And.intro (fun q => absurd q c_2_2) (fun _ => (And.intro (fun q => absurd q c_2_3) (fun _ => (And.intro (fun q => absurd q c_2_4) (fun _ => (And.intro (fun q => absurd q c_2_5) (fun _ => (And.intro (fun q => absurd q c_2_6) (fun _ => (And.intro (fun q => absurd q c_2_7) (fun _ => (And.intro (fun q => absurd q c_2_8) (fun _ => (And.intro (fun q => absurd q c_2_9) (fun _ => (And.intro (fun q => absurd q c_2_10) (fun _ => (And.intro (fun _ => (And.intro (mm_vi rfl) (And.intro (fun q => absurd q c_6) (fun _ => g)))) (fun q => absurd c_2_11 q)))))))))))))))))))))))))) ?_
      refine mm_re (l' := [(0, .ref 0)]) (c := [(0, .ref 0)]) ?_ rfl rfl
      exact mb_count_j71 h_copies h_canBits s_1 ((1 : Int32)) _ _ hf hK
  replace hf := mo_neg hf c_2_11
  by_cases c_2_12 : a0 = (12 : Int32)
  · have hf := mo_pos hf c_2_12
    obtain ⟨rfl, rfl⟩ := mo_pair hf
    exact ⟨9, (h_copies s  s_1 _ hr_1 (And.intro (fun q => absurd q c_2_0) (fun _ => (And.intro (fun q => absurd q c_2_1) (fun _ => (And.intro (fun q => absurd q c_2_2) (fun _ => (And.intro (fun q => absurd q c_2_3) (fun _ => (And.intro (fun q => absurd q c_2_4) (fun _ => (And.intro (fun q => absurd q c_2_5) (fun _ => (And.intro (fun q => absurd q c_2_6) (fun _ => (And.intro (fun q => absurd q c_2_7) (fun _ => (And.intro (fun q => absurd q c_2_8) (fun _ => (And.intro (fun q => absurd q c_2_9) (fun _ => (And.intro (fun q => absurd q c_2_10) (fun _ => (And.intro (fun q => absurd q c_2_11) (fun _ => (And.intro (fun _ => (And.intro (mm_vi rfl) hK)) (fun q => absurd c_2_12 q)))))))))))))))))))))))))))⟩
  replace hf := mo_neg hf c_2_12
  by_cases c_2_13 : a0 = (13 : Int32)
  · have hf := mo_pos hf c_2_13
    obtain ⟨r_9, hr_9, hf⟩ := mo_bind hf
    obtain ⟨v_9, s_9⟩ := r_9
    obtain ⟨rfl, rfl⟩ := mo_pair hf
    exact ⟨7, (h_copies s  s_1 _ hr_1 (And.intro (fun q => absurd q c_2_0) (fun _ => (And.intro (fun q => absurd q c_2_1) (fun _ => (And.intro (fun q => absurd q c_2_2) (fun _ => (And.intro (fun q => absurd q c_2_3) (fun _ => (And.intro (fun q => absurd q c_2_4) (fun _ => (And.intro (fun q => absurd q c_2_5) (fun _ => (And.intro (fun q => absurd q c_2_6) (fun _ => (And.intro (fun q => absurd q c_2_7) (fun _ => (And.intro (fun q => absurd q c_2_8) (fun _ => (And.intro (fun q => absurd q c_2_9) (fun _ => (And.intro (fun q => absurd q c_2_10) (fun _ => (And.intro (fun q => absurd q c_2_11) (fun _ => (And.intro (fun q => absurd q c_2_12) (fun _ => (And.intro (fun _ => (h_canBits s_1  v_9 s_9 _ hr_9 hK)) (fun q => absurd c_2_13 q)))))))))))))))))))))))))))))⟩
  replace hf := mo_neg hf c_2_13
  obtain ⟨rfl, rfl⟩ := mo_pair hf
  exact ⟨6, (h_copies s  s_1 _ hr_1 (And.intro (fun q => absurd q c_2_0) (fun _ => (And.intro (fun q => absurd q c_2_1) (fun _ => (And.intro (fun q => absurd q c_2_2) (fun _ => (And.intro (fun q => absurd q c_2_3) (fun _ => (And.intro (fun q => absurd q c_2_4) (fun _ => (And.intro (fun q => absurd q c_2_5) (fun _ => (And.intro (fun q => absurd q c_2_6) (fun _ => (And.intro (fun q => absurd q c_2_7) (fun _ => (And.intro (fun q => absurd q c_2_8) (fun _ => (And.intro (fun q => absurd q c_2_9) (fun _ => (And.intro (fun q => absurd q c_2_10) (fun _ => (And.intro (fun q => absurd q c_2_11) (fun _ => (And.intro (fun q => absurd q c_2_12) (fun _ => (And.intro (fun q => absurd q c_2_13) (fun _ => hK)))))))))))))))))))))))))))))⟩
def mk_count (C : mm_C) : Prop := ∀ (s : ms_S) (a0 : Int32) (v : Int32) (s2 : ms_S) (Q : mm_R), mf_count s a0 = some (v, s2) → Q (some (.int v)) (ms_H s2) → C 121 [.ref 0, .int a0] (ms_H s) Q
set_option maxRecDepth 100000 in
theorem mt_count (B : mm_C) (d : Nat) : mk_count (mm_ct B mm_Mk mm_Fk mm_PC (d + 6)) := fun s a0 v s2 Q hf hK => Or.inr (mb_count (mt_copies B (d + 4)) (mt_canBits B (d + 0)) s a0 v s2 hf hK)
