/-! the class, method by method, 11 -/
-- 2_begin_25_9
noncomputable def xf_2_begin_25_9 (s : xs_S)  : Option (xs_S) :=
((xf_7_evenStanding_9 s ).bind fun (v_1, s_1) =>
((xf_7_fill_53178_26 (xs_sI (xs_sI (xs_sI (xs_sI (xs_sI s_1 400 (v_1)) 401 ((s_1.1 149))) 402 ((s_1.1 150))) 403 ((0 : Int32))) 404 ((0 : Int32))) ((0 : Int32))).bind fun s_2 =>
some s_2))
set_option maxHeartbeats 4000000 in
theorem xb_2_begin_25_9 {C : mm_C} {Q : mm_R} {pt : Value} {ps : Value} {pg : Value} {pr : Value} (h_7_evenStanding_9 : xk_7_evenStanding_9 C) (h_7_fill_53178_26 : xk_7_fill_53178_26 C) (s : xs_S)  (s2 : xs_S) (hf : xf_2_begin_25_9 s = some s2) (hK : Q (none) (xs_H pt ps pg pr s2)) : mm_go C mm_Mk mm_Fk P_X2_begin Q P_X2_begin [(0, .ref 25), (1, .ref 9)] [] (xs_H pt ps pg pr s) 0 0 := by
  unfold xf_2_begin_25_9 at hf
  obtain ⟨r_1, hr_1, hf⟩ := mo_bind hf
  obtain ⟨v_1, s_1⟩ := r_1
  obtain ⟨s_2, hr_2, hf⟩ := mo_bind hf
  obtain rfl := Option.some.inj hf
  exact ⟨23, (h_7_evenStanding_9 pt ps pg pr s  v_1 s_1 _ hr_1 (And.intro trivial (And.intro trivial (And.intro trivial (And.intro trivial (And.intro trivial (h_7_fill_53178_26 pt ps pg pr (xs_sI (xs_sI (xs_sI (xs_sI (xs_sI s_1 400 (v_1)) 401 ((s_1.1 149))) 402 ((s_1.1 150))) 403 ((0 : Int32))) 404 ((0 : Int32))) ((0 : Int32)) s_2 _ hr_2 hK)))))))⟩
def xk_2_begin_25_9 (C : mm_C) : Prop := ∀ (pt : Value) (ps : Value) (pg : Value) (pr : Value) (s : xs_S)  (s2 : xs_S) (Q : mm_R), xf_2_begin_25_9 s = some s2 → Q (none) (xs_H pt ps pg pr s2) → C 148 [.ref 25, .ref 9] (xs_H pt ps pg pr s) Q
-- 1_lay_9_p2n
noncomputable def xf_1_lay_9_p2n_j12 (s : xs_S) (v2 : Int32) (v3 : Int32) : Option (xs_S) :=
((xf_7_fill_53178_118 (xs_sI (xs_sI (xs_sI s 1873 (v2)) 1874 (v3)) 1875 (((s.1 1875) + (1 : Int32)))) ((-1 : Int32))).bind fun s_1 =>
some s_1)
set_option maxHeartbeats 4000000 in
theorem xb_1_lay_9_p2n_j12 {C : mm_C} {Q : mm_R} {pt : Value} {ps : Value} {pr : Value} (h_7_fill_53178_118 : xk_7_fill_53178_118 C) (s : xs_S) (v2 : Int32) (v3 : Int32) (s2 : xs_S) (hf : xf_1_lay_9_p2n_j12 s v2 v3 = some s2) (hK : Q (none) (xs_H pt ps (.ref 9) pr s2)) : mm_go C mm_Mk mm_Fk P_X1_lay Q (P_X1_lay.drop 12) [(0, .ref 117), (1, .ref 9), (2, .int v2), (3, .int v3)] [] (xs_H pt ps (.null) pr s) 0 0 := by
  unfold xf_1_lay_9_p2n_j12 at hf
  obtain ⟨s_1, hr_1, hf⟩ := mo_bind hf
  obtain rfl := Option.some.inj hf
  exact ⟨20, (And.intro trivial (And.intro trivial (And.intro trivial (And.intro trivial (h_7_fill_53178_118 pt ps (.ref 9) pr (xs_sI (xs_sI (xs_sI s 1873 (v2)) 1874 (v3)) 1875 (((s.1 1875) + (1 : Int32)))) ((-1 : Int32)) s_1 _ hr_1 hK)))))⟩
noncomputable def xf_1_lay_9_p2n (s : xs_S) (a1 : Int32) (a2 : Int32) : Option (xs_S) :=
(xf_1_lay_9_p2n_j12 (s) (a1) (a2))
set_option maxHeartbeats 4000000 in
theorem xb_1_lay_9_p2n {C : mm_C} {Q : mm_R} {pt : Value} {ps : Value} {pr : Value} (h_7_fill_53178_118 : xk_7_fill_53178_118 C) (s : xs_S) (a1 : Int32) (a2 : Int32) (s2 : xs_S) (hf : xf_1_lay_9_p2n s a1 a2 = some s2) (hK : Q (none) (xs_H pt ps (.ref 9) pr s2)) : mm_go C mm_Mk mm_Fk P_X1_lay Q P_X1_lay [(0, .ref 117), (1, .ref 9), (2, .int a1), (3, .int a2)] [] (xs_H pt ps (.null) pr s) 0 0 := by
  unfold xf_1_lay_9_p2n at hf
  refine mm_adv 3 (cs' := P_X1_lay.drop 12) (l' := [(0, .ref 117), (1, .ref 9), (2, .int a1), (3, .int a2)]) (st' := []) (h' := (xs_H pt ps (.null) pr s)) (bc' := 0) (bs' := 0) (fun n g => g) ?_
  refine mm_re (l' := [(0, .ref 117), (1, .ref 9), (2, .int a1), (3, .int a2)]) (c := [(0, .ref 117), (1, .ref 9), (2, .int a1), (3, .int a2)]) ?_ rfl rfl
  exact xb_1_lay_9_p2n_j12 h_7_fill_53178_118 s (a1) (a2) _ hf hK
def xk_1_lay_9_p2n (C : mm_C) : Prop := ∀ (pt : Value) (ps : Value) (pr : Value) (s : xs_S) (a1 : Int32) (a2 : Int32) (s2 : xs_S) (Q : mm_R), xf_1_lay_9_p2n s a1 a2 = some s2 → Q (none) (xs_H pt ps (.ref 9) pr s2) → C 137 [.ref 117, .ref 9, .int a1, .int a2] (xs_H pt ps (.null) pr s) Q
-- 11_beginAnew
noncomputable def xf_11_beginAnew_l15  : (Int32 × xs_S) → Option ((Int32 × xs_S) ⊕ ((xs_S))) := fun (w1, s) =>
(if (3 : Int32) ≤ w1 then
some (.inr (s))
else
(bif mo_in w1 3 then some (.inl ((w1 + (1 : Int32)), (xs_sA s 116 (upd (s.2.1 116) (w1).toNatClampNeg ((vp_nar .boolean (0 : Int32))))))) else none))
set_option maxHeartbeats 4000000 in
theorem xb_11_beginAnew_l15 {C : mm_C} {Q : mm_R} {ps : Value} {pr : Value} (h_2_begin_25_9 : xk_2_begin_25_9 C) (h_7_fill_53178_138 : xk_7_fill_53178_138 C) (h_1_lift : xk_1_lift C) (h_1_lay_9_p2n : xk_1_lay_9_p2n C)  (t : Int32 × xs_S) (x : (xs_S)) (hl : mo_loop (xf_11_beginAnew_l15 ) t = some x) (hK : (fun sy => mm_go C mm_Mk mm_Fk P_X11_beginAnew Q (P_X11_beginAnew.drop 25) [(0, .ref 0)] [] (xs_H (.ref 9) ps (.ref 9) pr sy) 0 0) x) : (mo_c2 (fun y1 sy => mm_go C mm_Mk mm_Fk P_X11_beginAnew Q (P_X11_beginAnew.drop 15) [(0, .ref 0), (1, .int y1)] [] (xs_H (.ref 9) ps (.ref 9) pr sy) 0 0)) t := by
  refine mo_loop_go (G := (mo_c2 (fun y1 sy => mm_go C mm_Mk mm_Fk P_X11_beginAnew Q (P_X11_beginAnew.drop 15) [(0, .ref 0), (1, .int y1)] [] (xs_H (.ref 9) ps (.ref 9) pr sy) 0 0)) ) (K := (fun sy => mm_go C mm_Mk mm_Fk P_X11_beginAnew Q (P_X11_beginAnew.drop 25) [(0, .ref 0)] [] (xs_H (.ref 9) ps (.ref 9) pr sy) 0 0) ) ?_ t x hl hK
  intro t r hf hK
  obtain ⟨w1, s⟩ := t
  unfold xf_11_beginAnew_l15 at hf
  by_cases c_2 : (3 : Int32) ≤ w1
  · have hf := mo_pos hf c_2
    obtain rfl := Option.some.inj hf
    refine mm_adv 3 (cs' := P_X11_beginAnew.drop 25) (l' := [(0, .ref 0), (1, .int w1)]) (st' := []) (h' := (xs_H (.ref 9) ps (.ref 9) pr s)) (bc' := 0) (bs' := 0) (fun n g => (And.intro (fun _ => g) (fun q => absurd c_2 q))) ?_
    exact mm_re (c := [(0, .ref 0)]) hK rfl rfl
  · have hf := mo_neg hf c_2
    obtain ⟨hi_3, hf⟩ := mo_if hf
    obtain rfl := Option.some.inj hf
    refine mm_adv 10 (cs' := P_X11_beginAnew.drop 15) (l' := [(1, .int (w1 + (1 : Int32))), (0, .ref 0)]) (st' := []) (h' := (xs_H (.ref 9) ps (.ref 9) pr (xs_sA s 116 (upd (s.2.1 116) (w1).toNatClampNeg ((vp_nar .boolean (0 : Int32))))))) (bc' := 0) (bs' := 0) (fun n g => (And.intro (fun q => absurd q c_2) (fun _ => (And.intro hi_3 g)))) ?_
    exact mm_re (c := [(0, .ref 0), (1, .int (w1 + (1 : Int32)))]) hK rfl rfl
noncomputable def xf_11_beginAnew (s : xs_S)  : Option (xs_S) :=
((xf_2_begin_25_9 s ).bind fun s_1 =>
((mo_loop (xf_11_beginAnew_l15 ) ((0 : Int32), (xs_sI (xs_sI s_1 434 ((0 : Int32))) 1924 ((0 : Int32))))).bind fun s_4 =>
((xf_7_fill_53178_138 s_4 ((-1 : Int32))).bind fun s_5 =>
((xf_1_lift s_5 ).bind fun s_6 =>
((xf_1_lay_9_p2n s_6 ((s_6.1 401)) ((s_6.1 402))).bind fun s_7 =>
some s_7)))))
set_option maxHeartbeats 4000000 in
theorem xb_11_beginAnew {C : mm_C} {Q : mm_R} {ps : Value} {pr : Value} (h_2_begin_25_9 : xk_2_begin_25_9 C) (h_7_fill_53178_138 : xk_7_fill_53178_138 C) (h_1_lift : xk_1_lift C) (h_1_lay_9_p2n : xk_1_lay_9_p2n C) (s : xs_S)  (s2 : xs_S) (hf : xf_11_beginAnew s = some s2) (hK : Q (none) (xs_H (.ref 9) ps (.ref 9) pr s2)) : mm_go C mm_Mk mm_Fk P_X11_beginAnew Q P_X11_beginAnew [(0, .ref 0)] [] (xs_H (.ref 9) ps (.ref 9) pr s) 0 0 := by
  unfold xf_11_beginAnew at hf
  obtain ⟨s_1, hr_1, hf⟩ := mo_bind hf
  obtain ⟨x_4, hl_4, hf⟩ := mo_bind hf
  refine mm_adv 15 (cs' := P_X11_beginAnew.drop 15) (l' := [(1, .int (0 : Int32)), (0, .ref 0)]) (st' := []) (h' := (xs_H (.ref 9) ps (.ref 9) pr (xs_sI (xs_sI s_1 434 ((0 : Int32))) 1924 ((0 : Int32))))) (bc' := 0) (bs' := 0) (fun n g => (h_2_begin_25_9 (.ref 9) ps (.ref 9) pr s  s_1 _ hr_1 (And.intro trivial (And.intro trivial g)))) ?_
  refine mm_re (l' := [(0, .ref 0), (1, .int (0 : Int32))]) (c := [(0, .ref 0), (1, .int (0 : Int32))]) ?_ rfl rfl
  refine xb_11_beginAnew_l15 h_2_begin_25_9 h_7_fill_53178_138 h_1_lift h_1_lay_9_p2n  ((0 : Int32), (xs_sI (xs_sI s_1 434 ((0 : Int32))) 1924 ((0 : Int32)))) x_4 hl_4 ?_
  obtain ⟨s_4, rfl⟩ : ∃ q, q = x_4 := ⟨_, rfl⟩
  obtain ⟨s_5, hr_5, hf⟩ := mo_bind hf
  obtain ⟨s_6, hr_6, hf⟩ := mo_bind hf
  obtain ⟨s_7, hr_7, hf⟩ := mo_bind hf
  obtain rfl := Option.some.inj hf
  exact ⟨19, (h_7_fill_53178_138 (.ref 9) ps (.ref 9) pr s_4 ((-1 : Int32)) s_5 _ hr_5 (h_1_lift (.ref 9) ps pr s_5  s_6 _ hr_6 (h_1_lay_9_p2n (.ref 9) ps pr s_6 ((s_6.1 401)) ((s_6.1 402)) s_7 _ hr_7 hK)))⟩
def xk_11_beginAnew (C : mm_C) : Prop := ∀ (ps : Value) (pr : Value) (s : xs_S)  (s2 : xs_S) (Q : mm_R), xf_11_beginAnew s = some s2 → Q (none) (xs_H (.ref 9) ps (.ref 9) pr s2) → C 261 [.ref 0] (xs_H (.ref 9) ps (.ref 9) pr s) Q
