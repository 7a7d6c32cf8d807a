/-! the class, method by method, 10 -/
-- 0_foresee
noncomputable def xf_0_foresee_j25 (s : xs_S) (v1 : Int32) (v2 : Int32) : Option (Int32 × xs_S) :=
((xf_0_spread s (v1) (v2)).bind fun s_3 =>
((xf_0_settle s_3 ).bind fun s_4 =>
((mo_ag 294 (s_4.2.1 129) v1).bind fun x_5 =>
some (x_5, s_4))))
set_option maxHeartbeats 4000000 in
theorem xb_0_foresee_j25 {C : mm_C} {Q : mm_R} {pt : Value} {ps : Value} {pr : Value} (h_0_spread : xk_0_spread C) (h_0_settle : xk_0_settle C) (s : xs_S) (v1 : Int32) (v2 : Int32) (v : Int32) (s2 : xs_S) (hf : xf_0_foresee_j25 s v1 v2 = some (v, s2)) (hK : Q (some (.int v)) (xs_H pt ps (.ref 9) pr s2)) : mm_go C mm_Mk mm_Fk P_X0_foresee Q (P_X0_foresee.drop 25) [(0, .ref 126), (1, .int v1), (2, .int v2)] [] (xs_H pt ps (.ref 9) pr s) 0 0 := by
  unfold xf_0_foresee_j25 at hf
  obtain ⟨s_3, hr_3, hf⟩ := mo_bind hf
  obtain ⟨s_4, hr_4, hf⟩ := mo_bind hf
  obtain ⟨x_5, hx_5, hf⟩ := mo_bind hf
  obtain ⟨hi_5, rfl⟩ := mo_ag_inv hx_5
  obtain ⟨rfl, rfl⟩ := mo_pair hf
  exact ⟨11, (h_0_spread pt ps pr s (v1) (v2) s_3 _ hr_3 (h_0_settle pt ps (.ref 9) pr s_3  s_4 _ hr_4 (And.intro hi_5 hK)))⟩
noncomputable def xf_0_foresee_j16 (s : xs_S) (v1 : Int32) (v2 : Int32) (k0 : Int32) : Option (Int32 × xs_S) :=
(if k0 = (0 : Int32) then
(xf_0_foresee_j25 (s) (v1) (v2))
else
((mo_ag 294 (s.2.1 128) v1).bind fun x_6 =>
(if x_6 = (-1 : Int32) then
(xf_0_foresee_j25 (s) (v1) (v2))
else
((mo_ag 294 (s.2.1 129) v1).bind fun x_8 =>
some (x_8, s)))))
set_option maxHeartbeats 4000000 in
theorem xb_0_foresee_j16 {C : mm_C} {Q : mm_R} {pt : Value} {ps : Value} {pr : Value} (h_0_spread : xk_0_spread C) (h_0_settle : xk_0_settle C) (s : xs_S) (v1 : Int32) (v2 : Int32) (k0 : Int32) (v : Int32) (s2 : xs_S) (hf : xf_0_foresee_j16 s v1 v2 k0 = some (v, s2)) (hK : Q (some (.int v)) (xs_H pt ps (.ref 9) pr s2)) : mm_go C mm_Mk mm_Fk P_X0_foresee Q (P_X0_foresee.drop 16) [(0, .ref 126), (1, .int v1), (2, .int v2)] [.int k0] (xs_H pt ps (.ref 9) pr s) 0 0 := by
  unfold xf_0_foresee_j16 at hf
  by_cases c_2 : k0 = (0 : Int32)
  · have hf := mo_pos hf c_2
    refine mm_adv 3 (cs' := P_X0_foresee.drop 25) (l' := [(3, .int k0), (0, .ref 126), (1, .int v1), (2, .int v2)]) (st' := []) (h' := (xs_H pt ps (.ref 9) pr s)) (bc' := 0) (bs' := 0) (fun n g => (And.intro (fun _ => g) (fun q => absurd c_2 q))) ?_
    refine mm_re (l' := [(0, .ref 126), (1, .int v1), (2, .int v2)]) (c := [(0, .ref 126), (1, .int v1), (2, .int v2)]) ?_ rfl rfl
    exact xb_0_foresee_j25 h_0_spread h_0_settle s (v1) (v2) _ _ hf hK
  · have hf := mo_neg hf c_2
    obtain ⟨x_6, hx_6, hf⟩ := mo_bind hf
    obtain ⟨hi_6, rfl⟩ := mo_ag_inv hx_6
    by_cases c_7 : ((s.2.1 128) (v1).toNatClampNeg) = (-1 : Int32)
    · have hf := mo_pos hf c_7
      refine mm_adv 9 (cs' := P_X0_foresee.drop 25) (l' := [(3, .int k0), (0, .ref 126), (1, .int v1), (2, .int v2)]) (st' := []) (h' := (xs_H pt ps (.ref 9) pr s)) (bc' := 0) (bs' := 0) (fun n g => (And.intro (fun q => absurd q c_2) (fun _ => (And.intro hi_6 (And.intro (fun q => absurd c_7 q) (fun _ => g)))))) ?_
      refine mm_re (l' := [(0, .ref 126), (1, .int v1), (2, .int v2)]) (c := [(0, .ref 126), (1, .int v1), (2, .int v2)]) ?_ rfl rfl
      exact xb_0_foresee_j25 h_0_spread h_0_settle s (v1) (v2) _ _ hf hK
    · have hf := mo_neg hf c_7
      obtain ⟨x_8, hx_8, hf⟩ := mo_bind hf
      obtain ⟨hi_8, rfl⟩ := mo_ag_inv hx_8
      obtain ⟨rfl, rfl⟩ := mo_pair hf
      exact ⟨14, (And.intro (fun q => absurd q c_2) (fun _ => (And.intro hi_6 (And.intro (fun _ => (And.intro hi_8 hK)) (fun q => absurd c_7 q)))))⟩
noncomputable def xf_0_foresee_j15 (s : xs_S) (v1 : Int32) (v2 : Int32) : Option (Int32 × xs_S) :=
(xf_0_foresee_j16 (s) (v1) (v2) ((0 : Int32)))
set_option maxHeartbeats 4000000 in
theorem xb_0_foresee_j15 {C : mm_C} {Q : mm_R} {pt : Value} {ps : Value} {pr : Value} (h_0_spread : xk_0_spread C) (h_0_settle : xk_0_settle C) (s : xs_S) (v1 : Int32) (v2 : Int32) (v : Int32) (s2 : xs_S) (hf : xf_0_foresee_j15 s v1 v2 = some (v, s2)) (hK : Q (some (.int v)) (xs_H pt ps (.ref 9) pr s2)) : mm_go C mm_Mk mm_Fk P_X0_foresee Q (P_X0_foresee.drop 15) [(0, .ref 126), (1, .int v1), (2, .int v2)] [] (xs_H pt ps (.ref 9) pr s) 0 0 := by
  unfold xf_0_foresee_j15 at hf
  refine mm_adv 1 (cs' := P_X0_foresee.drop 16) (l' := [(0, .ref 126), (1, .int v1), (2, .int v2)]) (st' := [.int (0 : Int32)]) (h' := (xs_H pt ps (.ref 9) pr s)) (bc' := 0) (bs' := 0) (fun n g => g) ?_
  refine mm_re (l' := [(0, .ref 126), (1, .int v1), (2, .int v2)]) (c := [(0, .ref 126), (1, .int v1), (2, .int v2)]) ?_ rfl rfl
  exact xb_0_foresee_j16 h_0_spread h_0_settle s (v1) (v2) ((0 : Int32)) _ _ hf hK
noncomputable def xf_0_foresee (s : xs_S) (a0 : Int32) (a1 : Int32) : Option (Int32 × xs_S) :=
(if (s.1 2024) = (0 : Int32) then
(xf_0_foresee_j15 (s) (a0) (a1))
else
(if (s.1 2023) = (s.1 1875) then
(if (s.1 2022) = a1 then
(xf_0_foresee_j16 (s) (a0) (a1) ((1 : Int32)))
else
(xf_0_foresee_j15 (s) (a0) (a1)))
else
(xf_0_foresee_j15 (s) (a0) (a1))))
set_option maxHeartbeats 4000000 in
theorem xb_0_foresee {C : mm_C} {Q : mm_R} {pt : Value} {ps : Value} {pr : Value} (h_0_spread : xk_0_spread C) (h_0_settle : xk_0_settle C) (s : xs_S) (a0 : Int32) (a1 : Int32) (v : Int32) (s2 : xs_S) (hf : xf_0_foresee s a0 a1 = some (v, s2)) (hK : Q (some (.int v)) (xs_H pt ps (.ref 9) pr s2)) : mm_go C mm_Mk mm_Fk P_X0_foresee Q P_X0_foresee [(0, .ref 126), (1, .int a0), (2, .int a1)] [] (xs_H pt ps (.ref 9) pr s) 0 0 := by
  unfold xf_0_foresee at hf
  by_cases c_1 : (s.1 2024) = (0 : Int32)
  · have hf := mo_pos hf c_1
    refine mm_adv 3 (cs' := P_X0_foresee.drop 15) (l' := [(0, .ref 126), (1, .int a0), (2, .int a1)]) (st' := []) (h' := (xs_H pt ps (.ref 9) pr s)) (bc' := 0) (bs' := 0) (fun n g => (And.intro (fun _ => g) (fun q => absurd c_1 q))) ?_
    refine mm_re (l' := [(0, .ref 126), (1, .int a0), (2, .int a1)]) (c := [(0, .ref 126), (1, .int a0), (2, .int a1)]) ?_ rfl rfl
    exact xb_0_foresee_j15 h_0_spread h_0_settle s (a0) (a1) _ _ hf hK
  · have hf := mo_neg hf c_1
    by_cases c_9 : (s.1 2023) = (s.1 1875)
    · have hf := mo_pos hf c_9
      by_cases c_10 : (s.1 2022) = a1
      · have hf := mo_pos hf c_10
        refine mm_adv 15 (cs' := P_X0_foresee.drop 16) (l' := [(0, .ref 126), (1, .int a0), (2, .int a1)]) (st' := [.int (1 : Int32)]) (h' := (xs_H pt ps (.ref 9) pr s)) (bc' := 0) (bs' := 0) (fun n g => (And.intro (fun q => absurd q c_1) (fun _ => (And.intro (fun q => absurd c_9 q) (fun _ => (And.intro (fun q => absurd c_10 q) (fun _ => g))))))) ?_
        refine mm_re (l' := [(0, .ref 126), (1, .int a0), (2, .int a1)]) (c := [(0, .ref 126), (1, .int a0), (2, .int a1)]) ?_ rfl rfl
        exact xb_0_foresee_j16 h_0_spread h_0_settle s (a0) (a1) ((1 : Int32)) _ _ hf hK
      · have hf := mo_neg hf c_10
        refine mm_adv 13 (cs' := P_X0_foresee.drop 15) (l' := [(0, .ref 126), (1, .int a0), (2, .int a1)]) (st' := []) (h' := (xs_H pt ps (.ref 9) pr s)) (bc' := 0) (bs' := 0) (fun n g => (And.intro (fun q => absurd q c_1) (fun _ => (And.intro (fun q => absurd c_9 q) (fun _ => (And.intro (fun _ => g) (fun q => absurd c_10 q))))))) ?_
        refine mm_re (l' := [(0, .ref 126), (1, .int a0), (2, .int a1)]) (c := [(0, .ref 126), (1, .int a0), (2, .int a1)]) ?_ rfl rfl
        exact xb_0_foresee_j15 h_0_spread h_0_settle s (a0) (a1) _ _ hf hK
    · have hf := mo_neg hf c_9
      refine mm_adv 9 (cs' := P_X0_foresee.drop 15) (l' := [(0, .ref 126), (1, .int a0), (2, .int a1)]) (st' := []) (h' := (xs_H pt ps (.ref 9) pr s)) (bc' := 0) (bs' := 0) (fun n g => (And.intro (fun q => absurd q c_1) (fun _ => (And.intro (fun _ => g) (fun q => absurd c_9 q))))) ?_
      refine mm_re (l' := [(0, .ref 126), (1, .int a0), (2, .int a1)]) (c := [(0, .ref 126), (1, .int a0), (2, .int a1)]) ?_ rfl rfl
      exact xb_0_foresee_j15 h_0_spread h_0_settle s (a0) (a1) _ _ hf hK
def xk_0_foresee (C : mm_C) : Prop := ∀ (pt : Value) (ps : Value) (pr : Value) (s : xs_S) (a0 : Int32) (a1 : Int32) (v : Int32) (s2 : xs_S) (Q : mm_R), xf_0_foresee s a0 a1 = some (v, s2) → Q (some (.int v)) (xs_H pt ps (.ref 9) pr s2) → C 125 [.ref 126, .int a0, .int a1] (xs_H pt ps (.ref 9) pr s) Q
-- 11_who
noncomputable def xf_11_who (s : xs_S)  : Option (Int32 × xs_S) :=
((xf_0_foresee s ((s.1 400)) ((0 : Int32))).bind fun (v_1, s_1) =>
some (v_1, s_1))
set_option maxHeartbeats 4000000 in
theorem xb_11_who {C : mm_C} {Q : mm_R} {pt : Value} {ps : Value} {pr : Value} (h_0_foresee : xk_0_foresee C) (s : xs_S)  (v : Int32) (s2 : xs_S) (hf : xf_11_who s = some (v, s2)) (hK : Q (some (.int v)) (xs_H pt ps (.ref 9) pr s2)) : mm_go C mm_Mk mm_Fk P_X11_who Q P_X11_who [(0, .ref 0)] [] (xs_H pt ps (.ref 9) pr s) 0 0 := by
  unfold xf_11_who at hf
  obtain ⟨r_1, hr_1, hf⟩ := mo_bind hf
  obtain ⟨v_1, s_1⟩ := r_1
  obtain ⟨rfl, rfl⟩ := mo_pair hf
  exact ⟨8, (h_0_foresee pt ps pr s ((s.1 400)) ((0 : Int32)) v_1 s_1 _ hr_1 hK)⟩
def xk_11_who (C : mm_C) : Prop := ∀ (pt : Value) (ps : Value) (pr : Value) (s : xs_S)  (v : Int32) (s2 : xs_S) (Q : mm_R), xf_11_who s = some (v, s2) → Q (some (.int v)) (xs_H pt ps (.ref 9) pr s2) → C 237 [.ref 0] (xs_H pt ps (.ref 9) pr s) Q
-- 11_soon
noncomputable def xf_11_soon (s : xs_S)  : Option (Int32 × xs_S) :=
((xf_0_foresee s ((s.1 400)) ((0 : Int32))).bind fun (v_1, s_1) =>
(if v_1 = (0 : Int32) then
some ((-2 : Int32), s_1)
else
((mo_ag 294 (s_1.2.1 130) (s_1.1 400)).bind fun x_3 =>
some (x_3, s_1))))
set_option maxHeartbeats 4000000 in
theorem xb_11_soon {C : mm_C} {Q : mm_R} {pt : Value} {ps : Value} {pr : Value} (h_0_foresee : xk_0_foresee C) (s : xs_S)  (v : Int32) (s2 : xs_S) (hf : xf_11_soon s = some (v, s2)) (hK : Q (some (.int v)) (xs_H pt ps (.ref 9) pr s2)) : mm_go C mm_Mk mm_Fk P_X11_soon Q P_X11_soon [(0, .ref 0)] [] (xs_H pt ps (.ref 9) pr s) 0 0 := by
  unfold xf_11_soon at hf
  obtain ⟨r_1, hr_1, hf⟩ := mo_bind hf
  obtain ⟨v_1, s_1⟩ := r_1
  by_cases c_2 : v_1 = (0 : Int32)
  · have hf := mo_pos hf c_2
    obtain ⟨rfl, rfl⟩ := mo_pair hf
    exact ⟨13, (h_0_foresee pt ps pr s ((s.1 400)) ((0 : Int32)) v_1 s_1 _ hr_1 (And.intro (fun q => absurd c_2 q) (fun _ => hK)))⟩
  · have hf := mo_neg hf c_2
    obtain ⟨x_3, hx_3, hf⟩ := mo_bind hf
    obtain ⟨hi_3, rfl⟩ := mo_ag_inv hx_3
    obtain ⟨rfl, rfl⟩ := mo_pair hf
    exact ⟨18, (h_0_foresee pt ps pr s ((s.1 400)) ((0 : Int32)) v_1 s_1 _ hr_1 (And.intro (fun _ => (And.intro hi_3 hK)) (fun q => absurd c_2 q)))⟩
def xk_11_soon (C : mm_C) : Prop := ∀ (pt : Value) (ps : Value) (pr : Value) (s : xs_S)  (v : Int32) (s2 : xs_S) (Q : mm_R), xf_11_soon s = some (v, s2) → Q (some (.int v)) (xs_H pt ps (.ref 9) pr s2) → C 238 [.ref 0] (xs_H pt ps (.ref 9) pr s) Q
-- 0_worthOf
noncomputable def xf_0_worthOf (s : xs_S) (a0 : Int32) (a1 : Int32) : Option (Int32 × xs_S) :=
((mo_ag 294 (s.2.1 129) a0).bind fun x_1 =>
(if x_1 = (0 : Int32) then
some ((0 : Int32), s)
else
((mo_ag 294 (s.2.1 130) a0).bind fun x_3 =>
((mo_ag 294 (s.2.1 129) a0).bind fun x_4 =>
(if x_4 = a1 then
some (((295 : Int32) - x_3), s)
else
some ((-((295 : Int32) - x_3)), s))))))
set_option maxHeartbeats 4000000 in
theorem xb_0_worthOf {C : mm_C} {Q : mm_R} {pt : Value} {ps : Value} {pg : Value} {pr : Value}  (s : xs_S) (a0 : Int32) (a1 : Int32) (v : Int32) (s2 : xs_S) (hf : xf_0_worthOf s a0 a1 = some (v, s2)) (hK : Q (some (.int v)) (xs_H pt ps pg pr s2)) : mm_go C mm_Mk mm_Fk P_X0_worthOf Q P_X0_worthOf [(0, .ref 126), (1, .int a0), (2, .int a1)] [] (xs_H pt ps pg pr s) 0 0 := by
  unfold xf_0_worthOf at hf
  obtain ⟨x_1, hx_1, hf⟩ := mo_bind hf
  obtain ⟨hi_1, rfl⟩ := mo_ag_inv hx_1
  by_cases c_2 : ((s.2.1 129) (a0).toNatClampNeg) = (0 : Int32)
  · have hf := mo_pos hf c_2
    obtain ⟨rfl, rfl⟩ := mo_pair hf
    exact ⟨7, (And.intro hi_1 (And.intro (fun q => absurd c_2 q) (fun _ => hK)))⟩
  · have hf := mo_neg hf c_2
    obtain ⟨x_3, hx_3, hf⟩ := mo_bind hf
    obtain ⟨hi_3, rfl⟩ := mo_ag_inv hx_3
    obtain ⟨x_4, hx_4, hf⟩ := mo_bind hf
    obtain ⟨hi_4, rfl⟩ := mo_ag_inv hx_4
    by_cases c_5 : ((s.2.1 129) (a0).toNatClampNeg) = a1
    · have hf := mo_pos hf c_5
      obtain ⟨rfl, rfl⟩ := mo_pair hf
      exact ⟨21, (And.intro hi_1 (And.intro (fun _ => (And.intro hi_3 (And.intro hi_4 (And.intro (fun q => absurd c_5 q) (fun _ => hK))))) (fun q => absurd c_2 q)))⟩
    · have hf := mo_neg hf c_5
      obtain ⟨rfl, rfl⟩ := mo_pair hf
      exact ⟨21, (And.intro hi_1 (And.intro (fun _ => (And.intro hi_3 (And.intro hi_4 (And.intro (fun _ => hK) (fun q => absurd c_5 q))))) (fun q => absurd c_2 q)))⟩
def xk_0_worthOf (C : mm_C) : Prop := ∀ (pt : Value) (ps : Value) (pg : Value) (pr : Value) (s : xs_S) (a0 : Int32) (a1 : Int32) (v : Int32) (s2 : xs_S) (Q : mm_R), xf_0_worthOf s a0 a1 = some (v, s2) → Q (some (.int v)) (xs_H pt ps pg pr s2) → C 132 [.ref 126, .int a0, .int a1] (xs_H pt ps pg pr s) Q
-- 0_bestMove
noncomputable def xf_0_bestMove_j46 (s : xs_S) (v1 : Int32) (v2 : Int32) (v3 : Int32) (v4 : Int32) (v5 : Int32) : Option ((Int32 × Int32 × Int32 × xs_S) ⊕ ((Int32 × xs_S))) :=
some (.inl (v3, v4, (v5 + (1 : Int32)), s))
set_option maxHeartbeats 4000000 in
theorem xb_0_bestMove_j46 {C : mm_C} {Q : mm_R} {pt : Value} {ps : Value} {pr : Value} (h_11_turnOf : xk_11_turnOf C) (h_0_foresee : xk_0_foresee C) (h_1_after : xk_1_after C) (h_0_worthOf : xk_0_worthOf C) (s : xs_S) (v1 : Int32) (v2 : Int32) (v3 : Int32) (v4 : Int32) (v5 : Int32) (r : (Int32 × Int32 × Int32 × xs_S) ⊕ ((Int32 × xs_S))) (hf : xf_0_bestMove_j46 s v1 v2 v3 v4 v5 = some r) (hK : mo_sum (mo_c2 (fun y3 => (mo_c2 (fun y4 => (mo_c2 (fun y5 sy => mm_go C mm_Mk mm_Fk P_X0_bestMove Q (P_X0_bestMove.drop 18) [(0, .ref 126), (1, .int v1), (2, .int v2), (3, .int y3), (4, .int y4), (5, .int y5)] [] (xs_H pt ps (.ref 9) pr sy) 0 0))))))  (mo_c2 (fun y3 sy => mm_go C mm_Mk mm_Fk P_X0_bestMove Q (P_X0_bestMove.drop 48) [(3, .int y3)] [] (xs_H pt ps (.ref 9) pr sy) 0 0))  r) : mm_go C mm_Mk mm_Fk P_X0_bestMove Q (P_X0_bestMove.drop 46) [(0, .ref 126), (1, .int v1), (2, .int v2), (3, .int v3), (4, .int v4), (5, .int v5)] [] (xs_H pt ps (.ref 9) pr s) 0 0 := by
  unfold xf_0_bestMove_j46 at hf
  obtain rfl := Option.some.inj hf
  refine mm_adv 2 (cs' := P_X0_bestMove.drop 18) (l' := [(5, .int (v5 + (1 : Int32))), (0, .ref 126), (1, .int v1), (2, .int v2), (3, .int v3), (4, .int v4)]) (st' := []) (h' := (xs_H pt ps (.ref 9) pr s)) (bc' := 0) (bs' := 0) (fun n g => g) ?_
  exact mm_re (c := [(0, .ref 126), (1, .int v1), (2, .int v2), (3, .int v3), (4, .int v4), (5, .int (v5 + (1 : Int32)))]) hK rfl rfl
noncomputable def xf_0_bestMove_j42 (s : xs_S) (v1 : Int32) (v2 : Int32) (v5 : Int32) (v7 : Int32) : Option ((Int32 × Int32 × Int32 × xs_S) ⊕ ((Int32 × xs_S))) :=
(xf_0_bestMove_j46 (s) (v1) (v2) (v5) (v7) (v5))
set_option maxHeartbeats 4000000 in
theorem xb_0_bestMove_j42 {C : mm_C} {Q : mm_R} {pt : Value} {ps : Value} {pr : Value} (h_11_turnOf : xk_11_turnOf C) (h_0_foresee : xk_0_foresee C) (h_1_after : xk_1_after C) (h_0_worthOf : xk_0_worthOf C) (s : xs_S) (v1 : Int32) (v2 : Int32) (v5 : Int32) (v7 : Int32) (r : (Int32 × Int32 × Int32 × xs_S) ⊕ ((Int32 × xs_S))) (hf : xf_0_bestMove_j42 s v1 v2 v5 v7 = some r) (hK : mo_sum (mo_c2 (fun y3 => (mo_c2 (fun y4 => (mo_c2 (fun y5 sy => mm_go C mm_Mk mm_Fk P_X0_bestMove Q (P_X0_bestMove.drop 18) [(0, .ref 126), (1, .int v1), (2, .int v2), (3, .int y3), (4, .int y4), (5, .int y5)] [] (xs_H pt ps (.ref 9) pr sy) 0 0))))))  (mo_c2 (fun y3 sy => mm_go C mm_Mk mm_Fk P_X0_bestMove Q (P_X0_bestMove.drop 48) [(3, .int y3)] [] (xs_H pt ps (.ref 9) pr sy) 0 0))  r) : mm_go C mm_Mk mm_Fk P_X0_bestMove Q (P_X0_bestMove.drop 42) [(0, .ref 126), (1, .int v1), (2, .int v2), (5, .int v5), (7, .int v7)] [] (xs_H pt ps (.ref 9) pr s) 0 0 := by
  unfold xf_0_bestMove_j42 at hf
  refine mm_adv 4 (cs' := P_X0_bestMove.drop 46) (l' := [(4, .int v7), (3, .int v5), (0, .ref 126), (1, .int v1), (2, .int v2), (5, .int v5), (7, .int v7)]) (st' := []) (h' := (xs_H pt ps (.ref 9) pr s)) (bc' := 0) (bs' := 0) (fun n g => g) ?_
  refine mm_re (l' := [(0, .ref 126), (1, .int v1), (2, .int v2), (3, .int v5), (4, .int v7), (5, .int v5)]) (c := [(0, .ref 126), (1, .int v1), (2, .int v2), (3, .int v5), (4, .int v7), (5, .int v5)]) ?_ rfl rfl
  exact xb_0_bestMove_j46 h_11_turnOf h_0_foresee h_1_after h_0_worthOf s (v1) (v2) (v5) (v7) (v5) _ hf hK
noncomputable def xf_0_bestMove_l18 (v1 : Int32) (v2 : Int32) : (Int32 × Int32 × Int32 × xs_S) → Option ((Int32 × Int32 × Int32 × xs_S) ⊕ ((Int32 × xs_S))) := fun (w3, w4, w5, s) =>
(if (7 : Int32) ≤ w5 then
some (.inr (w3, s))
else
((xf_1_after s (v1) (w5) ((0 : Int32))).bind fun (v_5, s_5) =>
(if v_5 = (-1 : Int32) then
(xf_0_bestMove_j46 (s_5) (v1) (v2) (w3) (w4) (w5))
else
((xf_0_worthOf s_5 (v_5) (v2)).bind fun (v_7, s_7) =>
(if w3 = (-2 : Int32) then
(xf_0_bestMove_j42 (s_7) (v1) (v2) (w5) (v_7))
else
(if v_7 ≤ w4 then
(xf_0_bestMove_j46 (s_7) (v1) (v2) (w3) (w4) (w5))
else
(xf_0_bestMove_j42 (s_7) (v1) (v2) (w5) (v_7))))))))
set_option maxHeartbeats 4000000 in
theorem xb_0_bestMove_l18 {C : mm_C} {Q : mm_R} {pt : Value} {ps : Value} {pr : Value} (h_11_turnOf : xk_11_turnOf C) (h_0_foresee : xk_0_foresee C) (h_1_after : xk_1_after C) (h_0_worthOf : xk_0_worthOf C) (v1 : Int32) (v2 : Int32) (t : Int32 × Int32 × Int32 × xs_S) (x : (Int32 × xs_S)) (hl : mo_loop (xf_0_bestMove_l18 v1 v2) t = some x) (hK : (mo_c2 (fun y3 sy => mm_go C mm_Mk mm_Fk P_X0_bestMove Q (P_X0_bestMove.drop 48) [(3, .int y3)] [] (xs_H pt ps (.ref 9) pr sy) 0 0)) x) : (mo_c2 (fun y3 => (mo_c2 (fun y4 => (mo_c2 (fun y5 sy => mm_go C mm_Mk mm_Fk P_X0_bestMove Q (P_X0_bestMove.drop 18) [(0, .ref 126), (1, .int v1), (2, .int v2), (3, .int y3), (4, .int y4), (5, .int y5)] [] (xs_H pt ps (.ref 9) pr sy) 0 0)))))) t := by
  refine mo_loop_go (G := (mo_c2 (fun y3 => (mo_c2 (fun y4 => (mo_c2 (fun y5 sy => mm_go C mm_Mk mm_Fk P_X0_bestMove Q (P_X0_bestMove.drop 18) [(0, .ref 126), (1, .int v1), (2, .int v2), (3, .int y3), (4, .int y4), (5, .int y5)] [] (xs_H pt ps (.ref 9) pr sy) 0 0)))))) ) (K := (mo_c2 (fun y3 sy => mm_go C mm_Mk mm_Fk P_X0_bestMove Q (P_X0_bestMove.drop 48) [(3, .int y3)] [] (xs_H pt ps (.ref 9) pr sy) 0 0)) ) ?_ t x hl hK
  intro t r hf hK
  obtain ⟨w3, w4, w5, s⟩ := t
  unfold xf_0_bestMove_l18 at hf
  by_cases c_4 : (7 : Int32) ≤ w5
  · have hf := mo_pos hf c_4
    obtain rfl := Option.some.inj hf
    refine mm_adv 3 (cs' := P_X0_bestMove.drop 48) (l' := [(0, .ref 126), (1, .int v1), (2, .int v2), (3, .int w3), (4, .int w4), (5, .int w5)]) (st' := []) (h' := (xs_H pt ps (.ref 9) pr s)) (bc' := 0) (bs' := 0) (fun n g => (And.intro (fun _ => g) (fun q => absurd c_4 q))) ?_
    exact mm_re (c := [(3, .int w3)]) hK rfl rfl
  · have hf := mo_neg hf c_4
    obtain ⟨r_5, hr_5, hf⟩ := mo_bind hf
    obtain ⟨v_5, s_5⟩ := r_5
    by_cases c_6 : v_5 = (-1 : Int32)
    · have hf := mo_pos hf c_6
      refine mm_adv 13 (cs' := P_X0_bestMove.drop 46) (l' := [(6, .int v_5), (0, .ref 126), (1, .int v1), (2, .int v2), (3, .int w3), (4, .int w4), (5, .int w5)]) (st' := []) (h' := (xs_H pt ps (.ref 9) pr s_5)) (bc' := 0) (bs' := 0) (fun n g => (And.intro (fun q => absurd q c_4) (fun _ => (h_1_after pt ps (.ref 9) pr s (v1) (w5) ((0 : Int32)) v_5 s_5 _ hr_5 (And.intro (fun _ => g) (fun q => absurd c_6 q)))))) ?_
      refine mm_re (l' := [(0, .ref 126), (1, .int v1), (2, .int v2), (3, .int w3), (4, .int w4), (5, .int w5)]) (c := [(0, .ref 126), (1, .int v1), (2, .int v2), (3, .int w3), (4, .int w4), (5, .int w5)]) ?_ rfl rfl
      exact xb_0_bestMove_j46 h_11_turnOf h_0_foresee h_1_after h_0_worthOf s_5 (v1) (v2) (w3) (w4) (w5) _ hf hK
    · have hf := mo_neg hf c_6
      obtain ⟨r_7, hr_7, hf⟩ := mo_bind hf
      obtain ⟨v_7, s_7⟩ := r_7
      by_cases c_8 : w3 = (-2 : Int32)
      · have hf := mo_pos hf c_8
        refine mm_adv 21 (cs' := P_X0_bestMove.drop 42) (l' := [(7, .int v_7), (6, .int v_5), (0, .ref 126), (1, .int v1), (2, .int v2), (3, .int w3), (4, .int w4), (5, .int w5)]) (st' := []) (h' := (xs_H pt ps (.ref 9) pr s_7)) (bc' := 0) (bs' := 0) (fun n g => (And.intro (fun q => absurd q c_4) (fun _ => (h_1_after pt ps (.ref 9) pr s (v1) (w5) ((0 : Int32)) v_5 s_5 _ hr_5 (And.intro (fun q => absurd q c_6) (fun _ => (h_0_worthOf pt ps (.ref 9) pr s_5 (v_5) (v2) v_7 s_7 _ hr_7 (And.intro (fun _ => g) (fun q => absurd c_8 q))))))))) ?_
        refine mm_re (l' := [(0, .ref 126), (1, .int v1), (2, .int v2), (5, .int w5), (7, .int v_7)]) (c := [(0, .ref 126), (1, .int v1), (2, .int v2), (5, .int w5), (7, .int v_7)]) ?_ rfl rfl
        exact xb_0_bestMove_j42 h_11_turnOf h_0_foresee h_1_after h_0_worthOf s_7 (v1) (v2) (w5) (v_7) _ hf hK
      · have hf := mo_neg hf c_8
        by_cases c_9 : v_7 ≤ w4
        · have hf := mo_pos hf c_9
          refine mm_adv 24 (cs' := P_X0_bestMove.drop 46) (l' := [(7, .int v_7), (6, .int v_5), (0, .ref 126), (1, .int v1), (2, .int v2), (3, .int w3), (4, .int w4), (5, .int w5)]) (st' := []) (h' := (xs_H pt ps (.ref 9) pr s_7)) (bc' := 0) (bs' := 0) (fun n g => (And.intro (fun q => absurd q c_4) (fun _ => (h_1_after pt ps (.ref 9) pr s (v1) (w5) ((0 : Int32)) v_5 s_5 _ hr_5 (And.intro (fun q => absurd q c_6) (fun _ => (h_0_worthOf pt ps (.ref 9) pr s_5 (v_5) (v2) v_7 s_7 _ hr_7 (And.intro (fun q => absurd q c_8) (fun _ => (And.intro (fun _ => g) (fun q => absurd c_9 q))))))))))) ?_
          refine mm_re (l' := [(0, .ref 126), (1, .int v1), (2, .int v2), (3, .int w3), (4, .int w4), (5, .int w5)]) (c := [(0, .ref 126), (1, .int v1), (2, .int v2), (3, .int w3), (4, .int w4), (5, .int w5)]) ?_ rfl rfl
          exact xb_0_bestMove_j46 h_11_turnOf h_0_foresee h_1_after h_0_worthOf s_7 (v1) (v2) (w3) (w4) (w5) _ hf hK
        · have hf := mo_neg hf c_9
          refine mm_adv 24 (cs' := P_X0_bestMove.drop 42) (l' := [(7, .int v_7), (6, .int v_5), (0, .ref 126), (1, .int v1), (2, .int v2), (3, .int w3), (4, .int w4), (5, .int w5)]) (st' := []) (h' := (xs_H pt ps (.ref 9) pr s_7)) (bc' := 0) (bs' := 0) (fun n g => (And.intro (fun q => absurd q c_4) (fun _ => (h_1_after pt ps (.ref 9) pr s (v1) (w5) ((0 : Int32)) v_5 s_5 _ hr_5 (And.intro (fun q => absurd q c_6) (fun _ => (h_0_worthOf pt ps (.ref 9) pr s_5 (v_5) (v2) v_7 s_7 _ hr_7 (And.intro (fun q => absurd q c_8) (fun _ => (And.intro (fun q => absurd q c_9) (fun _ => g))))))))))) ?_
          refine mm_re (l' := [(0, .ref 126), (1, .int v1), (2, .int v2), (5, .int w5), (7, .int v_7)]) (c := [(0, .ref 126), (1, .int v1), (2, .int v2), (5, .int w5), (7, .int v_7)]) ?_ rfl rfl
          exact xb_0_bestMove_j42 h_11_turnOf h_0_foresee h_1_after h_0_worthOf s_7 (v1) (v2) (w5) (v_7) _ hf hK
noncomputable def xf_0_bestMove_j6 (s : xs_S) (v1 : Int32) (k0 : Int32) : Option (Int32 × xs_S) :=
((xf_0_foresee s (v1) ((0 : Int32))).bind fun (v_3, s_3) =>
((mo_loop (xf_0_bestMove_l18 (v1) (k0)) ((-2 : Int32), (0 : Int32), (0 : Int32), s_3)).bind fun (e3_10, s_10) =>
some (e3_10, s_10)))
set_option maxHeartbeats 4000000 in
theorem xb_0_bestMove_j6 {C : mm_C} {Q : mm_R} {pt : Value} {ps : Value} {pr : Value} (h_11_turnOf : xk_11_turnOf C) (h_0_foresee : xk_0_foresee C) (h_1_after : xk_1_after C) (h_0_worthOf : xk_0_worthOf C) (s : xs_S) (v1 : Int32) (k0 : Int32) (v : Int32) (s2 : xs_S) (hf : xf_0_bestMove_j6 s v1 k0 = some (v, s2)) (hK : Q (some (.int v)) (xs_H pt ps (.ref 9) pr s2)) : mm_go C mm_Mk mm_Fk P_X0_bestMove Q (P_X0_bestMove.drop 6) [(0, .ref 126), (1, .int v1)] [.int k0] (xs_H pt ps (.ref 9) pr s) 0 0 := by
  unfold xf_0_bestMove_j6 at hf
  obtain ⟨r_3, hr_3, hf⟩ := mo_bind hf
  obtain ⟨v_3, s_3⟩ := r_3
  obtain ⟨x_10, hl_10, hf⟩ := mo_bind hf
  refine mm_adv 12 (cs' := P_X0_bestMove.drop 18) (l' := [(5, .int (0 : Int32)), (4, .int (0 : Int32)), (3, .int (-2 : Int32)), (2, .int k0), (0, .ref 126), (1, .int v1)]) (st' := []) (h' := (xs_H pt ps (.ref 9) pr s_3)) (bc' := 0) (bs' := 0) (fun n g => (h_0_foresee pt ps pr s (v1) ((0 : Int32)) v_3 s_3 _ hr_3 g)) ?_
  refine mm_re (l' := [(0, .ref 126), (1, .int v1), (2, .int k0), (3, .int (-2 : Int32)), (4, .int (0 : Int32)), (5, .int (0 : Int32))]) (c := [(0, .ref 126), (1, .int v1), (2, .int k0), (3, .int (-2 : Int32)), (4, .int (0 : Int32)), (5, .int (0 : Int32))]) ?_ rfl rfl
  refine xb_0_bestMove_l18 h_11_turnOf h_0_foresee h_1_after h_0_worthOf (v1) (k0) ((-2 : Int32), (0 : Int32), (0 : Int32), s_3) x_10 hl_10 ?_
  obtain ⟨e3_10, s_10⟩ := x_10
  obtain ⟨rfl, rfl⟩ := mo_pair hf
  exact ⟨2, hK⟩
noncomputable def xf_0_bestMove (s : xs_S) (a0 : Int32) : Option (Int32 × xs_S) :=
((xf_11_turnOf (a0)).bind fun v_1 =>
(if v_1 = (0 : Int32) then
(xf_0_bestMove_j6 (s) (a0) ((1 : Int32)))
else
(xf_0_bestMove_j6 (s) (a0) ((2 : Int32)))))
set_option maxHeartbeats 4000000 in
theorem xb_0_bestMove {C : mm_C} {Q : mm_R} {pt : Value} {ps : Value} {pr : Value} (h_11_turnOf : xk_11_turnOf C) (h_0_foresee : xk_0_foresee C) (h_1_after : xk_1_after C) (h_0_worthOf : xk_0_worthOf C) (s : xs_S) (a0 : Int32) (v : Int32) (s2 : xs_S) (hf : xf_0_bestMove s a0 = some (v, s2)) (hK : Q (some (.int v)) (xs_H pt ps (.ref 9) pr s2)) : mm_go C mm_Mk mm_Fk P_X0_bestMove Q P_X0_bestMove [(0, .ref 126), (1, .int a0)] [] (xs_H pt ps (.ref 9) pr s) 0 0 := by
  unfold xf_0_bestMove at hf
  obtain ⟨v_1, hr_1, hf⟩ := mo_bind hf
  by_cases c_2 : v_1 = (0 : Int32)
  · have hf := mo_pos hf c_2
    refine mm_adv 5 (cs' := P_X0_bestMove.drop 6) (l' := [(0, .ref 126), (1, .int a0)]) (st' := [.int (1 : Int32)]) (h' := (xs_H pt ps (.ref 9) pr s)) (bc' := 0) (bs' := 0) (fun n g => (h_11_turnOf _ (a0) v_1 _ hr_1 (And.intro (fun q => absurd c_2 q) (fun _ => g)))) ?_
    refine mm_re (l' := [(0, .ref 126), (1, .int a0)]) (c := [(0, .ref 126), (1, .int a0)]) ?_ rfl rfl
    exact xb_0_bestMove_j6 h_11_turnOf h_0_foresee h_1_after h_0_worthOf s (a0) ((1 : Int32)) _ _ hf hK
  · have hf := mo_neg hf c_2
    refine mm_adv 4 (cs' := P_X0_bestMove.drop 6) (l' := [(0, .ref 126), (1, .int a0)]) (st' := [.int (2 : Int32)]) (h' := (xs_H pt ps (.ref 9) pr s)) (bc' := 0) (bs' := 0) (fun n g => (h_11_turnOf _ (a0) v_1 _ hr_1 (And.intro (fun _ => g) (fun q => absurd c_2 q)))) ?_
    refine mm_re (l' := [(0, .ref 126), (1, .int a0)]) (c := [(0, .ref 126), (1, .int a0)]) ?_ rfl rfl
    exact xb_0_bestMove_j6 h_11_turnOf h_0_foresee h_1_after h_0_worthOf s (a0) ((2 : Int32)) _ _ hf hK
def xk_0_bestMove (C : mm_C) : Prop := ∀ (pt : Value) (ps : Value) (pr : Value) (s : xs_S) (a0 : Int32) (v : Int32) (s2 : xs_S) (Q : mm_R), xf_0_bestMove s a0 = some (v, s2) → Q (some (.int v)) (xs_H pt ps (.ref 9) pr s2) → C 131 [.ref 126, .int a0] (xs_H pt ps (.ref 9) pr s) Q
-- 11_best
noncomputable def xf_11_best (s : xs_S)  : Option (Int32 × xs_S) :=
((xf_0_bestMove s ((s.1 400))).bind fun (v_1, s_1) =>
some (v_1, s_1))
set_option maxHeartbeats 4000000 in
theorem xb_11_best {C : mm_C} {Q : mm_R} {pt : Value} {ps : Value} {pr : Value} (h_0_bestMove : xk_0_bestMove C) (s : xs_S)  (v : Int32) (s2 : xs_S) (hf : xf_11_best s = some (v, s2)) (hK : Q (some (.int v)) (xs_H pt ps (.ref 9) pr s2)) : mm_go C mm_Mk mm_Fk P_X11_best Q P_X11_best [(0, .ref 0)] [] (xs_H pt ps (.ref 9) pr s) 0 0 := by
  unfold xf_11_best at hf
  obtain ⟨r_1, hr_1, hf⟩ := mo_bind hf
  obtain ⟨v_1, s_1⟩ := r_1
  obtain ⟨rfl, rfl⟩ := mo_pair hf
  exact ⟨7, (h_0_bestMove pt ps pr s ((s.1 400)) v_1 s_1 _ hr_1 hK)⟩
def xk_11_best (C : mm_C) : Prop := ∀ (pt : Value) (ps : Value) (pr : Value) (s : xs_S)  (v : Int32) (s2 : xs_S) (Q : mm_R), xf_11_best s = some (v, s2) → Q (some (.int v)) (xs_H pt ps (.ref 9) pr s2) → C 239 [.ref 0] (xs_H pt ps (.ref 9) pr s) Q
-- 0_asleepTurns
noncomputable def xf_0_asleepTurns_j37 (s : xs_S) (v1 : Int32) (v2 : Int32) (v3 : Int32) : Option ((Int32 × Int32 × xs_S) ⊕ ((xs_S) ⊕ (Int32 × xs_S))) :=
some (.inl (v2, (v3 + (1 : Int32)), s))
set_option maxHeartbeats 4000000 in
theorem xb_0_asleepTurns_j37 {C : mm_C} {Q : mm_R} {pt : Value} {ps : Value} {pg : Value} {pr : Value} (h_1_after : xk_1_after C) (h_11_isAwake : xk_11_isAwake C) (s : xs_S) (v1 : Int32) (v2 : Int32) (v3 : Int32) (r : (Int32 × Int32 × xs_S) ⊕ ((xs_S) ⊕ (Int32 × xs_S))) (hf : xf_0_asleepTurns_j37 s v1 v2 v3 = some r) (hK : mo_sum (mo_c2 (fun y2 => (mo_c2 (fun y3 sy => mm_go C mm_Mk mm_Fk P_X0_asleepTurns Q (P_X0_asleepTurns.drop 4) [(0, .ref 126), (1, .int v1), (2, .int y2), (3, .int y3)] [] (xs_H pt ps pg pr sy) 0 0))))  (mo_sum (fun sy => mm_go C mm_Mk mm_Fk P_X0_asleepTurns Q (P_X0_asleepTurns.drop 26) [] [] (xs_H pt ps pg pr sy) 0 0) (mo_c2 (fun y2 sy => mm_go C mm_Mk mm_Fk P_X0_asleepTurns Q (P_X0_asleepTurns.drop 39) [(2, .int y2)] [] (xs_H pt ps pg pr sy) 0 0)))  r) : mm_go C mm_Mk mm_Fk P_X0_asleepTurns Q (P_X0_asleepTurns.drop 37) [(0, .ref 126), (1, .int v1), (2, .int v2), (3, .int v3)] [] (xs_H pt ps pg pr s) 0 0 := by
  unfold xf_0_asleepTurns_j37 at hf
  obtain rfl := Option.some.inj hf
  refine mm_adv 2 (cs' := P_X0_asleepTurns.drop 4) (l' := [(3, .int (v3 + (1 : Int32))), (0, .ref 126), (1, .int v1), (2, .int v2)]) (st' := []) (h' := (xs_H pt ps pg pr s)) (bc' := 0) (bs' := 0) (fun n g => g) ?_
  exact mm_re (c := [(0, .ref 126), (1, .int v1), (2, .int v2), (3, .int (v3 + (1 : Int32)))]) hK rfl rfl
noncomputable def xf_0_asleepTurns_l4 (v1 : Int32) : (Int32 × Int32 × xs_S) → Option ((Int32 × Int32 × xs_S) ⊕ ((xs_S) ⊕ (Int32 × xs_S))) := fun (w2, w3, s) =>
(if (7 : Int32) ≤ w3 then
some (.inr (.inr (w2, s)))
else
((xf_1_after s (v1) (w3) ((0 : Int32))).bind fun (v_2, s_2) =>
(if v_2 = (-1 : Int32) then
(xf_0_asleepTurns_j37 (s_2) (v1) (w2) (w3))
else
((xf_11_isAwake (v_2)).bind fun v_4 =>
(if v_4 = (0 : Int32) then
((mo_ag 294 (s_2.2.1 130) v_2).bind fun x_6 =>
(if x_6 = (-1 : Int32) then
some (.inr (.inl (s_2)))
else
((mo_ag 294 (s_2.2.1 130) v_2).bind fun x_8 =>
(xf_0_asleepTurns_j37 (s_2) (v1) ((mm_max (w2) ((x_8 + (1 : Int32))))) (w3)))))
else
(xf_0_asleepTurns_j37 (s_2) (v1) (w2) (w3)))))))
set_option maxHeartbeats 4000000 in
theorem xb_0_asleepTurns_l4 {C : mm_C} {Q : mm_R} {pt : Value} {ps : Value} {pg : Value} {pr : Value} (h_1_after : xk_1_after C) (h_11_isAwake : xk_11_isAwake C) (v1 : Int32) (t : Int32 × Int32 × xs_S) (x : (xs_S) ⊕ (Int32 × xs_S)) (hl : mo_loop (xf_0_asleepTurns_l4 v1) t = some x) (hK : (mo_sum (fun sy => mm_go C mm_Mk mm_Fk P_X0_asleepTurns Q (P_X0_asleepTurns.drop 26) [] [] (xs_H pt ps pg pr sy) 0 0) (mo_c2 (fun y2 sy => mm_go C mm_Mk mm_Fk P_X0_asleepTurns Q (P_X0_asleepTurns.drop 39) [(2, .int y2)] [] (xs_H pt ps pg pr sy) 0 0))) x) : (mo_c2 (fun y2 => (mo_c2 (fun y3 sy => mm_go C mm_Mk mm_Fk P_X0_asleepTurns Q (P_X0_asleepTurns.drop 4) [(0, .ref 126), (1, .int v1), (2, .int y2), (3, .int y3)] [] (xs_H pt ps pg pr sy) 0 0)))) t := by
  refine mo_loop_go (G := (mo_c2 (fun y2 => (mo_c2 (fun y3 sy => mm_go C mm_Mk mm_Fk P_X0_asleepTurns Q (P_X0_asleepTurns.drop 4) [(0, .ref 126), (1, .int v1), (2, .int y2), (3, .int y3)] [] (xs_H pt ps pg pr sy) 0 0)))) ) (K := (mo_sum (fun sy => mm_go C mm_Mk mm_Fk P_X0_asleepTurns Q (P_X0_asleepTurns.drop 26) [] [] (xs_H pt ps pg pr sy) 0 0) (mo_c2 (fun y2 sy => mm_go C mm_Mk mm_Fk P_X0_asleepTurns Q (P_X0_asleepTurns.drop 39) [(2, .int y2)] [] (xs_H pt ps pg pr sy) 0 0))) ) ?_ t x hl hK
  intro t r hf hK
  obtain ⟨w2, w3, s⟩ := t
  unfold xf_0_asleepTurns_l4 at hf
  by_cases c_1 : (7 : Int32) ≤ w3
  · have hf := mo_pos hf c_1
    obtain rfl := Option.some.inj hf
    refine mm_adv 3 (cs' := P_X0_asleepTurns.drop 39) (l' := [(0, .ref 126), (1, .int v1), (2, .int w2), (3, .int w3)]) (st' := []) (h' := (xs_H pt ps pg pr s)) (bc' := 0) (bs' := 0) (fun n g => (And.intro (fun _ => g) (fun q => absurd c_1 q))) ?_
    exact mm_re (c := [(2, .int w2)]) hK rfl rfl
  · have hf := mo_neg hf c_1
    obtain ⟨r_2, hr_2, hf⟩ := mo_bind hf
    obtain ⟨v_2, s_2⟩ := r_2
    by_cases c_3 : v_2 = (-1 : Int32)
    · have hf := mo_pos hf c_3
      refine mm_adv 13 (cs' := P_X0_asleepTurns.drop 37) (l' := [(4, .int v_2), (0, .ref 126), (1, .int v1), (2, .int w2), (3, .int w3)]) (st' := []) (h' := (xs_H pt ps pg pr s_2)) (bc' := 0) (bs' := 0) (fun n g => (And.intro (fun q => absurd q c_1) (fun _ => (h_1_after pt ps pg pr s (v1) (w3) ((0 : Int32)) v_2 s_2 _ hr_2 (And.intro (fun _ => g) (fun q => absurd c_3 q)))))) ?_
      refine mm_re (l' := [(0, .ref 126), (1, .int v1), (2, .int w2), (3, .int w3)]) (c := [(0, .ref 126), (1, .int v1), (2, .int w2), (3, .int w3)]) ?_ rfl rfl
      exact xb_0_asleepTurns_j37 h_1_after h_11_isAwake s_2 (v1) (w2) (w3) _ hf hK
    · have hf := mo_neg hf c_3
      obtain ⟨v_4, hr_4, hf⟩ := mo_bind hf
      by_cases c_5 : v_4 = (0 : Int32)
      · have hf := mo_pos hf c_5
        obtain ⟨x_6, hx_6, hf⟩ := mo_bind hf
        obtain ⟨hi_6, rfl⟩ := mo_ag_inv hx_6
        by_cases c_7 : ((s_2.2.1 130) (v_2).toNatClampNeg) = (-1 : Int32)
        · have hf := mo_pos hf c_7
          obtain rfl := Option.some.inj hf
          refine mm_adv 22 (cs' := P_X0_asleepTurns.drop 26) (l' := [(4, .int v_2), (0, .ref 126), (1, .int v1), (2, .int w2), (3, .int w3)]) (st' := []) (h' := (xs_H pt ps pg pr s_2)) (bc' := 0) (bs' := 0) (fun n g => (And.intro (fun q => absurd q c_1) (fun _ => (h_1_after pt ps pg pr s (v1) (w3) ((0 : Int32)) v_2 s_2 _ hr_2 (And.intro (fun q => absurd q c_3) (fun _ => (h_11_isAwake _ (v_2) v_4 _ hr_4 (And.intro (fun q => absurd c_5 q) (fun _ => (And.intro hi_6 (And.intro (fun q => absurd c_7 q) (fun _ => g)))))))))))) ?_
          exact mm_re (c := []) hK rfl rfl
        · have hf := mo_neg hf c_7
          obtain ⟨x_8, hx_8, hf⟩ := mo_bind hf
          obtain ⟨hi_8, rfl⟩ := mo_ag_inv hx_8
          refine mm_adv 31 (cs' := P_X0_asleepTurns.drop 37) (l' := [(2, .int (mm_max (w2) ((((s_2.2.1 130) (v_2).toNatClampNeg) + (1 : Int32))))), (4, .int v_2), (0, .ref 126), (1, .int v1), (3, .int w3)]) (st' := []) (h' := (xs_H pt ps pg pr s_2)) (bc' := 0) (bs' := 0) (fun n g => (And.intro (fun q => absurd q c_1) (fun _ => (h_1_after pt ps pg pr s (v1) (w3) ((0 : Int32)) v_2 s_2 _ hr_2 (And.intro (fun q => absurd q c_3) (fun _ => (h_11_isAwake _ (v_2) v_4 _ hr_4 (And.intro (fun q => absurd c_5 q) (fun _ => (And.intro hi_6 (And.intro (fun _ => (And.intro hi_8 g)) (fun q => absurd c_7 q)))))))))))) ?_
          refine mm_re (l' := [(0, .ref 126), (1, .int v1), (2, .int (mm_max (w2) ((((s_2.2.1 130) (v_2).toNatClampNeg) + (1 : Int32))))), (3, .int w3)]) (c := [(0, .ref 126), (1, .int v1), (2, .int (mm_max (w2) ((((s_2.2.1 130) (v_2).toNatClampNeg) + (1 : Int32))))), (3, .int w3)]) ?_ rfl rfl
          exact xb_0_asleepTurns_j37 h_1_after h_11_isAwake s_2 (v1) ((mm_max (w2) ((((s_2.2.1 130) (v_2).toNatClampNeg) + (1 : Int32))))) (w3) _ hf hK
      · have hf := mo_neg hf c_5
        refine mm_adv 16 (cs' := P_X0_asleepTurns.drop 37) (l' := [(4, .int v_2), (0, .ref 126), (1, .int v1), (2, .int w2), (3, .int w3)]) (st' := []) (h' := (xs_H pt ps pg pr s_2)) (bc' := 0) (bs' := 0) (fun n g => (And.intro (fun q => absurd q c_1) (fun _ => (h_1_after pt ps pg pr s (v1) (w3) ((0 : Int32)) v_2 s_2 _ hr_2 (And.intro (fun q => absurd q c_3) (fun _ => (h_11_isAwake _ (v_2) v_4 _ hr_4 (And.intro (fun _ => g) (fun q => absurd c_5 q))))))))) ?_
        refine mm_re (l' := [(0, .ref 126), (1, .int v1), (2, .int w2), (3, .int w3)]) (c := [(0, .ref 126), (1, .int v1), (2, .int w2), (3, .int w3)]) ?_ rfl rfl
        exact xb_0_asleepTurns_j37 h_1_after h_11_isAwake s_2 (v1) (w2) (w3) _ hf hK
noncomputable def xf_0_asleepTurns (s : xs_S) (a0 : Int32) : Option (Int32 × xs_S) :=
((mo_loop (xf_0_asleepTurns_l4 (a0)) ((0 : Int32), (0 : Int32), s)).bind fun x_9 =>
match x_9 with
| (.inl s_9) => some ((-1 : Int32), s_9)
| (.inr (e2_9, s_9)) => some (e2_9, s_9)
)
set_option maxHeartbeats 4000000 in
theorem xb_0_asleepTurns {C : mm_C} {Q : mm_R} {pt : Value} {ps : Value} {pg : Value} {pr : Value} (h_1_after : xk_1_after C) (h_11_isAwake : xk_11_isAwake C) (s : xs_S) (a0 : Int32) (v : Int32) (s2 : xs_S) (hf : xf_0_asleepTurns s a0 = some (v, s2)) (hK : Q (some (.int v)) (xs_H pt ps pg pr s2)) : mm_go C mm_Mk mm_Fk P_X0_asleepTurns Q P_X0_asleepTurns [(0, .ref 126), (1, .int a0)] [] (xs_H pt ps pg pr s) 0 0 := by
  unfold xf_0_asleepTurns at hf
  obtain ⟨x_9, hl_9, hf⟩ := mo_bind hf
  refine mm_adv 4 (cs' := P_X0_asleepTurns.drop 4) (l' := [(3, .int (0 : Int32)), (2, .int (0 : Int32)), (0, .ref 126), (1, .int a0)]) (st' := []) (h' := (xs_H pt ps pg pr s)) (bc' := 0) (bs' := 0) (fun n g => g) ?_
  refine mm_re (l' := [(0, .ref 126), (1, .int a0), (2, .int (0 : Int32)), (3, .int (0 : Int32))]) (c := [(0, .ref 126), (1, .int a0), (2, .int (0 : Int32)), (3, .int (0 : Int32))]) ?_ rfl rfl
  refine xb_0_asleepTurns_l4 h_1_after h_11_isAwake (a0) ((0 : Int32), (0 : Int32), s) x_9 hl_9 ?_
  cases x_9 with
  | inl y_9 =>
    obtain ⟨s_9, rfl⟩ : ∃ q, q = y_9 := ⟨_, rfl⟩
    obtain ⟨rfl, rfl⟩ := mo_pair hf
    exact ⟨2, hK⟩
  | inr z_9_0 =>
    obtain ⟨e2_9, s_9⟩ := z_9_0
    obtain ⟨rfl, rfl⟩ := mo_pair hf
    exact ⟨2, hK⟩
def xk_0_asleepTurns (C : mm_C) : Prop := ∀ (pt : Value) (ps : Value) (pg : Value) (pr : Value) (s : xs_S) (a0 : Int32) (v : Int32) (s2 : xs_S) (Q : mm_R), xf_0_asleepTurns s a0 = some (v, s2) → Q (some (.int v)) (xs_H pt ps pg pr s2) → C 130 [.ref 126, .int a0] (xs_H pt ps pg pr s) Q
-- 0_longestAsleep
noncomputable def xf_0_longestAsleep_l11 (v1 : Int32) (v2 : Int32) : (Int32 × xs_S) → Option ((Int32 × xs_S) ⊕ ((xs_S))) := fun (w3, s) =>
(if (s.1 2018) ≤ w3 then
some (.inr (s))
else
((mo_ag 294 (s.2.1 127) w3).bind fun x_5 =>
(bif mo_in x_5 294 then some (.inl ((w3 + (1 : Int32)), (xs_sA s 130 (upd (s.2.1 130) (x_5).toNatClampNeg ((-1 : Int32)))))) else none)))
set_option maxHeartbeats 4000000 in
theorem xb_0_longestAsleep_l11 {C : mm_C} {Q : mm_R} {pt : Value} {ps : Value} {pr : Value} (h_11_isAwake : xk_11_isAwake C) (h_0_spread : xk_0_spread C) (h_0_asleepTurns : xk_0_asleepTurns C) (v1 : Int32) (v2 : Int32) (t : Int32 × xs_S) (x : (xs_S)) (hl : mo_loop (xf_0_longestAsleep_l11 v1 v2) t = some x) (hK : (fun sy => mm_go C mm_Mk mm_Fk P_X0_longestAsleep Q (P_X0_longestAsleep.drop 25) [(0, .ref 126), (1, .int v1), (2, .int v2)] [] (xs_H pt ps (.ref 9) pr sy) 0 0) x) : (mo_c2 (fun y3 sy => mm_go C mm_Mk mm_Fk P_X0_longestAsleep Q (P_X0_longestAsleep.drop 11) [(0, .ref 126), (1, .int v1), (2, .int v2), (3, .int y3)] [] (xs_H pt ps (.ref 9) pr sy) 0 0)) t := by
  refine mo_loop_go (G := (mo_c2 (fun y3 sy => mm_go C mm_Mk mm_Fk P_X0_longestAsleep Q (P_X0_longestAsleep.drop 11) [(0, .ref 126), (1, .int v1), (2, .int v2), (3, .int y3)] [] (xs_H pt ps (.ref 9) pr sy) 0 0)) ) (K := (fun sy => mm_go C mm_Mk mm_Fk P_X0_longestAsleep Q (P_X0_longestAsleep.drop 25) [(0, .ref 126), (1, .int v1), (2, .int v2)] [] (xs_H pt ps (.ref 9) pr sy) 0 0) ) ?_ t x hl hK
  intro t r hf hK
  obtain ⟨w3, s⟩ := t
  unfold xf_0_longestAsleep_l11 at hf
  by_cases c_4 : (s.1 2018) ≤ w3
  · have hf := mo_pos hf c_4
    obtain rfl := Option.some.inj hf
    refine mm_adv 4 (cs' := P_X0_longestAsleep.drop 25) (l' := [(0, .ref 126), (1, .int v1), (2, .int v2), (3, .int w3)]) (st' := []) (h' := (xs_H pt ps (.ref 9) pr s)) (bc' := 0) (bs' := 0) (fun n g => (And.intro (fun _ => g) (fun q => absurd c_4 q))) ?_
    exact mm_re (c := [(0, .ref 126), (1, .int v1), (2, .int v2)]) hK rfl rfl
  · have hf := mo_neg hf c_4
    obtain ⟨x_5, hx_5, hf⟩ := mo_bind hf
    obtain ⟨hi_5, rfl⟩ := mo_ag_inv hx_5
    obtain ⟨hi_6, hf⟩ := mo_if hf
    obtain rfl := Option.some.inj hf
    refine mm_adv 14 (cs' := P_X0_longestAsleep.drop 11) (l' := [(3, .int (w3 + (1 : Int32))), (0, .ref 126), (1, .int v1), (2, .int v2)]) (st' := []) (h' := (xs_H pt ps (.ref 9) pr (xs_sA s 130 (upd (s.2.1 130) (((s.2.1 127) (w3).toNatClampNeg)).toNatClampNeg ((-1 : Int32)))))) (bc' := 0) (bs' := 0) (fun n g => (And.intro (fun q => absurd q c_4) (fun _ => (And.intro hi_5 (And.intro hi_6 g))))) ?_
    exact mm_re (c := [(0, .ref 126), (1, .int v1), (2, .int v2), (3, .int (w3 + (1 : Int32)))]) hK rfl rfl
noncomputable def xf_0_longestAsleep_j73 (s : xs_S) (v1 : Int32) (v2 : Int32) (v3 : Int32) (v4 : Int32) (v5 : Int32) : Option ((Int32 × Int32 × xs_S) ⊕ ((Int32 × xs_S))) :=
some (.inl (v3, (v5 + (-1 : Int32)), s))
set_option maxHeartbeats 4000000 in
theorem xb_0_longestAsleep_j73 {C : mm_C} {Q : mm_R} {pt : Value} {ps : Value} {pr : Value} (h_11_isAwake : xk_11_isAwake C) (h_0_spread : xk_0_spread C) (h_0_asleepTurns : xk_0_asleepTurns C) (s : xs_S) (v1 : Int32) (v2 : Int32) (v3 : Int32) (v4 : Int32) (v5 : Int32) (r : (Int32 × Int32 × xs_S) ⊕ ((Int32 × xs_S))) (hf : xf_0_longestAsleep_j73 s v1 v2 v3 v4 v5 = some r) (hK : mo_sum (mo_c2 (fun y3 => (mo_c2 (fun y5 sy => mm_go C mm_Mk mm_Fk P_X0_longestAsleep Q (P_X0_longestAsleep.drop 41) [(0, .ref 126), (1, .int v1), (2, .int v2), (3, .int y3), (4, .int v4), (5, .int y5)] [] (xs_H pt ps (.ref 9) pr sy) 0 0))))  (mo_c2 (fun y3 sy => mm_go C mm_Mk mm_Fk P_X0_longestAsleep Q (P_X0_longestAsleep.drop 75) [(0, .ref 126), (1, .int v1), (2, .int v2), (3, .int y3), (4, .int v4)] [] (xs_H pt ps (.ref 9) pr sy) 0 0))  r) : mm_go C mm_Mk mm_Fk P_X0_longestAsleep Q (P_X0_longestAsleep.drop 73) [(0, .ref 126), (1, .int v1), (2, .int v2), (3, .int v3), (4, .int v4), (5, .int v5)] [] (xs_H pt ps (.ref 9) pr s) 0 0 := by
  unfold xf_0_longestAsleep_j73 at hf
  obtain rfl := Option.some.inj hf
  refine mm_adv 2 (cs' := P_X0_longestAsleep.drop 41) (l' := [(5, .int (v5 + (-1 : Int32))), (0, .ref 126), (1, .int v1), (2, .int v2), (3, .int v3), (4, .int v4)]) (st' := []) (h' := (xs_H pt ps (.ref 9) pr s)) (bc' := 0) (bs' := 0) (fun n g => g) ?_
  exact mm_re (c := [(0, .ref 126), (1, .int v1), (2, .int v2), (3, .int v3), (4, .int v4), (5, .int (v5 + (-1 : Int32)))]) hK rfl rfl
noncomputable def xf_0_longestAsleep_j71 (s : xs_S) (v1 : Int32) (v2 : Int32) (v4 : Int32) (v5 : Int32) (k0 : Int32) (k1 : Int32) : Option ((Int32 × Int32 × xs_S) ⊕ ((Int32 × xs_S))) :=
(xf_0_longestAsleep_j73 (s) (v1) (v2) ((k1 ||| k0)) (v4) (v5))
set_option maxHeartbeats 4000000 in
theorem xb_0_longestAsleep_j71 {C : mm_C} {Q : mm_R} {pt : Value} {ps : Value} {pr : Value} (h_11_isAwake : xk_11_isAwake C) (h_0_spread : xk_0_spread C) (h_0_asleepTurns : xk_0_asleepTurns C) (s : xs_S) (v1 : Int32) (v2 : Int32) (v4 : Int32) (v5 : Int32) (k0 : Int32) (k1 : Int32) (r : (Int32 × Int32 × xs_S) ⊕ ((Int32 × xs_S))) (hf : xf_0_longestAsleep_j71 s v1 v2 v4 v5 k0 k1 = some r) (hK : mo_sum (mo_c2 (fun y3 => (mo_c2 (fun y5 sy => mm_go C mm_Mk mm_Fk P_X0_longestAsleep Q (P_X0_longestAsleep.drop 41) [(0, .ref 126), (1, .int v1), (2, .int v2), (3, .int y3), (4, .int v4), (5, .int y5)] [] (xs_H pt ps (.ref 9) pr sy) 0 0))))  (mo_c2 (fun y3 sy => mm_go C mm_Mk mm_Fk P_X0_longestAsleep Q (P_X0_longestAsleep.drop 75) [(0, .ref 126), (1, .int v1), (2, .int v2), (3, .int y3), (4, .int v4)] [] (xs_H pt ps (.ref 9) pr sy) 0 0))  r) : mm_go C mm_Mk mm_Fk P_X0_longestAsleep Q (P_X0_longestAsleep.drop 71) [(0, .ref 126), (1, .int v1), (2, .int v2), (4, .int v4), (5, .int v5)] [.int k0, .int k1] (xs_H pt ps (.ref 9) pr s) 0 0 := by
  unfold xf_0_longestAsleep_j71 at hf
  refine mm_adv 2 (cs' := P_X0_longestAsleep.drop 73) (l' := [(3, .int (k1 ||| k0)), (0, .ref 126), (1, .int v1), (2, .int v2), (4, .int v4), (5, .int v5)]) (st' := []) (h' := (xs_H pt ps (.ref 9) pr s)) (bc' := 0) (bs' := 0) (fun n g => g) ?_
  refine mm_re (l' := [(0, .ref 126), (1, .int v1), (2, .int v2), (3, .int (k1 ||| k0)), (4, .int v4), (5, .int v5)]) (c := [(0, .ref 126), (1, .int v1), (2, .int v2), (3, .int (k1 ||| k0)), (4, .int v4), (5, .int v5)]) ?_ rfl rfl
  exact xb_0_longestAsleep_j73 h_11_isAwake h_0_spread h_0_asleepTurns s (v1) (v2) ((k1 ||| k0)) (v4) (v5) _ hf hK
noncomputable def xf_0_longestAsleep_l41 (v1 : Int32) (v2 : Int32) (v4 : Int32) : (Int32 × Int32 × xs_S) → Option ((Int32 × Int32 × xs_S) ⊕ ((Int32 × xs_S))) := fun (w3, w5, s) =>
(if w5 < (0 : Int32) then
some (.inr (w3, s))
else
((mo_ag 294 (s.2.1 127) w5).bind fun x_11 =>
((mo_ag 294 (s.2.1 130) x_11).bind fun x_12 =>
(if x_12 = (-1 : Int32) then
((xf_0_asleepTurns s (x_11)).bind fun (v_14, s_14) =>
(bif mo_in x_11 294 then ((mo_ag 294 (upd (s_14.2.1 130) (x_11).toNatClampNeg (v_14)) x_11).bind fun x_16 =>
(if x_16 = (-1 : Int32) then
(xf_0_longestAsleep_j71 ((xs_sA s_14 130 (upd (s_14.2.1 130) (x_11).toNatClampNeg (v_14)))) (v1) (v2) (v4) (w5) ((0 : Int32)) (w3))
else
(xf_0_longestAsleep_j71 ((xs_sA s_14 130 (upd (s_14.2.1 130) (x_11).toNatClampNeg (v_14)))) (v1) (v2) (v4) (w5) ((1 : Int32)) (w3)))) else none))
else
(xf_0_longestAsleep_j73 (s) (v1) (v2) (w3) (v4) (w5))))))
set_option maxHeartbeats 4000000 in
theorem xb_0_longestAsleep_l41 {C : mm_C} {Q : mm_R} {pt : Value} {ps : Value} {pr : Value} (h_11_isAwake : xk_11_isAwake C) (h_0_spread : xk_0_spread C) (h_0_asleepTurns : xk_0_asleepTurns C) (v1 : Int32) (v2 : Int32) (v4 : Int32) (t : Int32 × Int32 × xs_S) (x : (Int32 × xs_S)) (hl : mo_loop (xf_0_longestAsleep_l41 v1 v2 v4) t = some x) (hK : (mo_c2 (fun y3 sy => mm_go C mm_Mk mm_Fk P_X0_longestAsleep Q (P_X0_longestAsleep.drop 75) [(0, .ref 126), (1, .int v1), (2, .int v2), (3, .int y3), (4, .int v4)] [] (xs_H pt ps (.ref 9) pr sy) 0 0)) x) : (mo_c2 (fun y3 => (mo_c2 (fun y5 sy => mm_go C mm_Mk mm_Fk P_X0_longestAsleep Q (P_X0_longestAsleep.drop 41) [(0, .ref 126), (1, .int v1), (2, .int v2), (3, .int y3), (4, .int v4), (5, .int y5)] [] (xs_H pt ps (.ref 9) pr sy) 0 0)))) t := by
  refine mo_loop_go (G := (mo_c2 (fun y3 => (mo_c2 (fun y5 sy => mm_go C mm_Mk mm_Fk P_X0_longestAsleep Q (P_X0_longestAsleep.drop 41) [(0, .ref 126), (1, .int v1), (2, .int v2), (3, .int y3), (4, .int v4), (5, .int y5)] [] (xs_H pt ps (.ref 9) pr sy) 0 0)))) ) (K := (mo_c2 (fun y3 sy => mm_go C mm_Mk mm_Fk P_X0_longestAsleep Q (P_X0_longestAsleep.drop 75) [(0, .ref 126), (1, .int v1), (2, .int v2), (3, .int y3), (4, .int v4)] [] (xs_H pt ps (.ref 9) pr sy) 0 0)) ) ?_ t x hl hK
  intro t r hf hK
  obtain ⟨w3, w5, s⟩ := t
  unfold xf_0_longestAsleep_l41 at hf
  by_cases c_10 : w5 < (0 : Int32)
  · have hf := mo_pos hf c_10
    obtain rfl := Option.some.inj hf
    refine mm_adv 2 (cs' := P_X0_longestAsleep.drop 75) (l' := [(0, .ref 126), (1, .int v1), (2, .int v2), (3, .int w3), (4, .int v4), (5, .int w5)]) (st' := []) (h' := (xs_H pt ps (.ref 9) pr s)) (bc' := 0) (bs' := 0) (fun n g => (And.intro (fun _ => g) (fun q => absurd c_10 q))) ?_
    exact mm_re (c := [(0, .ref 126), (1, .int v1), (2, .int v2), (3, .int w3), (4, .int v4)]) hK rfl rfl
  · have hf := mo_neg hf c_10
    obtain ⟨x_11, hx_11, hf⟩ := mo_bind hf
    obtain ⟨hi_11, rfl⟩ := mo_ag_inv hx_11
    obtain ⟨x_12, hx_12, hf⟩ := mo_bind hf
    obtain ⟨hi_12, rfl⟩ := mo_ag_inv hx_12
    by_cases c_13 : ((s.2.1 130) (((s.2.1 127) (w5).toNatClampNeg)).toNatClampNeg) = (-1 : Int32)
    · have hf := mo_pos hf c_13
      obtain ⟨r_14, hr_14, hf⟩ := mo_bind hf
      obtain ⟨v_14, s_14⟩ := r_14
      obtain ⟨hi_15, hf⟩ := mo_if hf
      obtain ⟨x_16, hx_16, hf⟩ := mo_bind hf
      obtain ⟨hi_16, rfl⟩ := mo_ag_inv hx_16
      by_cases c_17 : ((upd (s_14.2.1 130) (((s.2.1 127) (w5).toNatClampNeg)).toNatClampNeg (v_14)) (((s.2.1 127) (w5).toNatClampNeg)).toNatClampNeg) = (-1 : Int32)
      · have hf := mo_pos hf c_17
        refine mm_adv 28 (cs' := P_X0_longestAsleep.drop 71) (l' := [(6, .int ((s.2.1 127) (w5).toNatClampNeg)), (0, .ref 126), (1, .int v1), (2, .int v2), (3, .int w3), (4, .int v4), (5, .int w5)]) (st' := [.int (0 : Int32), .int w3]) (h' := (xs_H pt ps (.ref 9) pr (xs_sA s_14 130 (upd (s_14.2.1 130) (((s.2.1 127) (w5).toNatClampNeg)).toNatClampNeg (v_14))))) (bc' := 0) (bs' := 0) (fun n g => (And.intro (fun q => absurd q c_10) (fun _ => (And.intro hi_11 (And.intro hi_12 (And.intro (fun q => absurd c_13 q) (fun _ => (h_0_asleepTurns pt ps (.ref 9) pr s (((s.2.1 127) (w5).toNatClampNeg)) v_14 s_14 _ hr_14 (And.intro hi_15 (And.intro hi_16 (And.intro (fun _ => g) (fun q => absurd c_17 q)))))))))))) ?_
        refine mm_re (l' := [(0, .ref 126), (1, .int v1), (2, .int v2), (4, .int v4), (5, .int w5)]) (c := [(0, .ref 126), (1, .int v1), (2, .int v2), (4, .int v4), (5, .int w5)]) ?_ rfl rfl
        exact xb_0_longestAsleep_j71 h_11_isAwake h_0_spread h_0_asleepTurns (xs_sA s_14 130 (upd (s_14.2.1 130) (((s.2.1 127) (w5).toNatClampNeg)).toNatClampNeg (v_14))) (v1) (v2) (v4) (w5) ((0 : Int32)) (w3) _ hf hK
      · have hf := mo_neg hf c_17
        refine mm_adv 29 (cs' := P_X0_longestAsleep.drop 71) (l' := [(6, .int ((s.2.1 127) (w5).toNatClampNeg)), (0, .ref 126), (1, .int v1), (2, .int v2), (3, .int w3), (4, .int v4), (5, .int w5)]) (st' := [.int (1 : Int32), .int w3]) (h' := (xs_H pt ps (.ref 9) pr (xs_sA s_14 130 (upd (s_14.2.1 130) (((s.2.1 127) (w5).toNatClampNeg)).toNatClampNeg (v_14))))) (bc' := 0) (bs' := 0) (fun n g => (And.intro (fun q => absurd q c_10) (fun _ => (And.intro hi_11 (And.intro hi_12 (And.intro (fun q => absurd c_13 q) (fun _ => (h_0_asleepTurns pt ps (.ref 9) pr s (((s.2.1 127) (w5).toNatClampNeg)) v_14 s_14 _ hr_14 (And.intro hi_15 (And.intro hi_16 (And.intro (fun q => absurd q c_17) (fun _ => g)))))))))))) ?_
        refine mm_re (l' := [(0, .ref 126), (1, .int v1), (2, .int v2), (4, .int v4), (5, .int w5)]) (c := [(0, .ref 126), (1, .int v1), (2, .int v2), (4, .int v4), (5, .int w5)]) ?_ rfl rfl
        exact xb_0_longestAsleep_j71 h_11_isAwake h_0_spread h_0_asleepTurns (xs_sA s_14 130 (upd (s_14.2.1 130) (((s.2.1 127) (w5).toNatClampNeg)).toNatClampNeg (v_14))) (v1) (v2) (v4) (w5) ((1 : Int32)) (w3) _ hf hK
    · have hf := mo_neg hf c_13
      refine mm_adv 13 (cs' := P_X0_longestAsleep.drop 73) (l' := [(6, .int ((s.2.1 127) (w5).toNatClampNeg)), (0, .ref 126), (1, .int v1), (2, .int v2), (3, .int w3), (4, .int v4), (5, .int w5)]) (st' := []) (h' := (xs_H pt ps (.ref 9) pr s)) (bc' := 0) (bs' := 0) (fun n g => (And.intro (fun q => absurd q c_10) (fun _ => (And.intro hi_11 (And.intro hi_12 (And.intro (fun _ => g) (fun q => absurd c_13 q))))))) ?_
      refine mm_re (l' := [(0, .ref 126), (1, .int v1), (2, .int v2), (3, .int w3), (4, .int v4), (5, .int w5)]) (c := [(0, .ref 126), (1, .int v1), (2, .int v2), (3, .int w3), (4, .int v4), (5, .int w5)]) ?_ rfl rfl
      exact xb_0_longestAsleep_j73 h_11_isAwake h_0_spread h_0_asleepTurns s (v1) (v2) (w3) (v4) (w5) _ hf hK
noncomputable def xf_0_longestAsleep_l29 (v1 : Int32) (v2 : Int32) : (Int32 × Int32 × xs_S) → Option ((Int32 × Int32 × xs_S) ⊕ ((xs_S))) := fun (w3, w4, s) =>
(if (294 : Int32) ≤ w4 then
some (.inr (s))
else
(if w3 = (0 : Int32) then
some (.inr (s))
else
((mo_loop (xf_0_longestAsleep_l41 (v1) (v2) (w4)) ((0 : Int32), ((s.1 2018) - (1 : Int32)), s)).bind fun (e3_18, s_18) =>
some (.inl (e3_18, (w4 + (1 : Int32)), s_18)))))
set_option maxHeartbeats 4000000 in
theorem xb_0_longestAsleep_l29 {C : mm_C} {Q : mm_R} {pt : Value} {ps : Value} {pr : Value} (h_11_isAwake : xk_11_isAwake C) (h_0_spread : xk_0_spread C) (h_0_asleepTurns : xk_0_asleepTurns C) (v1 : Int32) (v2 : Int32) (t : Int32 × Int32 × xs_S) (x : (xs_S)) (hl : mo_loop (xf_0_longestAsleep_l29 v1 v2) t = some x) (hK : (fun sy => mm_go C mm_Mk mm_Fk P_X0_longestAsleep Q (P_X0_longestAsleep.drop 77) [(0, .ref 126), (1, .int v1), (2, .int v2)] [] (xs_H pt ps (.ref 9) pr sy) 0 0) x) : (mo_c2 (fun y3 => (mo_c2 (fun y4 sy => mm_go C mm_Mk mm_Fk P_X0_longestAsleep Q (P_X0_longestAsleep.drop 29) [(0, .ref 126), (1, .int v1), (2, .int v2), (3, .int y3), (4, .int y4)] [] (xs_H pt ps (.ref 9) pr sy) 0 0)))) t := by
  refine mo_loop_go (G := (mo_c2 (fun y3 => (mo_c2 (fun y4 sy => mm_go C mm_Mk mm_Fk P_X0_longestAsleep Q (P_X0_longestAsleep.drop 29) [(0, .ref 126), (1, .int v1), (2, .int v2), (3, .int y3), (4, .int y4)] [] (xs_H pt ps (.ref 9) pr sy) 0 0)))) ) (K := (fun sy => mm_go C mm_Mk mm_Fk P_X0_longestAsleep Q (P_X0_longestAsleep.drop 77) [(0, .ref 126), (1, .int v1), (2, .int v2)] [] (xs_H pt ps (.ref 9) pr sy) 0 0) ) ?_ t x hl hK
  intro t r hf hK
  obtain ⟨w3, w4, s⟩ := t
  unfold xf_0_longestAsleep_l29 at hf
  by_cases c_8 : (294 : Int32) ≤ w4
  · have hf := mo_pos hf c_8
    obtain rfl := Option.some.inj hf
    refine mm_adv 3 (cs' := P_X0_longestAsleep.drop 77) (l' := [(0, .ref 126), (1, .int v1), (2, .int v2), (3, .int w3), (4, .int w4)]) (st' := []) (h' := (xs_H pt ps (.ref 9) pr s)) (bc' := 0) (bs' := 0) (fun n g => (And.intro (fun _ => g) (fun q => absurd c_8 q))) ?_
    exact mm_re (c := [(0, .ref 126), (1, .int v1), (2, .int v2)]) hK rfl rfl
  · have hf := mo_neg hf c_8
    by_cases c_9 : w3 = (0 : Int32)
    · have hf := mo_pos hf c_9
      obtain rfl := Option.some.inj hf
      refine mm_adv 5 (cs' := P_X0_longestAsleep.drop 77) (l' := [(0, .ref 126), (1, .int v1), (2, .int v2), (3, .int w3), (4, .int w4)]) (st' := []) (h' := (xs_H pt ps (.ref 9) pr s)) (bc' := 0) (bs' := 0) (fun n g => (And.intro (fun q => absurd q c_8) (fun _ => (And.intro (fun _ => g) (fun q => absurd c_9 q))))) ?_
      exact mm_re (c := [(0, .ref 126), (1, .int v1), (2, .int v2)]) hK rfl rfl
    · have hf := mo_neg hf c_9
      obtain ⟨x_18, hl_18, hf⟩ := mo_bind hf
      refine mm_adv 12 (cs' := P_X0_longestAsleep.drop 41) (l' := [(5, .int ((s.1 2018) - (1 : Int32))), (3, .int (0 : Int32)), (0, .ref 126), (1, .int v1), (2, .int v2), (4, .int w4)]) (st' := []) (h' := (xs_H pt ps (.ref 9) pr s)) (bc' := 0) (bs' := 0) (fun n g => (And.intro (fun q => absurd q c_8) (fun _ => (And.intro (fun q => absurd q c_9) (fun _ => g))))) ?_
      refine mm_re (l' := [(0, .ref 126), (1, .int v1), (2, .int v2), (3, .int (0 : Int32)), (4, .int w4), (5, .int ((s.1 2018) - (1 : Int32)))]) (c := [(0, .ref 126), (1, .int v1), (2, .int v2), (3, .int (0 : Int32)), (4, .int w4), (5, .int ((s.1 2018) - (1 : Int32)))]) ?_ rfl rfl
      refine xb_0_longestAsleep_l41 h_11_isAwake h_0_spread h_0_asleepTurns (v1) (v2) (w4) ((0 : Int32), ((s.1 2018) - (1 : Int32)), s) x_18 hl_18 ?_
      obtain ⟨e3_18, s_18⟩ := x_18
      obtain rfl := Option.some.inj hf
      refine mm_adv 2 (cs' := P_X0_longestAsleep.drop 29) (l' := [(4, .int (w4 + (1 : Int32))), (0, .ref 126), (1, .int v1), (2, .int v2), (3, .int e3_18)]) (st' := []) (h' := (xs_H pt ps (.ref 9) pr s_18)) (bc' := 0) (bs' := 0) (fun n g => g) ?_
      exact mm_re (c := [(0, .ref 126), (1, .int v1), (2, .int v2), (3, .int e3_18), (4, .int (w4 + (1 : Int32)))]) hK rfl rfl
noncomputable def xf_0_longestAsleep_j77 (s : xs_S) (v1 : Int32) (v2 : Int32) : Option (Int32 × xs_S) :=
((mo_ag 294 (s.2.1 130) v1).bind fun x_20 =>
(if x_20 = (-1 : Int32) then
some (v2, s)
else
((mo_ag 294 (s.2.1 130) v1).bind fun x_22 =>
some ((mm_min (v2) (x_22)), s))))
set_option maxHeartbeats 4000000 in
theorem xb_0_longestAsleep_j77 {C : mm_C} {Q : mm_R} {pt : Value} {ps : Value} {pr : Value} (h_11_isAwake : xk_11_isAwake C) (h_0_spread : xk_0_spread C) (h_0_asleepTurns : xk_0_asleepTurns C) (s : xs_S) (v1 : Int32) (v2 : Int32) (v : Int32) (s2 : xs_S) (hf : xf_0_longestAsleep_j77 s v1 v2 = some (v, s2)) (hK : Q (some (.int v)) (xs_H pt ps (.ref 9) pr s2)) : mm_go C mm_Mk mm_Fk P_X0_longestAsleep Q (P_X0_longestAsleep.drop 77) [(0, .ref 126), (1, .int v1), (2, .int v2)] [] (xs_H pt ps (.ref 9) pr s) 0 0 := by
  unfold xf_0_longestAsleep_j77 at hf
  obtain ⟨x_20, hx_20, hf⟩ := mo_bind hf
  obtain ⟨hi_20, rfl⟩ := mo_ag_inv hx_20
  by_cases c_21 : ((s.2.1 130) (v1).toNatClampNeg) = (-1 : Int32)
  · have hf := mo_pos hf c_21
    obtain ⟨rfl, rfl⟩ := mo_pair hf
    exact ⟨9, (And.intro hi_20 (And.intro (fun q => absurd c_21 q) (fun _ => hK)))⟩
  · have hf := mo_neg hf c_21
    obtain ⟨x_22, hx_22, hf⟩ := mo_bind hf
    obtain ⟨hi_22, rfl⟩ := mo_ag_inv hx_22
    obtain ⟨rfl, rfl⟩ := mo_pair hf
    exact ⟨13, (And.intro hi_20 (And.intro (fun _ => (And.intro hi_22 hK)) (fun q => absurd c_21 q)))⟩
noncomputable def xf_0_longestAsleep (s : xs_S) (a0 : Int32) (a1 : Int32) : Option (Int32 × xs_S) :=
((xf_11_isAwake (a0)).bind fun v_1 =>
(if v_1 = (0 : Int32) then
((xf_0_spread s (a0) ((0 : Int32))).bind fun s_3 =>
((mo_loop (xf_0_longestAsleep_l11 (a0) (a1)) ((0 : Int32), s_3)).bind fun s_7 =>
((mo_loop (xf_0_longestAsleep_l29 (a0) (a1)) ((1 : Int32), (0 : Int32), s_7)).bind fun s_19 =>
(xf_0_longestAsleep_j77 (s_19) (a0) (a1)))))
else
some ((0 : Int32), s)))
set_option maxHeartbeats 4000000 in
theorem xb_0_longestAsleep {C : mm_C} {Q : mm_R} {pt : Value} {ps : Value} {pr : Value} (h_11_isAwake : xk_11_isAwake C) (h_0_spread : xk_0_spread C) (h_0_asleepTurns : xk_0_asleepTurns C) (s : xs_S) (a0 : Int32) (a1 : Int32) (v : Int32) (s2 : xs_S) (hf : xf_0_longestAsleep s a0 a1 = some (v, s2)) (hK : Q (some (.int v)) (xs_H pt ps (.ref 9) pr s2)) : mm_go C mm_Mk mm_Fk P_X0_longestAsleep Q P_X0_longestAsleep [(0, .ref 126), (1, .int a0), (2, .int a1)] [] (xs_H pt ps (.ref 9) pr s) 0 0 := by
  unfold xf_0_longestAsleep at hf
  obtain ⟨v_1, hr_1, hf⟩ := mo_bind hf
  by_cases c_2 : v_1 = (0 : Int32)
  · have hf := mo_pos hf c_2
    obtain ⟨s_3, hr_3, hf⟩ := mo_bind hf
    obtain ⟨x_7, hl_7, hf⟩ := mo_bind hf
    refine mm_adv 9 (cs' := P_X0_longestAsleep.drop 11) (l' := [(3, .int (0 : Int32)), (0, .ref 126), (1, .int a0), (2, .int a1)]) (st' := []) (h' := (xs_H pt ps (.ref 9) pr s_3)) (bc' := 0) (bs' := 0) (fun n g => (h_11_isAwake _ (a0) v_1 _ hr_1 (And.intro (fun _ => (h_0_spread pt ps pr s (a0) ((0 : Int32)) s_3 _ hr_3 g)) (fun q => absurd c_2 q)))) ?_
    refine mm_re (l' := [(0, .ref 126), (1, .int a0), (2, .int a1), (3, .int (0 : Int32))]) (c := [(0, .ref 126), (1, .int a0), (2, .int a1), (3, .int (0 : Int32))]) ?_ rfl rfl
    refine xb_0_longestAsleep_l11 h_11_isAwake h_0_spread h_0_asleepTurns (a0) (a1) ((0 : Int32), s_3) x_7 hl_7 ?_
    obtain ⟨s_7, rfl⟩ : ∃ q, q = x_7 := ⟨_, rfl⟩
    obtain ⟨x_19, hl_19, hf⟩ := mo_bind hf
    refine mm_adv 4 (cs' := P_X0_longestAsleep.drop 29) (l' := [(4, .int (0 : Int32)), (3, .int (1 : Int32)), (0, .ref 126), (1, .int a0), (2, .int a1)]) (st' := []) (h' := (xs_H pt ps (.ref 9) pr s_7)) (bc' := 0) (bs' := 0) (fun n g => g) ?_
    refine mm_re (l' := [(0, .ref 126), (1, .int a0), (2, .int a1), (3, .int (1 : Int32)), (4, .int (0 : Int32))]) (c := [(0, .ref 126), (1, .int a0), (2, .int a1), (3, .int (1 : Int32)), (4, .int (0 : Int32))]) ?_ rfl rfl
    refine xb_0_longestAsleep_l29 h_11_isAwake h_0_spread h_0_asleepTurns (a0) (a1) ((1 : Int32), (0 : Int32), s_7) x_19 hl_19 ?_
    obtain ⟨s_19, rfl⟩ : ∃ q, q = x_19 := ⟨_, rfl⟩
    refine mm_re (l' := [(0, .ref 126), (1, .int a0), (2, .int a1)]) (c := [(0, .ref 126), (1, .int a0), (2, .int a1)]) ?_ rfl rfl
    exact xb_0_longestAsleep_j77 h_11_isAwake h_0_spread h_0_asleepTurns s_19 (a0) (a1) _ _ hf hK
  · have hf := mo_neg hf c_2
    obtain ⟨rfl, rfl⟩ := mo_pair hf
    exact ⟨5, (h_11_isAwake _ (a0) v_1 _ hr_1 (And.intro (fun q => absurd q c_2) (fun _ => hK)))⟩
def xk_0_longestAsleep (C : mm_C) : Prop := ∀ (pt : Value) (ps : Value) (pr : Value) (s : xs_S) (a0 : Int32) (a1 : Int32) (v : Int32) (s2 : xs_S) (Q : mm_R), xf_0_longestAsleep s a0 a1 = some (v, s2) → Q (some (.int v)) (xs_H pt ps (.ref 9) pr s2) → C 129 [.ref 126, .int a0, .int a1] (xs_H pt ps (.ref 9) pr s) Q
