/-! the class, method by method, 7 -/
-- 1_lay_9
noncomputable def xf_1_lay_9_j12 (s : xs_S) (v2 : Int32) (v3 : Int32) : Option (xs_S) :=
((xf_7_fill_53178_118 (xs_sI (xs_sI (xs_sI s 1873 (v2)) 1874 (v3)) 1875 (((s.1 1875) + (1 : Int32)))) ((-1 : Int32))).bind fun s_3 =>
some s_3)
set_option maxHeartbeats 4000000 in
theorem xb_1_lay_9_j12 {C : mm_C} {Q : mm_R} {pt : Value} {ps : Value} {pr : Value} (h_7_fill_53178_118 : xk_7_fill_53178_118 C) (s : xs_S) (v2 : Int32) (v3 : Int32) (s2 : xs_S) (hf : xf_1_lay_9_j12 s v2 v3 = some s2) (hK : Q (none) (xs_H pt ps (.ref 9) pr s2)) : mm_go C mm_Mk mm_Fk P_X1_lay Q (P_X1_lay.drop 12) [(0, .ref 117), (1, .ref 9), (2, .int v2), (3, .int v3)] [] (xs_H pt ps (.ref 9) pr s) 0 0 := by
  unfold xf_1_lay_9_j12 at hf
  obtain ⟨s_3, hr_3, hf⟩ := mo_bind hf
  obtain rfl := Option.some.inj hf
  exact ⟨20, (And.intro trivial (And.intro trivial (And.intro trivial (And.intro trivial (h_7_fill_53178_118 pt ps (.ref 9) pr (xs_sI (xs_sI (xs_sI s 1873 (v2)) 1874 (v3)) 1875 (((s.1 1875) + (1 : Int32)))) ((-1 : Int32)) s_3 _ hr_3 hK)))))⟩
noncomputable def xf_1_lay_9 (s : xs_S) (a1 : Int32) (a2 : Int32) : Option (xs_S) :=
(if (s.1 1873) = a1 then
(if (s.1 1874) = a2 then
some s
else
(xf_1_lay_9_j12 (s) (a1) (a2)))
else
(xf_1_lay_9_j12 (s) (a1) (a2)))
set_option maxHeartbeats 4000000 in
theorem xb_1_lay_9 {C : mm_C} {Q : mm_R} {pt : Value} {ps : Value} {pr : Value} (h_7_fill_53178_118 : xk_7_fill_53178_118 C) (s : xs_S) (a1 : Int32) (a2 : Int32) (s2 : xs_S) (hf : xf_1_lay_9 s a1 a2 = some s2) (hK : Q (none) (xs_H pt ps (.ref 9) pr s2)) : mm_go C mm_Mk mm_Fk P_X1_lay Q P_X1_lay [(0, .ref 117), (1, .ref 9), (2, .int a1), (3, .int a2)] [] (xs_H pt ps (.ref 9) pr s) 0 0 := by
  unfold xf_1_lay_9 at hf
  by_cases c_1 : (s.1 1873) = a1
  · have hf := mo_pos hf c_1
    by_cases c_2 : (s.1 1874) = a2
    · have hf := mo_pos hf c_2
      obtain rfl := Option.some.inj hf
      exact ⟨12, (And.intro (fun q => absurd c_1 q) (fun _ => (And.intro (fun q => absurd c_2 q) (fun _ => hK))))⟩
    · have hf := mo_neg hf c_2
      refine mm_adv 11 (cs' := P_X1_lay.drop 12) (l' := [(0, .ref 117), (1, .ref 9), (2, .int a1), (3, .int a2)]) (st' := []) (h' := (xs_H pt ps (.ref 9) pr s)) (bc' := 0) (bs' := 0) (fun n g => (And.intro (fun q => absurd c_1 q) (fun _ => (And.intro (fun _ => g) (fun q => absurd c_2 q))))) ?_
      refine mm_re (l' := [(0, .ref 117), (1, .ref 9), (2, .int a1), (3, .int a2)]) (c := [(0, .ref 117), (1, .ref 9), (2, .int a1), (3, .int a2)]) ?_ rfl rfl
      exact xb_1_lay_9_j12 h_7_fill_53178_118 s (a1) (a2) _ hf hK
  · have hf := mo_neg hf c_1
    refine mm_adv 7 (cs' := P_X1_lay.drop 12) (l' := [(0, .ref 117), (1, .ref 9), (2, .int a1), (3, .int a2)]) (st' := []) (h' := (xs_H pt ps (.ref 9) pr s)) (bc' := 0) (bs' := 0) (fun n g => (And.intro (fun _ => g) (fun q => absurd c_1 q))) ?_
    refine mm_re (l' := [(0, .ref 117), (1, .ref 9), (2, .int a1), (3, .int a2)]) (c := [(0, .ref 117), (1, .ref 9), (2, .int a1), (3, .int a2)]) ?_ rfl rfl
    exact xb_1_lay_9_j12 h_7_fill_53178_118 s (a1) (a2) _ hf hK
def xk_1_lay_9 (C : mm_C) : Prop := ∀ (pt : Value) (ps : Value) (pr : Value) (s : xs_S) (a1 : Int32) (a2 : Int32) (s2 : xs_S) (Q : mm_R), xf_1_lay_9 s a1 a2 = some s2 → Q (none) (xs_H pt ps (.ref 9) pr s2) → C 137 [.ref 117, .ref 9, .int a1, .int a2] (xs_H pt ps (.ref 9) pr s) Q
-- 11_hire
noncomputable def xf_11_hire_j17 (s : xs_S) (v1 : Int32) (v2 : Int32) : Option (Int32 × xs_S) :=
((xf_5_keep_25 s ).bind fun s_5 =>
((xf_7_wagesOfBoth_9 s_5 (v1) (v2)).bind fun (v_6, s_6) =>
((mo_ag 5 (s_6.2.1 26) v1).bind fun x_7 =>
(bif mo_in v1 5 then ((mo_ag 5 (upd (s_6.2.1 26) (v1).toNatClampNeg ((x_7 + (1 : Int32)))) v2).bind fun x_9 =>
(bif mo_in v2 5 then ((xf_7_evenStanding_9 (xs_sA (xs_sI (xs_sI (xs_sI s_6 401 (v1)) 402 (v2)) 404 (((s_6.1 404) + v_6))) 26 (upd (upd (s_6.2.1 26) (v1).toNatClampNeg ((x_7 + (1 : Int32)))) (v2).toNatClampNeg ((x_9 + (1 : Int32))))) ).bind fun (v_11, s_11) =>
((xf_1_lay_9 (xs_sI s_11 400 (v_11)) (v1) (v2)).bind fun s_12 =>
some (v_6, s_12))) else none)) else none))))
set_option maxHeartbeats 4000000 in
theorem xb_11_hire_j17 {C : mm_C} {Q : mm_R} {ps : Value} {pr : Value} (h_11_areTwo : xk_11_areTwo C) (h_5_keep_25 : xk_5_keep_25 C) (h_7_wagesOfBoth_9 : xk_7_wagesOfBoth_9 C) (h_7_evenStanding_9 : xk_7_evenStanding_9 C) (h_1_lay_9 : xk_1_lay_9 C) (s : xs_S) (v1 : Int32) (v2 : Int32) (v : Int32) (s2 : xs_S) (hf : xf_11_hire_j17 s v1 v2 = some (v, s2)) (hK : Q (some (.int v)) (xs_H (.ref 9) ps (.ref 9) pr s2)) : mm_go C mm_Mk mm_Fk P_X11_hire Q (P_X11_hire.drop 17) [(0, .ref 0), (1, .int v1), (2, .int v2)] [] (xs_H (.ref 9) ps (.ref 9) pr s) 0 0 := by
  unfold xf_11_hire_j17 at hf
  obtain ⟨s_5, hr_5, hf⟩ := mo_bind hf
  obtain ⟨r_6, hr_6, hf⟩ := mo_bind hf
  obtain ⟨v_6, s_6⟩ := r_6
  obtain ⟨x_7, hx_7, hf⟩ := mo_bind hf
  obtain ⟨hi_7, rfl⟩ := mo_ag_inv hx_7
  obtain ⟨hi_8, hf⟩ := mo_if hf
  obtain ⟨x_9, hx_9, hf⟩ := mo_bind hf
  obtain ⟨hi_9, rfl⟩ := mo_ag_inv hx_9
  obtain ⟨hi_10, hf⟩ := mo_if hf
  obtain ⟨r_11, hr_11, hf⟩ := mo_bind hf
  obtain ⟨v_11, s_11⟩ := r_11
  obtain ⟨s_12, hr_12, hf⟩ := mo_bind hf
  obtain ⟨rfl, rfl⟩ := mo_pair hf
  exact ⟨59, (h_5_keep_25 (.ref 9) ps (.ref 9) pr s  s_5 _ hr_5 (h_7_wagesOfBoth_9 (.ref 9) ps (.ref 9) pr s_5 (v1) (v2) v_6 s_6 _ hr_6 (And.intro trivial (And.intro trivial (And.intro hi_7 (And.intro hi_8 (And.intro hi_9 (And.intro hi_10 (And.intro trivial (h_7_evenStanding_9 (.ref 9) ps (.ref 9) pr (xs_sA (xs_sI (xs_sI (xs_sI s_6 401 (v1)) 402 (v2)) 404 (((s_6.1 404) + v_6))) 26 (upd (upd (s_6.2.1 26) (v1).toNatClampNeg ((((s_6.2.1 26) (v1).toNatClampNeg) + (1 : Int32)))) (v2).toNatClampNeg ((((upd (s_6.2.1 26) (v1).toNatClampNeg ((((s_6.2.1 26) (v1).toNatClampNeg) + (1 : Int32)))) (v2).toNatClampNeg) + (1 : Int32)))))  v_11 s_11 _ hr_11 (And.intro trivial (h_1_lay_9 (.ref 9) ps pr (xs_sI s_11 400 (v_11)) (v1) (v2) s_12 _ hr_12 hK))))))))))))⟩
noncomputable def xf_11_hire (s : xs_S) (a0 : Int32) (a1 : Int32) : Option (Int32 × xs_S) :=
((xf_11_areTwo s (a0) (a1)).bind fun (v_1, s_1) =>
(if v_1 = (0 : Int32) then
some ((-1 : Int32), s_1)
else
(if a0 = (s_1.1 401) then
(if a1 = (s_1.1 402) then
some ((-1 : Int32), s_1)
else
(xf_11_hire_j17 (s_1) (a0) (a1)))
else
(xf_11_hire_j17 (s_1) (a0) (a1)))))
set_option maxHeartbeats 4000000 in
theorem xb_11_hire {C : mm_C} {Q : mm_R} {ps : Value} {pr : Value} (h_11_areTwo : xk_11_areTwo C) (h_5_keep_25 : xk_5_keep_25 C) (h_7_wagesOfBoth_9 : xk_7_wagesOfBoth_9 C) (h_7_evenStanding_9 : xk_7_evenStanding_9 C) (h_1_lay_9 : xk_1_lay_9 C) (s : xs_S) (a0 : Int32) (a1 : Int32) (v : Int32) (s2 : xs_S) (hf : xf_11_hire s a0 a1 = some (v, s2)) (hK : Q (some (.int v)) (xs_H (.ref 9) ps (.ref 9) pr s2)) : mm_go C mm_Mk mm_Fk P_X11_hire Q P_X11_hire [(0, .ref 0), (1, .int a0), (2, .int a1)] [] (xs_H (.ref 9) ps (.ref 9) pr s) 0 0 := by
  unfold xf_11_hire at hf
  obtain ⟨r_1, hr_1, hf⟩ := mo_bind hf
  obtain ⟨v_1, s_1⟩ := r_1
  by_cases c_2 : v_1 = (0 : Int32)
  · have hf := mo_pos hf c_2
    obtain ⟨rfl, rfl⟩ := mo_pair hf
    exact ⟨7, (h_11_areTwo ps (.ref 9) pr s (a0) (a1) v_1 s_1 _ hr_1 (And.intro (fun _ => hK) (fun q => absurd c_2 q)))⟩
  · have hf := mo_neg hf c_2
    by_cases c_3 : a0 = (s_1.1 401)
    · have hf := mo_pos hf c_3
      by_cases c_4 : a1 = (s_1.1 402)
      · have hf := mo_pos hf c_4
        obtain ⟨rfl, rfl⟩ := mo_pair hf
        exact ⟨17, (h_11_areTwo ps (.ref 9) pr s (a0) (a1) v_1 s_1 _ hr_1 (And.intro (fun q => absurd q c_2) (fun _ => (And.intro (fun q => absurd c_3 q) (fun _ => (And.intro (fun q => absurd c_4 q) (fun _ => hK)))))))⟩
      · have hf := mo_neg hf c_4
        refine mm_adv 15 (cs' := P_X11_hire.drop 17) (l' := [(0, .ref 0), (1, .int a0), (2, .int a1)]) (st' := []) (h' := (xs_H (.ref 9) ps (.ref 9) pr s_1)) (bc' := 0) (bs' := 0) (fun n g => (h_11_areTwo ps (.ref 9) pr s (a0) (a1) v_1 s_1 _ hr_1 (And.intro (fun q => absurd q c_2) (fun _ => (And.intro (fun q => absurd c_3 q) (fun _ => (And.intro (fun _ => g) (fun q => absurd c_4 q)))))))) ?_
        refine mm_re (l' := [(0, .ref 0), (1, .int a0), (2, .int a1)]) (c := [(0, .ref 0), (1, .int a0), (2, .int a1)]) ?_ rfl rfl
        exact xb_11_hire_j17 h_11_areTwo h_5_keep_25 h_7_wagesOfBoth_9 h_7_evenStanding_9 h_1_lay_9 s_1 (a0) (a1) _ _ hf hK
    · have hf := mo_neg hf c_3
      refine mm_adv 10 (cs' := P_X11_hire.drop 17) (l' := [(0, .ref 0), (1, .int a0), (2, .int a1)]) (st' := []) (h' := (xs_H (.ref 9) ps (.ref 9) pr s_1)) (bc' := 0) (bs' := 0) (fun n g => (h_11_areTwo ps (.ref 9) pr s (a0) (a1) v_1 s_1 _ hr_1 (And.intro (fun q => absurd q c_2) (fun _ => (And.intro (fun _ => g) (fun q => absurd c_3 q)))))) ?_
      refine mm_re (l' := [(0, .ref 0), (1, .int a0), (2, .int a1)]) (c := [(0, .ref 0), (1, .int a0), (2, .int a1)]) ?_ rfl rfl
      exact xb_11_hire_j17 h_11_areTwo h_5_keep_25 h_7_wagesOfBoth_9 h_7_evenStanding_9 h_1_lay_9 s_1 (a0) (a1) _ _ hf hK
def xk_11_hire (C : mm_C) : Prop := ∀ (ps : Value) (pr : Value) (s : xs_S) (a0 : Int32) (a1 : Int32) (v : Int32) (s2 : xs_S) (Q : mm_R), xf_11_hire s a0 a1 = some (v, s2) → Q (some (.int v)) (xs_H (.ref 9) ps (.ref 9) pr s2) → C 233 [.ref 0, .int a0, .int a1] (xs_H (.ref 9) ps (.ref 9) pr s) Q
-- 11_set
noncomputable def xf_11_set (s : xs_S)  : Option (Int32 × xs_S) :=
((xf_7_evenStanding_9 s ).bind fun (v_1, s_1) =>
(if (s.1 400) = v_1 then
some ((0 : Int32), s_1)
else
((xf_5_keep_25 s_1 ).bind fun s_3 =>
((xf_7_evenStanding_9 s_3 ).bind fun (v_4, s_4) =>
some ((1 : Int32), (xs_sI s_4 400 (v_4)))))))
set_option maxHeartbeats 4000000 in
theorem xb_11_set {C : mm_C} {Q : mm_R} {ps : Value} {pg : Value} {pr : Value} (h_7_evenStanding_9 : xk_7_evenStanding_9 C) (h_5_keep_25 : xk_5_keep_25 C) (s : xs_S)  (v : Int32) (s2 : xs_S) (hf : xf_11_set s = some (v, s2)) (hK : Q (some (.int v)) (xs_H (.ref 9) ps pg pr s2)) : mm_go C mm_Mk mm_Fk P_X11_set Q P_X11_set [(0, .ref 0)] [] (xs_H (.ref 9) ps pg pr s) 0 0 := by
  unfold xf_11_set at hf
  obtain ⟨r_1, hr_1, hf⟩ := mo_bind hf
  obtain ⟨v_1, s_1⟩ := r_1
  by_cases c_2 : (s.1 400) = v_1
  · have hf := mo_pos hf c_2
    obtain ⟨rfl, rfl⟩ := mo_pair hf
    exact ⟨9, (h_7_evenStanding_9 (.ref 9) ps pg pr s  v_1 s_1 _ hr_1 (And.intro (fun q => absurd c_2 q) (fun _ => (And.intro rfl hK))))⟩
  · have hf := mo_neg hf c_2
    obtain ⟨s_3, hr_3, hf⟩ := mo_bind hf
    obtain ⟨r_4, hr_4, hf⟩ := mo_bind hf
    obtain ⟨v_4, s_4⟩ := r_4
    obtain ⟨rfl, rfl⟩ := mo_pair hf
    exact ⟨20, (h_7_evenStanding_9 (.ref 9) ps pg pr s  v_1 s_1 _ hr_1 (And.intro (fun _ => (h_5_keep_25 (.ref 9) ps pg pr s_1  s_3 _ hr_3 (h_7_evenStanding_9 (.ref 9) ps pg pr s_3  v_4 s_4 _ hr_4 (And.intro trivial (And.intro rfl hK))))) (fun q => absurd c_2 q)))⟩
def xk_11_set (C : mm_C) : Prop := ∀ (ps : Value) (pg : Value) (pr : Value) (s : xs_S)  (v : Int32) (s2 : xs_S) (Q : mm_R), xf_11_set s = some (v, s2) → Q (some (.int v)) (xs_H (.ref 9) ps pg pr s2) → C 234 [.ref 0] (xs_H (.ref 9) ps pg pr s) Q
-- 6_bitCount_0f7a4
noncomputable def xf_6_bitCount_0f7a4 (a0 : Int32) : Option (Int32) :=
some (((((((((a0 - (((a0).toUInt32 >>> (((1 : Int32)).toUInt32 &&& Int32.toUInt32 31)).toInt32 &&& (1431655765 : Int32))) &&& (858993459 : Int32)) + ((((a0 - (((a0).toUInt32 >>> (((1 : Int32)).toUInt32 &&& Int32.toUInt32 31)).toInt32 &&& (1431655765 : Int32)))).toUInt32 >>> (((2 : Int32)).toUInt32 &&& Int32.toUInt32 31)).toInt32 &&& (858993459 : Int32))) + (((((a0 - (((a0).toUInt32 >>> (((1 : Int32)).toUInt32 &&& Int32.toUInt32 31)).toInt32 &&& (1431655765 : Int32))) &&& (858993459 : Int32)) + ((((a0 - (((a0).toUInt32 >>> (((1 : Int32)).toUInt32 &&& Int32.toUInt32 31)).toInt32 &&& (1431655765 : Int32)))).toUInt32 >>> (((2 : Int32)).toUInt32 &&& Int32.toUInt32 31)).toInt32 &&& (858993459 : Int32)))).toUInt32 >>> (((4 : Int32)).toUInt32 &&& Int32.toUInt32 31)).toInt32) &&& (252645135 : Int32)) + (((((((a0 - (((a0).toUInt32 >>> (((1 : Int32)).toUInt32 &&& Int32.toUInt32 31)).toInt32 &&& (1431655765 : Int32))) &&& (858993459 : Int32)) + ((((a0 - (((a0).toUInt32 >>> (((1 : Int32)).toUInt32 &&& Int32.toUInt32 31)).toInt32 &&& (1431655765 : Int32)))).toUInt32 >>> (((2 : Int32)).toUInt32 &&& Int32.toUInt32 31)).toInt32 &&& (858993459 : Int32))) + (((((a0 - (((a0).toUInt32 >>> (((1 : Int32)).toUInt32 &&& Int32.toUInt32 31)).toInt32 &&& (1431655765 : Int32))) &&& (858993459 : Int32)) + ((((a0 - (((a0).toUInt32 >>> (((1 : Int32)).toUInt32 &&& Int32.toUInt32 31)).toInt32 &&& (1431655765 : Int32)))).toUInt32 >>> (((2 : Int32)).toUInt32 &&& Int32.toUInt32 31)).toInt32 &&& (858993459 : Int32)))).toUInt32 >>> (((4 : Int32)).toUInt32 &&& Int32.toUInt32 31)).toInt32) &&& (252645135 : Int32))).toUInt32 >>> (((8 : Int32)).toUInt32 &&& Int32.toUInt32 31)).toInt32) + ((((((((a0 - (((a0).toUInt32 >>> (((1 : Int32)).toUInt32 &&& Int32.toUInt32 31)).toInt32 &&& (1431655765 : Int32))) &&& (858993459 : Int32)) + ((((a0 - (((a0).toUInt32 >>> (((1 : Int32)).toUInt32 &&& Int32.toUInt32 31)).toInt32 &&& (1431655765 : Int32)))).toUInt32 >>> (((2 : Int32)).toUInt32 &&& Int32.toUInt32 31)).toInt32 &&& (858993459 : Int32))) + (((((a0 - (((a0).toUInt32 >>> (((1 : Int32)).toUInt32 &&& Int32.toUInt32 31)).toInt32 &&& (1431655765 : Int32))) &&& (858993459 : Int32)) + ((((a0 - (((a0).toUInt32 >>> (((1 : Int32)).toUInt32 &&& Int32.toUInt32 31)).toInt32 &&& (1431655765 : Int32)))).toUInt32 >>> (((2 : Int32)).toUInt32 &&& Int32.toUInt32 31)).toInt32 &&& (858993459 : Int32)))).toUInt32 >>> (((4 : Int32)).toUInt32 &&& Int32.toUInt32 31)).toInt32) &&& (252645135 : Int32)) + (((((((a0 - (((a0).toUInt32 >>> (((1 : Int32)).toUInt32 &&& Int32.toUInt32 31)).toInt32 &&& (1431655765 : Int32))) &&& (858993459 : Int32)) + ((((a0 - (((a0).toUInt32 >>> (((1 : Int32)).toUInt32 &&& Int32.toUInt32 31)).toInt32 &&& (1431655765 : Int32)))).toUInt32 >>> (((2 : Int32)).toUInt32 &&& Int32.toUInt32 31)).toInt32 &&& (858993459 : Int32))) + (((((a0 - (((a0).toUInt32 >>> (((1 : Int32)).toUInt32 &&& Int32.toUInt32 31)).toInt32 &&& (1431655765 : Int32))) &&& (858993459 : Int32)) + ((((a0 - (((a0).toUInt32 >>> (((1 : Int32)).toUInt32 &&& Int32.toUInt32 31)).toInt32 &&& (1431655765 : Int32)))).toUInt32 >>> (((2 : Int32)).toUInt32 &&& Int32.toUInt32 31)).toInt32 &&& (858993459 : Int32)))).toUInt32 >>> (((4 : Int32)).toUInt32 &&& Int32.toUInt32 31)).toInt32) &&& (252645135 : Int32))).toUInt32 >>> (((8 : Int32)).toUInt32 &&& Int32.toUInt32 31)).toInt32)).toUInt32 >>> (((16 : Int32)).toUInt32 &&& Int32.toUInt32 31)).toInt32) &&& (63 : Int32)))
set_option maxHeartbeats 4000000 in
theorem xb_6_bitCount_0f7a4 {C : mm_C} {Q : mm_R}  {h : mm_H} (a0 : Int32) (v : Int32) (hf : xf_6_bitCount_0f7a4 a0 = some v) (hK : Q (some (.int v)) h) : mm_go C mm_Mk mm_Fk P_J6_bitCount_0f7a4 Q P_J6_bitCount_0f7a4 [(0, .int a0)] [] h 0 0 := by
  unfold xf_6_bitCount_0f7a4 at hf
  obtain rfl := Option.some.inj hf
  exact ⟨42, hK⟩
def xk_6_bitCount_0f7a4 (C : mm_C) : Prop := ∀ (h : mm_H) (a0 : Int32) (v : Int32) (Q : mm_R), xf_6_bitCount_0f7a4 a0 = some v → Q (some (.int v)) h → C 122 [.int a0] h Q
-- 11_stir
noncomputable def xf_11_stir (a0 : Int32) (a1 : Int32) : Option (Int32) :=
some (((((a0 ^^^ a1) * (1103515245 : Int32)) + (12345 : Int32)) ^^^ (((((a0 ^^^ a1) * (1103515245 : Int32)) + (12345 : Int32))).toUInt32 >>> (((15 : Int32)).toUInt32 &&& Int32.toUInt32 31)).toInt32))
set_option maxHeartbeats 4000000 in
theorem xb_11_stir {C : mm_C} {Q : mm_R}  {h : mm_H} (a0 : Int32) (a1 : Int32) (v : Int32) (hf : xf_11_stir a0 a1 = some v) (hK : Q (some (.int v)) h) : mm_go C mm_Mk mm_Fk P_X11_stir Q P_X11_stir [(0, .int a0), (1, .int a1)] [] h 0 0 := by
  unfold xf_11_stir at hf
  obtain rfl := Option.some.inj hf
  exact ⟨14, hK⟩
def xk_11_stir (C : mm_C) : Prop := ∀ (h : mm_H) (a0 : Int32) (a1 : Int32) (v : Int32) (Q : mm_R), xf_11_stir a0 a1 = some v → Q (some (.int v)) h → C 277 [.int a0, .int a1] h Q
-- 11_lot
noncomputable def xf_11_lot (a0 : Int32) (a1 : Int32) (a2 : Int32) : Option (Int32) :=
(if (1 : Int32) ≤ a0 then
((xf_11_stir (a1) ((199 : Int32))).bind fun v_2 =>
((xf_11_stir (v_2) (a2)).bind fun v_3 =>
(if a0 = 0 then none else some ((((v_3).toUInt32 >>> (((1 : Int32)).toUInt32 &&& Int32.toUInt32 31)).toInt32 - ((v_3).toUInt32 >>> (((1 : Int32)).toUInt32 &&& Int32.toUInt32 31)).toInt32 / a0 * a0)))))
else
some ((0 : Int32)))
set_option maxHeartbeats 4000000 in
theorem xb_11_lot {C : mm_C} {Q : mm_R} (h_11_stir : xk_11_stir C) {h : mm_H} (a0 : Int32) (a1 : Int32) (a2 : Int32) (v : Int32) (hf : xf_11_lot a0 a1 a2 = some v) (hK : Q (some (.int v)) h) : mm_go C mm_Mk mm_Fk P_X11_lot Q P_X11_lot [(0, .int a0), (1, .int a1), (2, .int a2)] [] h 0 0 := by
  unfold xf_11_lot at hf
  by_cases c_1 : (1 : Int32) ≤ a0
  · have hf := mo_pos hf c_1
    obtain ⟨v_2, hr_2, hf⟩ := mo_bind hf
    obtain ⟨v_3, hr_3, hf⟩ := mo_bind hf
    obtain ⟨hz_4, hf⟩ := mo_nz hf
    obtain rfl := Option.some.inj hf
    exact ⟨15, (And.intro (fun _ => (h_11_stir _ (a1) ((199 : Int32)) v_2 _ hr_2 (h_11_stir _ (v_2) (a2) v_3 _ hr_3 (And.intro hz_4 hK)))) (fun q => absurd c_1 q))⟩
  · have hf := mo_neg hf c_1
    obtain rfl := Option.some.inj hf
    exact ⟨5, (And.intro (fun q => absurd q c_1) (fun _ => hK))⟩
def xk_11_lot (C : mm_C) : Prop := ∀ (h : mm_H) (a0 : Int32) (a1 : Int32) (a2 : Int32) (v : Int32) (Q : mm_R), xf_11_lot a0 a1 a2 = some v → Q (some (.int v)) h → C 276 [.int a0, .int a1, .int a2] h Q
-- 1_moveByLot
noncomputable def xf_1_moveByLot_j23 (v0 : Int32) (v3 : Int32) (v4 : Int32) : Option ((Int32 × Int32) ⊕ ((Int32) ⊕ (Unit))) :=
some (.inl (v3, (v4 + (1 : Int32))))
set_option maxHeartbeats 4000000 in
theorem xb_1_moveByLot_j23 {C : mm_C} {Q : mm_R} (h_6_bitCount_0f7a4 : xk_6_bitCount_0f7a4 C) (h_11_lot : xk_11_lot C) {h : mm_H} (v0 : Int32) (v3 : Int32) (v4 : Int32) (r : (Int32 × Int32) ⊕ ((Int32) ⊕ (Unit))) (hf : xf_1_moveByLot_j23 v0 v3 v4 = some r) (hK : mo_sum (mo_c2 (fun y3 y4 => mm_go C mm_Mk mm_Fk P_X1_moveByLot Q (P_X1_moveByLot.drop 8) [(0, .int v0), (3, .int y3), (4, .int y4)] [] h 0 0))  (mo_sum (fun y4 => mm_go C mm_Mk mm_Fk P_X1_moveByLot Q (P_X1_moveByLot.drop 20) [(4, .int y4)] [] h 0 0) (fun (_ : Unit) => mm_go C mm_Mk mm_Fk P_X1_moveByLot Q (P_X1_moveByLot.drop 25) [] [] h 0 0))  r) : mm_go C mm_Mk mm_Fk P_X1_moveByLot Q (P_X1_moveByLot.drop 23) [(0, .int v0), (3, .int v3), (4, .int v4)] [] h 0 0 := by
  unfold xf_1_moveByLot_j23 at hf
  obtain rfl := Option.some.inj hf
  refine mm_adv 2 (cs' := P_X1_moveByLot.drop 8) (l' := [(4, .int (v4 + (1 : Int32))), (0, .int v0), (3, .int v3)]) (st' := []) (h' := h) (bc' := 0) (bs' := 0) (fun n g => g) ?_
  exact mm_re (c := [(0, .int v0), (3, .int v3), (4, .int (v4 + (1 : Int32)))]) hK rfl rfl
noncomputable def xf_1_moveByLot_l8 (v0 : Int32) : (Int32 × Int32) → Option ((Int32 × Int32) ⊕ ((Int32) ⊕ (Unit))) := fun (w3, w4) =>
(if (6 : Int32) ≤ w4 then
some (.inr (.inr ()))
else
(if ((v0 >>> (w4 &&& 31)) &&& (1 : Int32)) = (1 : Int32) then
(if w3 = (0 : Int32) then
some (.inr (.inl (w4)))
else
(xf_1_moveByLot_j23 (v0) ((w3 + (-1 : Int32))) (w4)))
else
(xf_1_moveByLot_j23 (v0) (w3) (w4))))
set_option maxHeartbeats 4000000 in
theorem xb_1_moveByLot_l8 {C : mm_C} {Q : mm_R} (h_6_bitCount_0f7a4 : xk_6_bitCount_0f7a4 C) (h_11_lot : xk_11_lot C) (h : mm_H) (v0 : Int32) (t : Int32 × Int32) (x : (Int32) ⊕ (Unit)) (hl : mo_loop (xf_1_moveByLot_l8 v0) t = some x) (hK : (mo_sum (fun y4 => mm_go C mm_Mk mm_Fk P_X1_moveByLot Q (P_X1_moveByLot.drop 20) [(4, .int y4)] [] h 0 0) (fun (_ : Unit) => mm_go C mm_Mk mm_Fk P_X1_moveByLot Q (P_X1_moveByLot.drop 25) [] [] h 0 0)) x) : (mo_c2 (fun y3 y4 => mm_go C mm_Mk mm_Fk P_X1_moveByLot Q (P_X1_moveByLot.drop 8) [(0, .int v0), (3, .int y3), (4, .int y4)] [] h 0 0)) t := by
  refine mo_loop_go (G := (mo_c2 (fun y3 y4 => mm_go C mm_Mk mm_Fk P_X1_moveByLot Q (P_X1_moveByLot.drop 8) [(0, .int v0), (3, .int y3), (4, .int y4)] [] h 0 0)) ) (K := (mo_sum (fun y4 => mm_go C mm_Mk mm_Fk P_X1_moveByLot Q (P_X1_moveByLot.drop 20) [(4, .int y4)] [] h 0 0) (fun (_ : Unit) => mm_go C mm_Mk mm_Fk P_X1_moveByLot Q (P_X1_moveByLot.drop 25) [] [] h 0 0)) ) ?_ t x hl hK
  intro t r hf hK
  obtain ⟨w3, w4⟩ := t
  unfold xf_1_moveByLot_l8 at hf
  by_cases c_3 : (6 : Int32) ≤ w4
  · have hf := mo_pos hf c_3
    obtain rfl := Option.some.inj hf
    refine mm_adv 3 (cs' := P_X1_moveByLot.drop 25) (l' := [(0, .int v0), (3, .int w3), (4, .int w4)]) (st' := []) (h' := h) (bc' := 0) (bs' := 0) (fun n g => (And.intro (fun _ => g) (fun q => absurd c_3 q))) ?_
    exact mm_re (c := []) hK rfl rfl
  · have hf := mo_neg hf c_3
    by_cases c_4 : ((v0 >>> (w4 &&& 31)) &&& (1 : Int32)) = (1 : Int32)
    · have hf := mo_pos hf c_4
      by_cases c_5 : w3 = (0 : Int32)
      · have hf := mo_pos hf c_5
        obtain rfl := Option.some.inj hf
        refine mm_adv 12 (cs' := P_X1_moveByLot.drop 20) (l' := [(0, .int v0), (3, .int w3), (4, .int w4)]) (st' := []) (h' := h) (bc' := 0) (bs' := 0) (fun n g => (And.intro (fun q => absurd q c_3) (fun _ => (And.intro (fun q => absurd c_4 q) (fun _ => (And.intro (fun q => absurd c_5 q) (fun _ => g))))))) ?_
        exact mm_re (c := [(4, .int w4)]) hK rfl rfl
      · have hf := mo_neg hf c_5
        refine mm_adv 13 (cs' := P_X1_moveByLot.drop 23) (l' := [(3, .int (w3 + (-1 : Int32))), (0, .int v0), (4, .int w4)]) (st' := []) (h' := h) (bc' := 0) (bs' := 0) (fun n g => (And.intro (fun q => absurd q c_3) (fun _ => (And.intro (fun q => absurd c_4 q) (fun _ => (And.intro (fun _ => g) (fun q => absurd c_5 q))))))) ?_
        refine mm_re (l' := [(0, .int v0), (3, .int (w3 + (-1 : Int32))), (4, .int w4)]) (c := [(0, .int v0), (3, .int (w3 + (-1 : Int32))), (4, .int w4)]) ?_ rfl rfl
        exact xb_1_moveByLot_j23 h_6_bitCount_0f7a4 h_11_lot (v0) ((w3 + (-1 : Int32))) (w4) _ hf hK
    · have hf := mo_neg hf c_4
      refine mm_adv 10 (cs' := P_X1_moveByLot.drop 23) (l' := [(0, .int v0), (3, .int w3), (4, .int w4)]) (st' := []) (h' := h) (bc' := 0) (bs' := 0) (fun n g => (And.intro (fun q => absurd q c_3) (fun _ => (And.intro (fun _ => g) (fun q => absurd c_4 q))))) ?_
      refine mm_re (l' := [(0, .int v0), (3, .int w3), (4, .int w4)]) (c := [(0, .int v0), (3, .int w3), (4, .int w4)]) ?_ rfl rfl
      exact xb_1_moveByLot_j23 h_6_bitCount_0f7a4 h_11_lot (v0) (w3) (w4) _ hf hK
noncomputable def xf_1_moveByLot (a0 : Int32) (a1 : Int32) (a2 : Int32) : Option (Int32) :=
((xf_6_bitCount_0f7a4 (a0)).bind fun v_1 =>
((xf_11_lot (v_1) (a1) (a2)).bind fun v_2 =>
((mo_loop (xf_1_moveByLot_l8 (a0)) (v_2, (0 : Int32))).bind fun x_6 =>
match x_6 with
| (.inl e4_6) => some (e4_6)
| (.inr _) => some ((6 : Int32))
)))
set_option maxHeartbeats 4000000 in
theorem xb_1_moveByLot {C : mm_C} {Q : mm_R} (h_6_bitCount_0f7a4 : xk_6_bitCount_0f7a4 C) (h_11_lot : xk_11_lot C) {h : mm_H} (a0 : Int32) (a1 : Int32) (a2 : Int32) (v : Int32) (hf : xf_1_moveByLot a0 a1 a2 = some v) (hK : Q (some (.int v)) h) : mm_go C mm_Mk mm_Fk P_X1_moveByLot Q P_X1_moveByLot [(0, .int a0), (1, .int a1), (2, .int a2)] [] h 0 0 := by
  unfold xf_1_moveByLot at hf
  obtain ⟨v_1, hr_1, hf⟩ := mo_bind hf
  obtain ⟨v_2, hr_2, hf⟩ := mo_bind hf
  obtain ⟨x_6, hl_6, hf⟩ := mo_bind hf
  refine mm_adv 8 (cs' := P_X1_moveByLot.drop 8) (l' := [(4, .int (0 : Int32)), (3, .int v_2), (0, .int a0), (1, .int a1), (2, .int a2)]) (st' := []) (h' := h) (bc' := 0) (bs' := 0) (fun n g => (h_6_bitCount_0f7a4 _ (a0) v_1 _ hr_1 (h_11_lot _ (v_1) (a1) (a2) v_2 _ hr_2 g))) ?_
  refine mm_re (l' := [(0, .int a0), (3, .int v_2), (4, .int (0 : Int32))]) (c := [(0, .int a0), (3, .int v_2), (4, .int (0 : Int32))]) ?_ rfl rfl
  refine xb_1_moveByLot_l8 h_6_bitCount_0f7a4 h_11_lot _ (a0) (v_2, (0 : Int32)) x_6 hl_6 ?_
  cases x_6 with
  | inl y_6 =>
    obtain ⟨e4_6, rfl⟩ : ∃ q, q = y_6 := ⟨_, rfl⟩
    obtain rfl := Option.some.inj hf
    exact ⟨2, hK⟩
  | inr z_6_0 =>
    obtain rfl := Option.some.inj hf
    exact ⟨2, hK⟩
def xk_1_moveByLot (C : mm_C) : Prop := ∀ (h : mm_H) (a0 : Int32) (a1 : Int32) (a2 : Int32) (v : Int32) (Q : mm_R), xf_1_moveByLot a0 a1 a2 = some v → Q (some (.int v)) h → C 143 [.int a0, .int a1, .int a2] h Q
-- 1_afterMinutes
noncomputable def xf_1_afterMinutes_l4 (v2 : Int32) (v3 : Int32) (v4 : Int32) : (Int32 × Int32 × xs_S) → Option ((Int32 × Int32 × xs_S) ⊕ ((Int32 × xs_S) ⊕ (Int32 × xs_S))) := fun (w5, w6, s) =>
(if v4 ≤ w6 then
some (.inr (.inr (w5, s)))
else
((xf_1_open s (w5)).bind fun s_2 =>
((mo_ag 294 (s_2.2.1 118) w5).bind fun x_3 =>
((xf_1_moveByLot (x_3) (v3) ((v2 + w6))).bind fun v_4 =>
((xf_1_after s_2 (w5) (v_4) ((0 : Int32))).bind fun (v_5, s_5) =>
(if v_5 = (-1 : Int32) then
some (.inr (.inl (w5, s_5)))
else
some (.inl (v_5, (w6 + (1 : Int32)), s_5))))))))
set_option maxHeartbeats 4000000 in
theorem xb_1_afterMinutes_l4 {C : mm_C} {Q : mm_R} {pt : Value} {ps : Value} {pr : Value} (h_1_open : xk_1_open C) (h_1_moveByLot : xk_1_moveByLot C) (h_1_after : xk_1_after C) (v2 : Int32) (v3 : Int32) (v4 : Int32) (t : Int32 × Int32 × xs_S) (x : (Int32 × xs_S) ⊕ (Int32 × xs_S)) (hl : mo_loop (xf_1_afterMinutes_l4 v2 v3 v4) t = some x) (hK : (mo_sum (mo_c2 (fun y5 sy => mm_go C mm_Mk mm_Fk P_X1_afterMinutes Q (P_X1_afterMinutes.drop 29) [(5, .int y5)] [] (xs_H pt ps (.ref 9) pr sy) 0 0)) (mo_c2 (fun y5 sy => mm_go C mm_Mk mm_Fk P_X1_afterMinutes Q (P_X1_afterMinutes.drop 35) [(5, .int y5)] [] (xs_H pt ps (.ref 9) pr sy) 0 0))) x) : (mo_c2 (fun y5 => (mo_c2 (fun y6 sy => mm_go C mm_Mk mm_Fk P_X1_afterMinutes Q (P_X1_afterMinutes.drop 4) [(0, .ref 117), (2, .int v2), (3, .int v3), (4, .int v4), (5, .int y5), (6, .int y6)] [] (xs_H pt ps (.ref 9) pr sy) 0 0)))) t := by
  refine mo_loop_go (G := (mo_c2 (fun y5 => (mo_c2 (fun y6 sy => mm_go C mm_Mk mm_Fk P_X1_afterMinutes Q (P_X1_afterMinutes.drop 4) [(0, .ref 117), (2, .int v2), (3, .int v3), (4, .int v4), (5, .int y5), (6, .int y6)] [] (xs_H pt ps (.ref 9) pr sy) 0 0)))) ) (K := (mo_sum (mo_c2 (fun y5 sy => mm_go C mm_Mk mm_Fk P_X1_afterMinutes Q (P_X1_afterMinutes.drop 29) [(5, .int y5)] [] (xs_H pt ps (.ref 9) pr sy) 0 0)) (mo_c2 (fun y5 sy => mm_go C mm_Mk mm_Fk P_X1_afterMinutes Q (P_X1_afterMinutes.drop 35) [(5, .int y5)] [] (xs_H pt ps (.ref 9) pr sy) 0 0))) ) ?_ t x hl hK
  intro t r hf hK
  obtain ⟨w5, w6, s⟩ := t
  unfold xf_1_afterMinutes_l4 at hf
  by_cases c_1 : v4 ≤ w6
  · have hf := mo_pos hf c_1
    obtain rfl := Option.some.inj hf
    refine mm_adv 3 (cs' := P_X1_afterMinutes.drop 35) (l' := [(0, .ref 117), (2, .int v2), (3, .int v3), (4, .int v4), (5, .int w5), (6, .int w6)]) (st' := []) (h' := (xs_H pt ps (.ref 9) pr s)) (bc' := 0) (bs' := 0) (fun n g => (And.intro (fun _ => g) (fun q => absurd c_1 q))) ?_
    exact mm_re (c := [(5, .int w5)]) hK rfl rfl
  · have hf := mo_neg hf c_1
    obtain ⟨s_2, hr_2, hf⟩ := mo_bind hf
    obtain ⟨x_3, hx_3, hf⟩ := mo_bind hf
    obtain ⟨hi_3, rfl⟩ := mo_ag_inv hx_3
    obtain ⟨v_4, hr_4, hf⟩ := mo_bind hf
    obtain ⟨r_5, hr_5, hf⟩ := mo_bind hf
    obtain ⟨v_5, s_5⟩ := r_5
    by_cases c_6 : v_5 = (-1 : Int32)
    · have hf := mo_pos hf c_6
      obtain rfl := Option.some.inj hf
      refine mm_adv 25 (cs' := P_X1_afterMinutes.drop 29) (l' := [(8, .int v_5), (7, .int v_4), (0, .ref 117), (2, .int v2), (3, .int v3), (4, .int v4), (5, .int w5), (6, .int w6)]) (st' := []) (h' := (xs_H pt ps (.ref 9) pr s_5)) (bc' := 0) (bs' := 0) (fun n g => (And.intro (fun q => absurd q c_1) (fun _ => (h_1_open pt ps pr s (w5) s_2 _ hr_2 (And.intro hi_3 (h_1_moveByLot _ (((s_2.2.1 118) (w5).toNatClampNeg)) (v3) ((v2 + w6)) v_4 _ hr_4 (h_1_after pt ps (.ref 9) pr s_2 (w5) (v_4) ((0 : Int32)) v_5 s_5 _ hr_5 (And.intro (fun q => absurd c_6 q) (fun _ => g))))))))) ?_
      exact mm_re (c := [(5, .int w5)]) hK rfl rfl
    · have hf := mo_neg hf c_6
      obtain rfl := Option.some.inj hf
      refine mm_adv 29 (cs' := P_X1_afterMinutes.drop 4) (l' := [(6, .int (w6 + (1 : Int32))), (5, .int v_5), (8, .int v_5), (7, .int v_4), (0, .ref 117), (2, .int v2), (3, .int v3), (4, .int v4)]) (st' := []) (h' := (xs_H pt ps (.ref 9) pr s_5)) (bc' := 0) (bs' := 0) (fun n g => (And.intro (fun q => absurd q c_1) (fun _ => (h_1_open pt ps pr s (w5) s_2 _ hr_2 (And.intro hi_3 (h_1_moveByLot _ (((s_2.2.1 118) (w5).toNatClampNeg)) (v3) ((v2 + w6)) v_4 _ hr_4 (h_1_after pt ps (.ref 9) pr s_2 (w5) (v_4) ((0 : Int32)) v_5 s_5 _ hr_5 (And.intro (fun _ => g) (fun q => absurd c_6 q))))))))) ?_
      exact mm_re (c := [(0, .ref 117), (2, .int v2), (3, .int v3), (4, .int v4), (5, .int v_5), (6, .int (w6 + (1 : Int32)))]) hK rfl rfl
noncomputable def xf_1_afterMinutes (s : xs_S) (a0 : Int32) (a1 : Int32) (a2 : Int32) (a3 : Int32) : Option (Int32 × xs_S) :=
((mo_loop (xf_1_afterMinutes_l4 (a1) (a2) (a3)) (a0, (0 : Int32), s)).bind fun x_7 =>
match x_7 with
| (.inl (e5_7, s_7)) => some (e5_7, s_7)
| (.inr (e5_7, s_7)) => some (e5_7, s_7)
)
set_option maxHeartbeats 4000000 in
theorem xb_1_afterMinutes {C : mm_C} {Q : mm_R} {pt : Value} {ps : Value} {pr : Value} (h_1_open : xk_1_open C) (h_1_moveByLot : xk_1_moveByLot C) (h_1_after : xk_1_after C) (s : xs_S) (a0 : Int32) (a1 : Int32) (a2 : Int32) (a3 : Int32) (v : Int32) (s2 : xs_S) (hf : xf_1_afterMinutes s a0 a1 a2 a3 = some (v, s2)) (hK : Q (some (.int v)) (xs_H pt ps (.ref 9) pr s2)) : mm_go C mm_Mk mm_Fk P_X1_afterMinutes Q P_X1_afterMinutes [(0, .ref 117), (1, .int a0), (2, .int a1), (3, .int a2), (4, .int a3)] [] (xs_H pt ps (.ref 9) pr s) 0 0 := by
  unfold xf_1_afterMinutes at hf
  obtain ⟨x_7, hl_7, hf⟩ := mo_bind hf
  refine mm_adv 4 (cs' := P_X1_afterMinutes.drop 4) (l' := [(6, .int (0 : Int32)), (5, .int a0), (0, .ref 117), (1, .int a0), (2, .int a1), (3, .int a2), (4, .int a3)]) (st' := []) (h' := (xs_H pt ps (.ref 9) pr s)) (bc' := 0) (bs' := 0) (fun n g => g) ?_
  refine mm_re (l' := [(0, .ref 117), (2, .int a1), (3, .int a2), (4, .int a3), (5, .int a0), (6, .int (0 : Int32))]) (c := [(0, .ref 117), (2, .int a1), (3, .int a2), (4, .int a3), (5, .int a0), (6, .int (0 : Int32))]) ?_ rfl rfl
  refine xb_1_afterMinutes_l4 h_1_open h_1_moveByLot h_1_after (a1) (a2) (a3) (a0, (0 : Int32), s) x_7 hl_7 ?_
  cases x_7 with
  | inl y_7 =>
    obtain ⟨e5_7, s_7⟩ := y_7
    obtain ⟨rfl, rfl⟩ := mo_pair hf
    exact ⟨2, hK⟩
  | inr z_7_0 =>
    obtain ⟨e5_7, s_7⟩ := z_7_0
    obtain ⟨rfl, rfl⟩ := mo_pair hf
    exact ⟨2, hK⟩
def xk_1_afterMinutes (C : mm_C) : Prop := ∀ (pt : Value) (ps : Value) (pr : Value) (s : xs_S) (a0 : Int32) (a1 : Int32) (a2 : Int32) (a3 : Int32) (v : Int32) (s2 : xs_S) (Q : mm_R), xf_1_afterMinutes s a0 a1 a2 a3 = some (v, s2) → Q (some (.int v)) (xs_H pt ps (.ref 9) pr s2) → C 142 [.ref 117, .int a0, .int a1, .int a2, .int a3] (xs_H pt ps (.ref 9) pr s) Q
-- 11_minutes
noncomputable def xf_11_minutes (s : xs_S) (a0 : Int32) : Option (Int32 × xs_S) :=
(if a0 < (0 : Int32) then
some ((-1 : Int32), s)
else
(if a0 ≤ (200 : Int32) then
(if a0 ≤ (0 : Int32) then
some ((s.1 403), s)
else
((xf_5_keep_25 s ).bind fun s_4 =>
((xf_1_afterMinutes s_4 ((s_4.1 400)) ((s_4.1 403)) ((s_4.1 152)) (a0)).bind fun (v_5, s_5) =>
some (((s_5.1 403) + a0), (xs_sI (xs_sI s_5 400 (v_5)) 403 (((s_5.1 403) + a0)))))))
else
some ((-1 : Int32), s)))
set_option maxHeartbeats 4000000 in
theorem xb_11_minutes {C : mm_C} {Q : mm_R} {ps : Value} {pr : Value} (h_5_keep_25 : xk_5_keep_25 C) (h_1_afterMinutes : xk_1_afterMinutes C) (s : xs_S) (a0 : Int32) (v : Int32) (s2 : xs_S) (hf : xf_11_minutes s a0 = some (v, s2)) (hK : Q (some (.int v)) (xs_H (.ref 9) ps (.ref 9) pr s2)) : mm_go C mm_Mk mm_Fk P_X11_minutes Q P_X11_minutes [(0, .ref 0), (1, .int a0)] [] (xs_H (.ref 9) ps (.ref 9) pr s) 0 0 := by
  unfold xf_11_minutes at hf
  by_cases c_1 : a0 < (0 : Int32)
  · have hf := mo_pos hf c_1
    obtain ⟨rfl, rfl⟩ := mo_pair hf
    exact ⟨4, (And.intro (fun _ => hK) (fun q => absurd c_1 q))⟩
  · have hf := mo_neg hf c_1
    by_cases c_2 : a0 ≤ (200 : Int32)
    · have hf := mo_pos hf c_2
      by_cases c_3 : a0 ≤ (0 : Int32)
      · have hf := mo_pos hf c_3
        obtain ⟨rfl, rfl⟩ := mo_pair hf
        exact ⟨11, (And.intro (fun q => absurd q c_1) (fun _ => (And.intro (fun _ => (And.intro (fun _ => hK) (fun q => absurd c_3 q))) (fun q => absurd c_2 q))))⟩
      · have hf := mo_neg hf c_3
        obtain ⟨s_4, hr_4, hf⟩ := mo_bind hf
        obtain ⟨r_5, hr_5, hf⟩ := mo_bind hf
        obtain ⟨v_5, s_5⟩ := r_5
        obtain ⟨rfl, rfl⟩ := mo_pair hf
        exact ⟨39, (And.intro (fun q => absurd q c_1) (fun _ => (And.intro (fun _ => (And.intro (fun q => absurd q c_3) (fun _ => (h_5_keep_25 (.ref 9) ps (.ref 9) pr s  s_4 _ hr_4 (h_1_afterMinutes (.ref 9) ps pr s_4 ((s_4.1 400)) ((s_4.1 403)) ((s_4.1 152)) (a0) v_5 s_5 _ hr_5 (And.intro trivial (And.intro trivial hK))))))) (fun q => absurd c_2 q))))⟩
    · have hf := mo_neg hf c_2
      obtain ⟨rfl, rfl⟩ := mo_pair hf
      exact ⟨7, (And.intro (fun q => absurd q c_1) (fun _ => (And.intro (fun q => absurd q c_2) (fun _ => hK))))⟩
def xk_11_minutes (C : mm_C) : Prop := ∀ (ps : Value) (pr : Value) (s : xs_S) (a0 : Int32) (v : Int32) (s2 : xs_S) (Q : mm_R), xf_11_minutes s a0 = some (v, s2) → Q (some (.int v)) (xs_H (.ref 9) ps (.ref 9) pr s2) → C 235 [.ref 0, .int a0] (xs_H (.ref 9) ps (.ref 9) pr s) Q
-- 2_copyFrom_25_29
noncomputable def xf_2_copyFrom_25_29 (s : xs_S)  : Option (xs_S) :=
some (xs_sA (xs_sI (xs_sI (xs_sI (xs_sI (xs_sI s 400 ((s.1 464))) 401 ((s.1 465))) 402 ((s.1 466))) 403 ((s.1 467))) 404 ((s.1 468))) 26 (va_cpy (s.2.1 30) (s.2.1 26) 0 0 5))
set_option maxHeartbeats 4000000 in
theorem xb_2_copyFrom_25_29 {C : mm_C} {Q : mm_R} {pt : Value} {ps : Value} {pg : Value} {pr : Value}  (s : xs_S)  (s2 : xs_S) (hf : xf_2_copyFrom_25_29 s = some s2) (hK : Q (none) (xs_H pt ps pg pr s2)) : mm_go C mm_Mk mm_Fk P_X2_copyFrom Q P_X2_copyFrom [(0, .ref 25), (1, .ref 29)] [] (xs_H pt ps pg pr s) 0 0 := by
  unfold xf_2_copyFrom_25_29 at hf
  obtain rfl := Option.some.inj hf
  exact ⟨29, (And.intro trivial (And.intro trivial (And.intro trivial (And.intro trivial (And.intro trivial (And.intro (by decide) hK))))))⟩
def xk_2_copyFrom_25_29 (C : mm_C) : Prop := ∀ (pt : Value) (ps : Value) (pg : Value) (pr : Value) (s : xs_S)  (s2 : xs_S) (Q : mm_R), xf_2_copyFrom_25_29 s = some s2 → Q (none) (xs_H pt ps pg pr s2) → C 149 [.ref 25, .ref 29] (xs_H pt ps pg pr s) Q
-- 2_copyFrom_25_31
noncomputable def xf_2_copyFrom_25_31 (s : xs_S)  : Option (xs_S) :=
some (xs_sA (xs_sI (xs_sI (xs_sI (xs_sI (xs_sI s 400 ((s.1 496))) 401 ((s.1 497))) 402 ((s.1 498))) 403 ((s.1 499))) 404 ((s.1 500))) 26 (va_cpy (s.2.1 32) (s.2.1 26) 0 0 5))
set_option maxHeartbeats 4000000 in
theorem xb_2_copyFrom_25_31 {C : mm_C} {Q : mm_R} {pt : Value} {ps : Value} {pg : Value} {pr : Value}  (s : xs_S)  (s2 : xs_S) (hf : xf_2_copyFrom_25_31 s = some s2) (hK : Q (none) (xs_H pt ps pg pr s2)) : mm_go C mm_Mk mm_Fk P_X2_copyFrom Q P_X2_copyFrom [(0, .ref 25), (1, .ref 31)] [] (xs_H pt ps pg pr s) 0 0 := by
  unfold xf_2_copyFrom_25_31 at hf
  obtain rfl := Option.some.inj hf
  exact ⟨29, (And.intro trivial (And.intro trivial (And.intro trivial (And.intro trivial (And.intro trivial (And.intro (by decide) hK))))))⟩
def xk_2_copyFrom_25_31 (C : mm_C) : Prop := ∀ (pt : Value) (ps : Value) (pg : Value) (pr : Value) (s : xs_S)  (s2 : xs_S) (Q : mm_R), xf_2_copyFrom_25_31 s = some s2 → Q (none) (xs_H pt ps pg pr s2) → C 149 [.ref 25, .ref 31] (xs_H pt ps pg pr s) Q
-- 2_copyFrom_25_33
noncomputable def xf_2_copyFrom_25_33 (s : xs_S)  : Option (xs_S) :=
some (xs_sA (xs_sI (xs_sI (xs_sI (xs_sI (xs_sI s 400 ((s.1 528))) 401 ((s.1 529))) 402 ((s.1 530))) 403 ((s.1 531))) 404 ((s.1 532))) 26 (va_cpy (s.2.1 34) (s.2.1 26) 0 0 5))
set_option maxHeartbeats 4000000 in
theorem xb_2_copyFrom_25_33 {C : mm_C} {Q : mm_R} {pt : Value} {ps : Value} {pg : Value} {pr : Value}  (s : xs_S)  (s2 : xs_S) (hf : xf_2_copyFrom_25_33 s = some s2) (hK : Q (none) (xs_H pt ps pg pr s2)) : mm_go C mm_Mk mm_Fk P_X2_copyFrom Q P_X2_copyFrom [(0, .ref 25), (1, .ref 33)] [] (xs_H pt ps pg pr s) 0 0 := by
  unfold xf_2_copyFrom_25_33 at hf
  obtain rfl := Option.some.inj hf
  exact ⟨29, (And.intro trivial (And.intro trivial (And.intro trivial (And.intro trivial (And.intro trivial (And.intro (by decide) hK))))))⟩
def xk_2_copyFrom_25_33 (C : mm_C) : Prop := ∀ (pt : Value) (ps : Value) (pg : Value) (pr : Value) (s : xs_S)  (s2 : xs_S) (Q : mm_R), xf_2_copyFrom_25_33 s = some s2 → Q (none) (xs_H pt ps pg pr s2) → C 149 [.ref 25, .ref 33] (xs_H pt ps pg pr s) Q
-- 2_copyFrom_25_35
noncomputable def xf_2_copyFrom_25_35 (s : xs_S)  : Option (xs_S) :=
some (xs_sA (xs_sI (xs_sI (xs_sI (xs_sI (xs_sI s 400 ((s.1 560))) 401 ((s.1 561))) 402 ((s.1 562))) 403 ((s.1 563))) 404 ((s.1 564))) 26 (va_cpy (s.2.1 36) (s.2.1 26) 0 0 5))
set_option maxHeartbeats 4000000 in
theorem xb_2_copyFrom_25_35 {C : mm_C} {Q : mm_R} {pt : Value} {ps : Value} {pg : Value} {pr : Value}  (s : xs_S)  (s2 : xs_S) (hf : xf_2_copyFrom_25_35 s = some s2) (hK : Q (none) (xs_H pt ps pg pr s2)) : mm_go C mm_Mk mm_Fk P_X2_copyFrom Q P_X2_copyFrom [(0, .ref 25), (1, .ref 35)] [] (xs_H pt ps pg pr s) 0 0 := by
  unfold xf_2_copyFrom_25_35 at hf
  obtain rfl := Option.some.inj hf
  exact ⟨29, (And.intro trivial (And.intro trivial (And.intro trivial (And.intro trivial (And.intro trivial (And.intro (by decide) hK))))))⟩
def xk_2_copyFrom_25_35 (C : mm_C) : Prop := ∀ (pt : Value) (ps : Value) (pg : Value) (pr : Value) (s : xs_S)  (s2 : xs_S) (Q : mm_R), xf_2_copyFrom_25_35 s = some s2 → Q (none) (xs_H pt ps pg pr s2) → C 149 [.ref 25, .ref 35] (xs_H pt ps pg pr s) Q
-- 2_copyFrom_25_37
noncomputable def xf_2_copyFrom_25_37 (s : xs_S)  : Option (xs_S) :=
some (xs_sA (xs_sI (xs_sI (xs_sI (xs_sI (xs_sI s 400 ((s.1 592))) 401 ((s.1 593))) 402 ((s.1 594))) 403 ((s.1 595))) 404 ((s.1 596))) 26 (va_cpy (s.2.1 38) (s.2.1 26) 0 0 5))
set_option maxHeartbeats 4000000 in
theorem xb_2_copyFrom_25_37 {C : mm_C} {Q : mm_R} {pt : Value} {ps : Value} {pg : Value} {pr : Value}  (s : xs_S)  (s2 : xs_S) (hf : xf_2_copyFrom_25_37 s = some s2) (hK : Q (none) (xs_H pt ps pg pr s2)) : mm_go C mm_Mk mm_Fk P_X2_copyFrom Q P_X2_copyFrom [(0, .ref 25), (1, .ref 37)] [] (xs_H pt ps pg pr s) 0 0 := by
  unfold xf_2_copyFrom_25_37 at hf
  obtain rfl := Option.some.inj hf
  exact ⟨29, (And.intro trivial (And.intro trivial (And.intro trivial (And.intro trivial (And.intro trivial (And.intro (by decide) hK))))))⟩
def xk_2_copyFrom_25_37 (C : mm_C) : Prop := ∀ (pt : Value) (ps : Value) (pg : Value) (pr : Value) (s : xs_S)  (s2 : xs_S) (Q : mm_R), xf_2_copyFrom_25_37 s = some s2 → Q (none) (xs_H pt ps pg pr s2) → C 149 [.ref 25, .ref 37] (xs_H pt ps pg pr s) Q
-- 2_copyFrom_25_39
noncomputable def xf_2_copyFrom_25_39 (s : xs_S)  : Option (xs_S) :=
some (xs_sA (xs_sI (xs_sI (xs_sI (xs_sI (xs_sI s 400 ((s.1 624))) 401 ((s.1 625))) 402 ((s.1 626))) 403 ((s.1 627))) 404 ((s.1 628))) 26 (va_cpy (s.2.1 40) (s.2.1 26) 0 0 5))
set_option maxHeartbeats 4000000 in
theorem xb_2_copyFrom_25_39 {C : mm_C} {Q : mm_R} {pt : Value} {ps : Value} {pg : Value} {pr : Value}  (s : xs_S)  (s2 : xs_S) (hf : xf_2_copyFrom_25_39 s = some s2) (hK : Q (none) (xs_H pt ps pg pr s2)) : mm_go C mm_Mk mm_Fk P_X2_copyFrom Q P_X2_copyFrom [(0, .ref 25), (1, .ref 39)] [] (xs_H pt ps pg pr s) 0 0 := by
  unfold xf_2_copyFrom_25_39 at hf
  obtain rfl := Option.some.inj hf
  exact ⟨29, (And.intro trivial (And.intro trivial (And.intro trivial (And.intro trivial (And.intro trivial (And.intro (by decide) hK))))))⟩
def xk_2_copyFrom_25_39 (C : mm_C) : Prop := ∀ (pt : Value) (ps : Value) (pg : Value) (pr : Value) (s : xs_S)  (s2 : xs_S) (Q : mm_R), xf_2_copyFrom_25_39 s = some s2 → Q (none) (xs_H pt ps pg pr s2) → C 149 [.ref 25, .ref 39] (xs_H pt ps pg pr s) Q
-- 2_copyFrom_25_41
noncomputable def xf_2_copyFrom_25_41 (s : xs_S)  : Option (xs_S) :=
some (xs_sA (xs_sI (xs_sI (xs_sI (xs_sI (xs_sI s 400 ((s.1 656))) 401 ((s.1 657))) 402 ((s.1 658))) 403 ((s.1 659))) 404 ((s.1 660))) 26 (va_cpy (s.2.1 42) (s.2.1 26) 0 0 5))
set_option maxHeartbeats 4000000 in
theorem xb_2_copyFrom_25_41 {C : mm_C} {Q : mm_R} {pt : Value} {ps : Value} {pg : Value} {pr : Value}  (s : xs_S)  (s2 : xs_S) (hf : xf_2_copyFrom_25_41 s = some s2) (hK : Q (none) (xs_H pt ps pg pr s2)) : mm_go C mm_Mk mm_Fk P_X2_copyFrom Q P_X2_copyFrom [(0, .ref 25), (1, .ref 41)] [] (xs_H pt ps pg pr s) 0 0 := by
  unfold xf_2_copyFrom_25_41 at hf
  obtain rfl := Option.some.inj hf
  exact ⟨29, (And.intro trivial (And.intro trivial (And.intro trivial (And.intro trivial (And.intro trivial (And.intro (by decide) hK))))))⟩
def xk_2_copyFrom_25_41 (C : mm_C) : Prop := ∀ (pt : Value) (ps : Value) (pg : Value) (pr : Value) (s : xs_S)  (s2 : xs_S) (Q : mm_R), xf_2_copyFrom_25_41 s = some s2 → Q (none) (xs_H pt ps pg pr s2) → C 149 [.ref 25, .ref 41] (xs_H pt ps pg pr s) Q
-- 2_copyFrom_25_43
noncomputable def xf_2_copyFrom_25_43 (s : xs_S)  : Option (xs_S) :=
some (xs_sA (xs_sI (xs_sI (xs_sI (xs_sI (xs_sI s 400 ((s.1 688))) 401 ((s.1 689))) 402 ((s.1 690))) 403 ((s.1 691))) 404 ((s.1 692))) 26 (va_cpy (s.2.1 44) (s.2.1 26) 0 0 5))
set_option maxHeartbeats 4000000 in
theorem xb_2_copyFrom_25_43 {C : mm_C} {Q : mm_R} {pt : Value} {ps : Value} {pg : Value} {pr : Value}  (s : xs_S)  (s2 : xs_S) (hf : xf_2_copyFrom_25_43 s = some s2) (hK : Q (none) (xs_H pt ps pg pr s2)) : mm_go C mm_Mk mm_Fk P_X2_copyFrom Q P_X2_copyFrom [(0, .ref 25), (1, .ref 43)] [] (xs_H pt ps pg pr s) 0 0 := by
  unfold xf_2_copyFrom_25_43 at hf
  obtain rfl := Option.some.inj hf
  exact ⟨29, (And.intro trivial (And.intro trivial (And.intro trivial (And.intro trivial (And.intro trivial (And.intro (by decide) hK))))))⟩
def xk_2_copyFrom_25_43 (C : mm_C) : Prop := ∀ (pt : Value) (ps : Value) (pg : Value) (pr : Value) (s : xs_S)  (s2 : xs_S) (Q : mm_R), xf_2_copyFrom_25_43 s = some s2 → Q (none) (xs_H pt ps pg pr s2) → C 149 [.ref 25, .ref 43] (xs_H pt ps pg pr s) Q
-- 2_copyFrom_25_45
noncomputable def xf_2_copyFrom_25_45 (s : xs_S)  : Option (xs_S) :=
some (xs_sA (xs_sI (xs_sI (xs_sI (xs_sI (xs_sI s 400 ((s.1 720))) 401 ((s.1 721))) 402 ((s.1 722))) 403 ((s.1 723))) 404 ((s.1 724))) 26 (va_cpy (s.2.1 46) (s.2.1 26) 0 0 5))
set_option maxHeartbeats 4000000 in
theorem xb_2_copyFrom_25_45 {C : mm_C} {Q : mm_R} {pt : Value} {ps : Value} {pg : Value} {pr : Value}  (s : xs_S)  (s2 : xs_S) (hf : xf_2_copyFrom_25_45 s = some s2) (hK : Q (none) (xs_H pt ps pg pr s2)) : mm_go C mm_Mk mm_Fk P_X2_copyFrom Q P_X2_copyFrom [(0, .ref 25), (1, .ref 45)] [] (xs_H pt ps pg pr s) 0 0 := by
  unfold xf_2_copyFrom_25_45 at hf
  obtain rfl := Option.some.inj hf
  exact ⟨29, (And.intro trivial (And.intro trivial (And.intro trivial (And.intro trivial (And.intro trivial (And.intro (by decide) hK))))))⟩
def xk_2_copyFrom_25_45 (C : mm_C) : Prop := ∀ (pt : Value) (ps : Value) (pg : Value) (pr : Value) (s : xs_S)  (s2 : xs_S) (Q : mm_R), xf_2_copyFrom_25_45 s = some s2 → Q (none) (xs_H pt ps pg pr s2) → C 149 [.ref 25, .ref 45] (xs_H pt ps pg pr s) Q
-- 2_copyFrom_25_47
noncomputable def xf_2_copyFrom_25_47 (s : xs_S)  : Option (xs_S) :=
some (xs_sA (xs_sI (xs_sI (xs_sI (xs_sI (xs_sI s 400 ((s.1 752))) 401 ((s.1 753))) 402 ((s.1 754))) 403 ((s.1 755))) 404 ((s.1 756))) 26 (va_cpy (s.2.1 48) (s.2.1 26) 0 0 5))
set_option maxHeartbeats 4000000 in
theorem xb_2_copyFrom_25_47 {C : mm_C} {Q : mm_R} {pt : Value} {ps : Value} {pg : Value} {pr : Value}  (s : xs_S)  (s2 : xs_S) (hf : xf_2_copyFrom_25_47 s = some s2) (hK : Q (none) (xs_H pt ps pg pr s2)) : mm_go C mm_Mk mm_Fk P_X2_copyFrom Q P_X2_copyFrom [(0, .ref 25), (1, .ref 47)] [] (xs_H pt ps pg pr s) 0 0 := by
  unfold xf_2_copyFrom_25_47 at hf
  obtain rfl := Option.some.inj hf
  exact ⟨29, (And.intro trivial (And.intro trivial (And.intro trivial (And.intro trivial (And.intro trivial (And.intro (by decide) hK))))))⟩
def xk_2_copyFrom_25_47 (C : mm_C) : Prop := ∀ (pt : Value) (ps : Value) (pg : Value) (pr : Value) (s : xs_S)  (s2 : xs_S) (Q : mm_R), xf_2_copyFrom_25_47 s = some s2 → Q (none) (xs_H pt ps pg pr s2) → C 149 [.ref 25, .ref 47] (xs_H pt ps pg pr s) Q
-- 2_copyFrom_25_49
noncomputable def xf_2_copyFrom_25_49 (s : xs_S)  : Option (xs_S) :=
some (xs_sA (xs_sI (xs_sI (xs_sI (xs_sI (xs_sI s 400 ((s.1 784))) 401 ((s.1 785))) 402 ((s.1 786))) 403 ((s.1 787))) 404 ((s.1 788))) 26 (va_cpy (s.2.1 50) (s.2.1 26) 0 0 5))
set_option maxHeartbeats 4000000 in
theorem xb_2_copyFrom_25_49 {C : mm_C} {Q : mm_R} {pt : Value} {ps : Value} {pg : Value} {pr : Value}  (s : xs_S)  (s2 : xs_S) (hf : xf_2_copyFrom_25_49 s = some s2) (hK : Q (none) (xs_H pt ps pg pr s2)) : mm_go C mm_Mk mm_Fk P_X2_copyFrom Q P_X2_copyFrom [(0, .ref 25), (1, .ref 49)] [] (xs_H pt ps pg pr s) 0 0 := by
  unfold xf_2_copyFrom_25_49 at hf
  obtain rfl := Option.some.inj hf
  exact ⟨29, (And.intro trivial (And.intro trivial (And.intro trivial (And.intro trivial (And.intro trivial (And.intro (by decide) hK))))))⟩
def xk_2_copyFrom_25_49 (C : mm_C) : Prop := ∀ (pt : Value) (ps : Value) (pg : Value) (pr : Value) (s : xs_S)  (s2 : xs_S) (Q : mm_R), xf_2_copyFrom_25_49 s = some s2 → Q (none) (xs_H pt ps pg pr s2) → C 149 [.ref 25, .ref 49] (xs_H pt ps pg pr s) Q
-- 2_copyFrom_25_51
noncomputable def xf_2_copyFrom_25_51 (s : xs_S)  : Option (xs_S) :=
some (xs_sA (xs_sI (xs_sI (xs_sI (xs_sI (xs_sI s 400 ((s.1 816))) 401 ((s.1 817))) 402 ((s.1 818))) 403 ((s.1 819))) 404 ((s.1 820))) 26 (va_cpy (s.2.1 52) (s.2.1 26) 0 0 5))
set_option maxHeartbeats 4000000 in
theorem xb_2_copyFrom_25_51 {C : mm_C} {Q : mm_R} {pt : Value} {ps : Value} {pg : Value} {pr : Value}  (s : xs_S)  (s2 : xs_S) (hf : xf_2_copyFrom_25_51 s = some s2) (hK : Q (none) (xs_H pt ps pg pr s2)) : mm_go C mm_Mk mm_Fk P_X2_copyFrom Q P_X2_copyFrom [(0, .ref 25), (1, .ref 51)] [] (xs_H pt ps pg pr s) 0 0 := by
  unfold xf_2_copyFrom_25_51 at hf
  obtain rfl := Option.some.inj hf
  exact ⟨29, (And.intro trivial (And.intro trivial (And.intro trivial (And.intro trivial (And.intro trivial (And.intro (by decide) hK))))))⟩
def xk_2_copyFrom_25_51 (C : mm_C) : Prop := ∀ (pt : Value) (ps : Value) (pg : Value) (pr : Value) (s : xs_S)  (s2 : xs_S) (Q : mm_R), xf_2_copyFrom_25_51 s = some s2 → Q (none) (xs_H pt ps pg pr s2) → C 149 [.ref 25, .ref 51] (xs_H pt ps pg pr s) Q
-- 2_copyFrom_25_53
noncomputable def xf_2_copyFrom_25_53 (s : xs_S)  : Option (xs_S) :=
some (xs_sA (xs_sI (xs_sI (xs_sI (xs_sI (xs_sI s 400 ((s.1 848))) 401 ((s.1 849))) 402 ((s.1 850))) 403 ((s.1 851))) 404 ((s.1 852))) 26 (va_cpy (s.2.1 54) (s.2.1 26) 0 0 5))
set_option maxHeartbeats 4000000 in
theorem xb_2_copyFrom_25_53 {C : mm_C} {Q : mm_R} {pt : Value} {ps : Value} {pg : Value} {pr : Value}  (s : xs_S)  (s2 : xs_S) (hf : xf_2_copyFrom_25_53 s = some s2) (hK : Q (none) (xs_H pt ps pg pr s2)) : mm_go C mm_Mk mm_Fk P_X2_copyFrom Q P_X2_copyFrom [(0, .ref 25), (1, .ref 53)] [] (xs_H pt ps pg pr s) 0 0 := by
  unfold xf_2_copyFrom_25_53 at hf
  obtain rfl := Option.some.inj hf
  exact ⟨29, (And.intro trivial (And.intro trivial (And.intro trivial (And.intro trivial (And.intro trivial (And.intro (by decide) hK))))))⟩
def xk_2_copyFrom_25_53 (C : mm_C) : Prop := ∀ (pt : Value) (ps : Value) (pg : Value) (pr : Value) (s : xs_S)  (s2 : xs_S) (Q : mm_R), xf_2_copyFrom_25_53 s = some s2 → Q (none) (xs_H pt ps pg pr s2) → C 149 [.ref 25, .ref 53] (xs_H pt ps pg pr s) Q
-- 2_copyFrom_25_55
noncomputable def xf_2_copyFrom_25_55 (s : xs_S)  : Option (xs_S) :=
some (xs_sA (xs_sI (xs_sI (xs_sI (xs_sI (xs_sI s 400 ((s.1 880))) 401 ((s.1 881))) 402 ((s.1 882))) 403 ((s.1 883))) 404 ((s.1 884))) 26 (va_cpy (s.2.1 56) (s.2.1 26) 0 0 5))
set_option maxHeartbeats 4000000 in
theorem xb_2_copyFrom_25_55 {C : mm_C} {Q : mm_R} {pt : Value} {ps : Value} {pg : Value} {pr : Value}  (s : xs_S)  (s2 : xs_S) (hf : xf_2_copyFrom_25_55 s = some s2) (hK : Q (none) (xs_H pt ps pg pr s2)) : mm_go C mm_Mk mm_Fk P_X2_copyFrom Q P_X2_copyFrom [(0, .ref 25), (1, .ref 55)] [] (xs_H pt ps pg pr s) 0 0 := by
  unfold xf_2_copyFrom_25_55 at hf
  obtain rfl := Option.some.inj hf
  exact ⟨29, (And.intro trivial (And.intro trivial (And.intro trivial (And.intro trivial (And.intro trivial (And.intro (by decide) hK))))))⟩
def xk_2_copyFrom_25_55 (C : mm_C) : Prop := ∀ (pt : Value) (ps : Value) (pg : Value) (pr : Value) (s : xs_S)  (s2 : xs_S) (Q : mm_R), xf_2_copyFrom_25_55 s = some s2 → Q (none) (xs_H pt ps pg pr s2) → C 149 [.ref 25, .ref 55] (xs_H pt ps pg pr s) Q
-- 2_copyFrom_25_57
noncomputable def xf_2_copyFrom_25_57 (s : xs_S)  : Option (xs_S) :=
some (xs_sA (xs_sI (xs_sI (xs_sI (xs_sI (xs_sI s 400 ((s.1 912))) 401 ((s.1 913))) 402 ((s.1 914))) 403 ((s.1 915))) 404 ((s.1 916))) 26 (va_cpy (s.2.1 58) (s.2.1 26) 0 0 5))
set_option maxHeartbeats 4000000 in
theorem xb_2_copyFrom_25_57 {C : mm_C} {Q : mm_R} {pt : Value} {ps : Value} {pg : Value} {pr : Value}  (s : xs_S)  (s2 : xs_S) (hf : xf_2_copyFrom_25_57 s = some s2) (hK : Q (none) (xs_H pt ps pg pr s2)) : mm_go C mm_Mk mm_Fk P_X2_copyFrom Q P_X2_copyFrom [(0, .ref 25), (1, .ref 57)] [] (xs_H pt ps pg pr s) 0 0 := by
  unfold xf_2_copyFrom_25_57 at hf
  obtain rfl := Option.some.inj hf
  exact ⟨29, (And.intro trivial (And.intro trivial (And.intro trivial (And.intro trivial (And.intro trivial (And.intro (by decide) hK))))))⟩
def xk_2_copyFrom_25_57 (C : mm_C) : Prop := ∀ (pt : Value) (ps : Value) (pg : Value) (pr : Value) (s : xs_S)  (s2 : xs_S) (Q : mm_R), xf_2_copyFrom_25_57 s = some s2 → Q (none) (xs_H pt ps pg pr s2) → C 149 [.ref 25, .ref 57] (xs_H pt ps pg pr s) Q
-- 2_copyFrom_25_59
noncomputable def xf_2_copyFrom_25_59 (s : xs_S)  : Option (xs_S) :=
some (xs_sA (xs_sI (xs_sI (xs_sI (xs_sI (xs_sI s 400 ((s.1 944))) 401 ((s.1 945))) 402 ((s.1 946))) 403 ((s.1 947))) 404 ((s.1 948))) 26 (va_cpy (s.2.1 60) (s.2.1 26) 0 0 5))
set_option maxHeartbeats 4000000 in
theorem xb_2_copyFrom_25_59 {C : mm_C} {Q : mm_R} {pt : Value} {ps : Value} {pg : Value} {pr : Value}  (s : xs_S)  (s2 : xs_S) (hf : xf_2_copyFrom_25_59 s = some s2) (hK : Q (none) (xs_H pt ps pg pr s2)) : mm_go C mm_Mk mm_Fk P_X2_copyFrom Q P_X2_copyFrom [(0, .ref 25), (1, .ref 59)] [] (xs_H pt ps pg pr s) 0 0 := by
  unfold xf_2_copyFrom_25_59 at hf
  obtain rfl := Option.some.inj hf
  exact ⟨29, (And.intro trivial (And.intro trivial (And.intro trivial (And.intro trivial (And.intro trivial (And.intro (by decide) hK))))))⟩
def xk_2_copyFrom_25_59 (C : mm_C) : Prop := ∀ (pt : Value) (ps : Value) (pg : Value) (pr : Value) (s : xs_S)  (s2 : xs_S) (Q : mm_R), xf_2_copyFrom_25_59 s = some s2 → Q (none) (xs_H pt ps pg pr s2) → C 149 [.ref 25, .ref 59] (xs_H pt ps pg pr s) Q
