/-! the class, method by method, 5 -/
-- 11_sayable
noncomputable def xf_11_sayable (s : xs_S)  : Option (Int32 × xs_S) :=
((xf_1_open s ((s.1 400))).bind fun s_1 =>
((mo_ag 294 (s_1.2.1 118) (s_1.1 400)).bind fun x_2 =>
some (x_2, s_1)))
set_option maxHeartbeats 4000000 in
theorem xb_11_sayable {C : mm_C} {Q : mm_R} {pt : Value} {ps : Value} {pr : Value} (h_1_open : xk_1_open C) (s : xs_S)  (v : Int32) (s2 : xs_S) (hf : xf_11_sayable s = some (v, s2)) (hK : Q (some (.int v)) (xs_H pt ps (.ref 9) pr s2)) : mm_go C mm_Mk mm_Fk P_X11_sayable Q P_X11_sayable [(0, .ref 0)] [] (xs_H pt ps (.ref 9) pr s) 0 0 := by
  unfold xf_11_sayable at hf
  obtain ⟨s_1, hr_1, hf⟩ := mo_bind hf
  obtain ⟨x_2, hx_2, hf⟩ := mo_bind hf
  obtain ⟨hi_2, rfl⟩ := mo_ag_inv hx_2
  obtain ⟨rfl, rfl⟩ := mo_pair hf
  exact ⟨14, (h_1_open pt ps pr s ((s.1 400)) s_1 _ hr_1 (And.intro hi_2 hK))⟩
def xk_11_sayable (C : mm_C) : Prop := ∀ (pt : Value) (ps : Value) (pr : Value) (s : xs_S)  (v : Int32) (s2 : xs_S) (Q : mm_R), xf_11_sayable s = some (v, s2) → Q (some (.int v)) (xs_H pt ps (.ref 9) pr s2) → C 263 [.ref 0] (xs_H pt ps (.ref 9) pr s) Q
-- 1_pushesOf
noncomputable def xf_1_pushesOf (s : xs_S) (a0 : Int32) (a1 : Int32) : Option (Int32 × xs_S) :=
((xf_1_hasPair s ).bind fun (v_1, s_1) =>
(if v_1 = (0 : Int32) then
some ((0 : Int32), s_1)
else
((xf_7_lawOf_9 s_1 ((0 : Int32)) ((s_1.1 1873)) ((s_1.1 1874)) (a0) (a1)).bind fun (v_3, s_3) =>
((xf_11_within (v_3) ((9 : Int32))).bind fun v_4 =>
some (v_4, s_3)))))
set_option maxHeartbeats 4000000 in
theorem xb_1_pushesOf {C : mm_C} {Q : mm_R} {pt : Value} {ps : Value} {pr : Value} (h_1_hasPair : xk_1_hasPair C) (h_7_lawOf_9 : xk_7_lawOf_9 C) (h_11_within : xk_11_within C) (s : xs_S) (a0 : Int32) (a1 : Int32) (v : Int32) (s2 : xs_S) (hf : xf_1_pushesOf s a0 a1 = some (v, s2)) (hK : Q (some (.int v)) (xs_H pt ps (.ref 9) pr s2)) : mm_go C mm_Mk mm_Fk P_X1_pushesOf Q P_X1_pushesOf [(0, .ref 117), (1, .int a0), (2, .int a1)] [] (xs_H pt ps (.ref 9) pr s) 0 0 := by
  unfold xf_1_pushesOf at hf
  obtain ⟨r_1, hr_1, hf⟩ := mo_bind hf
  obtain ⟨v_1, s_1⟩ := r_1
  by_cases c_2 : v_1 = (0 : Int32)
  · have hf := mo_pos hf c_2
    obtain ⟨rfl, rfl⟩ := mo_pair hf
    exact ⟨5, (h_1_hasPair pt ps pr s  v_1 s_1 _ hr_1 (And.intro (fun _ => hK) (fun q => absurd c_2 q)))⟩
  · have hf := mo_neg hf c_2
    obtain ⟨r_3, hr_3, hf⟩ := mo_bind hf
    obtain ⟨v_3, s_3⟩ := r_3
    obtain ⟨v_4, hr_4, hf⟩ := mo_bind hf
    obtain ⟨rfl, rfl⟩ := mo_pair hf
    exact ⟨17, (h_1_hasPair pt ps pr s  v_1 s_1 _ hr_1 (And.intro (fun q => absurd q c_2) (fun _ => (h_7_lawOf_9 pt ps (.ref 9) pr s_1 ((0 : Int32)) ((s_1.1 1873)) ((s_1.1 1874)) (a0) (a1) v_3 s_3 _ hr_3 (h_11_within _ (v_3) ((9 : Int32)) v_4 _ hr_4 hK)))))⟩
def xk_1_pushesOf (C : mm_C) : Prop := ∀ (pt : Value) (ps : Value) (pr : Value) (s : xs_S) (a0 : Int32) (a1 : Int32) (v : Int32) (s2 : xs_S) (Q : mm_R), xf_1_pushesOf s a0 a1 = some (v, s2) → Q (some (.int v)) (xs_H pt ps (.ref 9) pr s2) → C 140 [.ref 117, .int a0, .int a1] (xs_H pt ps (.ref 9) pr s) Q
-- 1_isBarred
noncomputable def xf_1_isBarred (s : xs_S) (a0 : Int32) (a1 : Int32) : Option (Int32 × xs_S) :=
((xf_1_hasPair s ).bind fun (v_1, s_1) =>
(if v_1 = (0 : Int32) then
some ((0 : Int32), s_1)
else
((xf_7_lawOf_9 s_1 ((3 : Int32)) ((s_1.1 1873)) ((s_1.1 1874)) (a0) (a1)).bind fun (v_3, s_3) =>
(if v_3 ≤ (0 : Int32) then
some ((0 : Int32), s_3)
else
some ((1 : Int32), s_3)))))
set_option maxHeartbeats 4000000 in
theorem xb_1_isBarred {C : mm_C} {Q : mm_R} {pt : Value} {ps : Value} {pr : Value} (h_1_hasPair : xk_1_hasPair C) (h_7_lawOf_9 : xk_7_lawOf_9 C) (s : xs_S) (a0 : Int32) (a1 : Int32) (v : Int32) (s2 : xs_S) (hf : xf_1_isBarred s a0 a1 = some (v, s2)) (hK : Q (some (.int v)) (xs_H pt ps (.ref 9) pr s2)) : mm_go C mm_Mk mm_Fk P_X1_isBarred Q P_X1_isBarred [(0, .ref 117), (1, .int a0), (2, .int a1)] [] (xs_H pt ps (.ref 9) pr s) 0 0 := by
  unfold xf_1_isBarred at hf
  obtain ⟨r_1, hr_1, hf⟩ := mo_bind hf
  obtain ⟨v_1, s_1⟩ := r_1
  by_cases c_2 : v_1 = (0 : Int32)
  · have hf := mo_pos hf c_2
    obtain ⟨rfl, rfl⟩ := mo_pair hf
    exact ⟨5, (h_1_hasPair pt ps pr s  v_1 s_1 _ hr_1 (And.intro (fun _ => (And.intro rfl hK)) (fun q => absurd c_2 q)))⟩
  · have hf := mo_neg hf c_2
    obtain ⟨r_3, hr_3, hf⟩ := mo_bind hf
    obtain ⟨v_3, s_3⟩ := r_3
    by_cases c_4 : v_3 ≤ (0 : Int32)
    · have hf := mo_pos hf c_4
      obtain ⟨rfl, rfl⟩ := mo_pair hf
      exact ⟨16, (h_1_hasPair pt ps pr s  v_1 s_1 _ hr_1 (And.intro (fun q => absurd q c_2) (fun _ => (h_7_lawOf_9 pt ps (.ref 9) pr s_1 ((3 : Int32)) ((s_1.1 1873)) ((s_1.1 1874)) (a0) (a1) v_3 s_3 _ hr_3 (And.intro (fun _ => (And.intro rfl hK)) (fun q => absurd c_4 q))))))⟩
    · have hf := mo_neg hf c_4
      obtain ⟨rfl, rfl⟩ := mo_pair hf
      exact ⟨17, (h_1_hasPair pt ps pr s  v_1 s_1 _ hr_1 (And.intro (fun q => absurd q c_2) (fun _ => (h_7_lawOf_9 pt ps (.ref 9) pr s_1 ((3 : Int32)) ((s_1.1 1873)) ((s_1.1 1874)) (a0) (a1) v_3 s_3 _ hr_3 (And.intro (fun q => absurd q c_4) (fun _ => (And.intro rfl hK)))))))⟩
def xk_1_isBarred (C : mm_C) : Prop := ∀ (pt : Value) (ps : Value) (pr : Value) (s : xs_S) (a0 : Int32) (a1 : Int32) (v : Int32) (s2 : xs_S) (Q : mm_R), xf_1_isBarred s a0 a1 = some (v, s2) → Q (some (.int v)) (xs_H pt ps (.ref 9) pr s2) → C 141 [.ref 117, .int a0, .int a1] (xs_H pt ps (.ref 9) pr s) Q
-- 11_word
noncomputable def xf_11_word (s : xs_S) (a0 : Int32) (a1 : Int32) : Option (Int32 × xs_S) :=
((xf_7_hasWord_9 s (a0)).bind fun (v_1, s_1) =>
(if v_1 = (0 : Int32) then
some ((-1 : Int32), s_1)
else
(if a1 = (0 : Int32) then
((mo_ag 6 (s_1.2.1 11) a0).bind fun x_4 =>
some (x_4, s_1))
else
(if a1 = (1 : Int32) then
((xf_11_sayable s_1 ).bind fun (v_5, s_5) =>
some (((v_5 >>> (a0 &&& 31)) &&& (1 : Int32)), s_5))
else
(if a1 = (2 : Int32) then
((xf_1_pushesOf s_1 ((s_1.1 400)) (a0)).bind fun (v_6, s_6) =>
some (v_6, s_6))
else
(if a1 = (3 : Int32) then
((xf_1_isBarred s_1 ((s_1.1 400)) (a0)).bind fun (v_7, s_7) =>
(if v_7 = (0 : Int32) then
some ((0 : Int32), s_7)
else
some ((1 : Int32), s_7)))
else
some ((-1 : Int32), s_1)))))))
set_option maxHeartbeats 4000000 in
theorem xb_11_word {C : mm_C} {Q : mm_R} {ps : Value} {pr : Value} (h_7_hasWord_9 : xk_7_hasWord_9 C) (h_11_sayable : xk_11_sayable C) (h_1_pushesOf : xk_1_pushesOf C) (h_1_isBarred : xk_1_isBarred C) (s : xs_S) (a0 : Int32) (a1 : Int32) (v : Int32) (s2 : xs_S) (hf : xf_11_word s a0 a1 = some (v, s2)) (hK : Q (some (.int v)) (xs_H (.ref 9) ps (.ref 9) pr s2)) : mm_go C mm_Mk mm_Fk P_X11_word Q P_X11_word [(0, .ref 0), (1, .int a0), (2, .int a1)] [] (xs_H (.ref 9) ps (.ref 9) pr s) 0 0 := by
  unfold xf_11_word at hf
  obtain ⟨r_1, hr_1, hf⟩ := mo_bind hf
  obtain ⟨v_1, s_1⟩ := r_1
  by_cases c_2 : v_1 = (0 : Int32)
  · have hf := mo_pos hf c_2
    obtain ⟨rfl, rfl⟩ := mo_pair hf
    exact ⟨7, (h_7_hasWord_9 (.ref 9) ps (.ref 9) pr s (a0) v_1 s_1 _ hr_1 (And.intro (fun q => absurd c_2 q) (fun _ => hK)))⟩
  · have hf := mo_neg hf c_2
    by_cases c_3_0 : a1 = (0 : Int32)
    · have hf := mo_pos hf c_3_0
      obtain ⟨x_4, hx_4, hf⟩ := mo_bind hf
      obtain ⟨hi_4, rfl⟩ := mo_ag_inv hx_4
      obtain ⟨rfl, rfl⟩ := mo_pair hf
      exact ⟨13, (h_7_hasWord_9 (.ref 9) ps (.ref 9) pr s (a0) v_1 s_1 _ hr_1 (And.intro (fun _ => (And.intro (fun _ => (And.intro hi_4 hK)) (fun q => absurd c_3_0 q))) (fun q => absurd c_2 q)))⟩
    replace hf := mo_neg hf c_3_0
    by_cases c_3_1 : a1 = (1 : Int32)
    · have hf := mo_pos hf c_3_1
      obtain ⟨r_5, hr_5, hf⟩ := mo_bind hf
      obtain ⟨v_5, s_5⟩ := r_5
      obtain ⟨rfl, rfl⟩ := mo_pair hf
      exact ⟨14, (h_7_hasWord_9 (.ref 9) ps (.ref 9) pr s (a0) v_1 s_1 _ hr_1 (And.intro (fun _ => (And.intro (fun q => absurd q c_3_0) (fun _ => (And.intro (fun _ => (h_11_sayable (.ref 9) ps pr s_1  v_5 s_5 _ hr_5 hK)) (fun q => absurd c_3_1 q))))) (fun q => absurd c_2 q)))⟩
    replace hf := mo_neg hf c_3_1
    by_cases c_3_2 : a1 = (2 : Int32)
    · have hf := mo_pos hf c_3_2
      obtain ⟨r_6, hr_6, hf⟩ := mo_bind hf
      obtain ⟨v_6, s_6⟩ := r_6
      obtain ⟨rfl, rfl⟩ := mo_pair hf
      exact ⟨15, (h_7_hasWord_9 (.ref 9) ps (.ref 9) pr s (a0) v_1 s_1 _ hr_1 (And.intro (fun _ => (And.intro (fun q => absurd q c_3_0) (fun _ => (And.intro (fun q => absurd q c_3_1) (fun _ => (And.intro (fun _ => (h_1_pushesOf (.ref 9) ps pr s_1 ((s_1.1 400)) (a0) v_6 s_6 _ hr_6 hK)) (fun q => absurd c_3_2 q))))))) (fun q => absurd c_2 q)))⟩
    replace hf := mo_neg hf c_3_2
    by_cases c_3_3 : a1 = (3 : Int32)
    · have hf := mo_pos hf c_3_3
      obtain ⟨r_7, hr_7, hf⟩ := mo_bind hf
      obtain ⟨v_7, s_7⟩ := r_7
      by_cases c_8 : v_7 = (0 : Int32)
      · have hf := mo_pos hf c_8
        obtain ⟨rfl, rfl⟩ := mo_pair hf
        exact ⟨17, (h_7_hasWord_9 (.ref 9) ps (.ref 9) pr s (a0) v_1 s_1 _ hr_1 (And.intro (fun _ => (And.intro (fun q => absurd q c_3_0) (fun _ => (And.intro (fun q => absurd q c_3_1) (fun _ => (And.intro (fun q => absurd q c_3_2) (fun _ => (And.intro (fun _ => (h_1_isBarred (.ref 9) ps pr s_1 ((s_1.1 400)) (a0) v_7 s_7 _ hr_7 (And.intro (fun _ => hK) (fun q => absurd c_8 q)))) (fun q => absurd c_3_3 q))))))))) (fun q => absurd c_2 q)))⟩
      · have hf := mo_neg hf c_8
        obtain ⟨rfl, rfl⟩ := mo_pair hf
        exact ⟨18, (h_7_hasWord_9 (.ref 9) ps (.ref 9) pr s (a0) v_1 s_1 _ hr_1 (And.intro (fun _ => (And.intro (fun q => absurd q c_3_0) (fun _ => (And.intro (fun q => absurd q c_3_1) (fun _ => (And.intro (fun q => absurd q c_3_2) (fun _ => (And.intro (fun _ => (h_1_isBarred (.ref 9) ps pr s_1 ((s_1.1 400)) (a0) v_7 s_7 _ hr_7 (And.intro (fun q => absurd q c_8) (fun _ => hK)))) (fun q => absurd c_3_3 q))))))))) (fun q => absurd c_2 q)))⟩
    replace hf := mo_neg hf c_3_3
    obtain ⟨rfl, rfl⟩ := mo_pair hf
    exact ⟨9, (h_7_hasWord_9 (.ref 9) ps (.ref 9) pr s (a0) v_1 s_1 _ hr_1 (And.intro (fun _ => (And.intro (fun q => absurd q c_3_0) (fun _ => (And.intro (fun q => absurd q c_3_1) (fun _ => (And.intro (fun q => absurd q c_3_2) (fun _ => (And.intro (fun q => absurd q c_3_3) (fun _ => hK))))))))) (fun q => absurd c_2 q)))⟩
def xk_11_word (C : mm_C) : Prop := ∀ (ps : Value) (pr : Value) (s : xs_S) (a0 : Int32) (a1 : Int32) (v : Int32) (s2 : xs_S) (Q : mm_R), xf_11_word s a0 a1 = some (v, s2) → Q (some (.int v)) (xs_H (.ref 9) ps (.ref 9) pr s2) → C 230 [.ref 0, .int a0, .int a1] (xs_H (.ref 9) ps (.ref 9) pr s) Q
-- 1_after
noncomputable def xf_1_after_j28 (s : xs_S) (v1 : Int32) (v2 : Int32) (k0 : Int32) : Option (Int32 × xs_S) :=
(if k0 = (0 : Int32) then
some ((-1 : Int32), s)
else
((mo_ag 2058 (s.2.1 119) ((v1 * (7 : Int32)) + v2)).bind fun x_5 =>
some (x_5, s)))
set_option maxHeartbeats 4000000 in
theorem xb_1_after_j28 {C : mm_C} {Q : mm_R} {pt : Value} {ps : Value} {pg : Value} {pr : Value}  (s : xs_S) (v1 : Int32) (v2 : Int32) (k0 : Int32) (v : Int32) (s2 : xs_S) (hf : xf_1_after_j28 s v1 v2 k0 = some (v, s2)) (hK : Q (some (.int v)) (xs_H pt ps pg pr s2)) : mm_go C mm_Mk mm_Fk P_X1_after Q (P_X1_after.drop 28) [(0, .ref 117), (1, .int v1), (2, .int v2)] [.int k0] (xs_H pt ps pg pr s) 0 0 := by
  unfold xf_1_after_j28 at hf
  by_cases c_4 : k0 = (0 : Int32)
  · have hf := mo_pos hf c_4
    obtain ⟨rfl, rfl⟩ := mo_pair hf
    exact ⟨5, (And.intro (fun _ => hK) (fun q => absurd c_4 q))⟩
  · have hf := mo_neg hf c_4
    obtain ⟨x_5, hx_5, hf⟩ := mo_bind hf
    obtain ⟨hi_5, rfl⟩ := mo_ag_inv hx_5
    obtain ⟨rfl, rfl⟩ := mo_pair hf
    exact ⟨13, (And.intro (fun q => absurd q c_4) (fun _ => (And.intro hi_5 hK)))⟩
noncomputable def xf_1_after (s : xs_S) (a0 : Int32) (a1 : Int32) (a2 : Int32) : Option (Int32 × xs_S) :=
((mo_ag 294 (s.2.1 118) a0).bind fun x_1 =>
(if a1 = (6 : Int32) then
(if (x_1 &&& (a2 ^^^ (-1 : Int32))) = (0 : Int32) then
(xf_1_after_j28 (s) (a0) (a1) ((1 : Int32)))
else
(xf_1_after_j28 (s) (a0) (a1) ((0 : Int32))))
else
(if (((x_1 &&& (a2 ^^^ (-1 : Int32))) >>> (a1 &&& 31)) &&& (1 : Int32)) = (1 : Int32) then
(xf_1_after_j28 (s) (a0) (a1) ((1 : Int32)))
else
(xf_1_after_j28 (s) (a0) (a1) ((0 : Int32))))))
set_option maxHeartbeats 4000000 in
theorem xb_1_after {C : mm_C} {Q : mm_R} {pt : Value} {ps : Value} {pg : Value} {pr : Value}  (s : xs_S) (a0 : Int32) (a1 : Int32) (a2 : Int32) (v : Int32) (s2 : xs_S) (hf : xf_1_after s a0 a1 a2 = some (v, s2)) (hK : Q (some (.int v)) (xs_H pt ps pg pr s2)) : mm_go C mm_Mk mm_Fk P_X1_after Q P_X1_after [(0, .ref 117), (1, .int a0), (2, .int a1), (3, .int a2)] [] (xs_H pt ps pg pr s) 0 0 := by
  unfold xf_1_after at hf
  obtain ⟨x_1, hx_1, hf⟩ := mo_bind hf
  obtain ⟨hi_1, rfl⟩ := mo_ag_inv hx_1
  by_cases c_2 : a1 = (6 : Int32)
  · have hf := mo_pos hf c_2
    by_cases c_3 : (((s.2.1 118) (a0).toNatClampNeg) &&& (a2 ^^^ (-1 : Int32))) = (0 : Int32)
    · have hf := mo_pos hf c_3
      refine mm_adv 16 (cs' := P_X1_after.drop 28) (l' := [(4, .int (((s.2.1 118) (a0).toNatClampNeg) &&& (a2 ^^^ (-1 : Int32)))), (0, .ref 117), (1, .int a0), (2, .int a1), (3, .int a2)]) (st' := [.int (1 : Int32)]) (h' := (xs_H pt ps pg pr s)) (bc' := 0) (bs' := 0) (fun n g => (And.intro hi_1 (And.intro (fun q => absurd c_2 q) (fun _ => (And.intro (fun q => absurd c_3 q) (fun _ => g)))))) ?_
      refine mm_re (l' := [(0, .ref 117), (1, .int a0), (2, .int a1)]) (c := [(0, .ref 117), (1, .int a0), (2, .int a1)]) ?_ rfl rfl
      exact xb_1_after_j28  s (a0) (a1) ((1 : Int32)) _ _ hf hK
    · have hf := mo_neg hf c_3
      refine mm_adv 16 (cs' := P_X1_after.drop 28) (l' := [(4, .int (((s.2.1 118) (a0).toNatClampNeg) &&& (a2 ^^^ (-1 : Int32)))), (0, .ref 117), (1, .int a0), (2, .int a1), (3, .int a2)]) (st' := [.int (0 : Int32)]) (h' := (xs_H pt ps pg pr s)) (bc' := 0) (bs' := 0) (fun n g => (And.intro hi_1 (And.intro (fun q => absurd c_2 q) (fun _ => (And.intro (fun _ => g) (fun q => absurd c_3 q)))))) ?_
      refine mm_re (l' := [(0, .ref 117), (1, .int a0), (2, .int a1)]) (c := [(0, .ref 117), (1, .int a0), (2, .int a1)]) ?_ rfl rfl
      exact xb_1_after_j28  s (a0) (a1) ((0 : Int32)) _ _ hf hK
  · have hf := mo_neg hf c_2
    by_cases c_6 : (((((s.2.1 118) (a0).toNatClampNeg) &&& (a2 ^^^ (-1 : Int32))) >>> (a1 &&& 31)) &&& (1 : Int32)) = (1 : Int32)
    · have hf := mo_pos hf c_6
      refine mm_adv 21 (cs' := P_X1_after.drop 28) (l' := [(4, .int (((s.2.1 118) (a0).toNatClampNeg) &&& (a2 ^^^ (-1 : Int32)))), (0, .ref 117), (1, .int a0), (2, .int a1), (3, .int a2)]) (st' := [.int (1 : Int32)]) (h' := (xs_H pt ps pg pr s)) (bc' := 0) (bs' := 0) (fun n g => (And.intro hi_1 (And.intro (fun _ => (And.intro (fun q => absurd c_6 q) (fun _ => g))) (fun q => absurd c_2 q)))) ?_
      refine mm_re (l' := [(0, .ref 117), (1, .int a0), (2, .int a1)]) (c := [(0, .ref 117), (1, .int a0), (2, .int a1)]) ?_ rfl rfl
      exact xb_1_after_j28  s (a0) (a1) ((1 : Int32)) _ _ hf hK
    · have hf := mo_neg hf c_6
      refine mm_adv 20 (cs' := P_X1_after.drop 28) (l' := [(4, .int (((s.2.1 118) (a0).toNatClampNeg) &&& (a2 ^^^ (-1 : Int32)))), (0, .ref 117), (1, .int a0), (2, .int a1), (3, .int a2)]) (st' := [.int (0 : Int32)]) (h' := (xs_H pt ps pg pr s)) (bc' := 0) (bs' := 0) (fun n g => (And.intro hi_1 (And.intro (fun _ => (And.intro (fun _ => g) (fun q => absurd c_6 q))) (fun q => absurd c_2 q)))) ?_
      refine mm_re (l' := [(0, .ref 117), (1, .int a0), (2, .int a1)]) (c := [(0, .ref 117), (1, .int a0), (2, .int a1)]) ?_ rfl rfl
      exact xb_1_after_j28  s (a0) (a1) ((0 : Int32)) _ _ hf hK
def xk_1_after (C : mm_C) : Prop := ∀ (pt : Value) (ps : Value) (pg : Value) (pr : Value) (s : xs_S) (a0 : Int32) (a1 : Int32) (a2 : Int32) (v : Int32) (s2 : xs_S) (Q : mm_R), xf_1_after s a0 a1 a2 = some (v, s2) → Q (some (.int v)) (xs_H pt ps pg pr s2) → C 139 [.ref 117, .int a0, .int a1, .int a2] (xs_H pt ps pg pr s) Q
-- 2_copyFrom_29_25
noncomputable def xf_2_copyFrom_29_25 (s : xs_S)  : Option (xs_S) :=
some (xs_sA (xs_sI (xs_sI (xs_sI (xs_sI (xs_sI s 464 ((s.1 400))) 465 ((s.1 401))) 466 ((s.1 402))) 467 ((s.1 403))) 468 ((s.1 404))) 30 (va_cpy (s.2.1 26) (s.2.1 30) 0 0 5))
set_option maxHeartbeats 4000000 in
theorem xb_2_copyFrom_29_25 {C : mm_C} {Q : mm_R} {pt : Value} {ps : Value} {pg : Value} {pr : Value}  (s : xs_S)  (s2 : xs_S) (hf : xf_2_copyFrom_29_25 s = some s2) (hK : Q (none) (xs_H pt ps pg pr s2)) : mm_go C mm_Mk mm_Fk P_X2_copyFrom Q P_X2_copyFrom [(0, .ref 29), (1, .ref 25)] [] (xs_H pt ps pg pr s) 0 0 := by
  unfold xf_2_copyFrom_29_25 at hf
  obtain rfl := Option.some.inj hf
  exact ⟨29, (And.intro trivial (And.intro trivial (And.intro trivial (And.intro trivial (And.intro trivial (And.intro (by decide) hK))))))⟩
def xk_2_copyFrom_29_25 (C : mm_C) : Prop := ∀ (pt : Value) (ps : Value) (pg : Value) (pr : Value) (s : xs_S)  (s2 : xs_S) (Q : mm_R), xf_2_copyFrom_29_25 s = some s2 → Q (none) (xs_H pt ps pg pr s2) → C 149 [.ref 29, .ref 25] (xs_H pt ps pg pr s) Q
-- 2_copyFrom_31_25
noncomputable def xf_2_copyFrom_31_25 (s : xs_S)  : Option (xs_S) :=
some (xs_sA (xs_sI (xs_sI (xs_sI (xs_sI (xs_sI s 496 ((s.1 400))) 497 ((s.1 401))) 498 ((s.1 402))) 499 ((s.1 403))) 500 ((s.1 404))) 32 (va_cpy (s.2.1 26) (s.2.1 32) 0 0 5))
set_option maxHeartbeats 4000000 in
theorem xb_2_copyFrom_31_25 {C : mm_C} {Q : mm_R} {pt : Value} {ps : Value} {pg : Value} {pr : Value}  (s : xs_S)  (s2 : xs_S) (hf : xf_2_copyFrom_31_25 s = some s2) (hK : Q (none) (xs_H pt ps pg pr s2)) : mm_go C mm_Mk mm_Fk P_X2_copyFrom Q P_X2_copyFrom [(0, .ref 31), (1, .ref 25)] [] (xs_H pt ps pg pr s) 0 0 := by
  unfold xf_2_copyFrom_31_25 at hf
  obtain rfl := Option.some.inj hf
  exact ⟨29, (And.intro trivial (And.intro trivial (And.intro trivial (And.intro trivial (And.intro trivial (And.intro (by decide) hK))))))⟩
def xk_2_copyFrom_31_25 (C : mm_C) : Prop := ∀ (pt : Value) (ps : Value) (pg : Value) (pr : Value) (s : xs_S)  (s2 : xs_S) (Q : mm_R), xf_2_copyFrom_31_25 s = some s2 → Q (none) (xs_H pt ps pg pr s2) → C 149 [.ref 31, .ref 25] (xs_H pt ps pg pr s) Q
-- 2_copyFrom_33_25
noncomputable def xf_2_copyFrom_33_25 (s : xs_S)  : Option (xs_S) :=
some (xs_sA (xs_sI (xs_sI (xs_sI (xs_sI (xs_sI s 528 ((s.1 400))) 529 ((s.1 401))) 530 ((s.1 402))) 531 ((s.1 403))) 532 ((s.1 404))) 34 (va_cpy (s.2.1 26) (s.2.1 34) 0 0 5))
set_option maxHeartbeats 4000000 in
theorem xb_2_copyFrom_33_25 {C : mm_C} {Q : mm_R} {pt : Value} {ps : Value} {pg : Value} {pr : Value}  (s : xs_S)  (s2 : xs_S) (hf : xf_2_copyFrom_33_25 s = some s2) (hK : Q (none) (xs_H pt ps pg pr s2)) : mm_go C mm_Mk mm_Fk P_X2_copyFrom Q P_X2_copyFrom [(0, .ref 33), (1, .ref 25)] [] (xs_H pt ps pg pr s) 0 0 := by
  unfold xf_2_copyFrom_33_25 at hf
  obtain rfl := Option.some.inj hf
  exact ⟨29, (And.intro trivial (And.intro trivial (And.intro trivial (And.intro trivial (And.intro trivial (And.intro (by decide) hK))))))⟩
def xk_2_copyFrom_33_25 (C : mm_C) : Prop := ∀ (pt : Value) (ps : Value) (pg : Value) (pr : Value) (s : xs_S)  (s2 : xs_S) (Q : mm_R), xf_2_copyFrom_33_25 s = some s2 → Q (none) (xs_H pt ps pg pr s2) → C 149 [.ref 33, .ref 25] (xs_H pt ps pg pr s) Q
-- 2_copyFrom_35_25
noncomputable def xf_2_copyFrom_35_25 (s : xs_S)  : Option (xs_S) :=
some (xs_sA (xs_sI (xs_sI (xs_sI (xs_sI (xs_sI s 560 ((s.1 400))) 561 ((s.1 401))) 562 ((s.1 402))) 563 ((s.1 403))) 564 ((s.1 404))) 36 (va_cpy (s.2.1 26) (s.2.1 36) 0 0 5))
set_option maxHeartbeats 4000000 in
theorem xb_2_copyFrom_35_25 {C : mm_C} {Q : mm_R} {pt : Value} {ps : Value} {pg : Value} {pr : Value}  (s : xs_S)  (s2 : xs_S) (hf : xf_2_copyFrom_35_25 s = some s2) (hK : Q (none) (xs_H pt ps pg pr s2)) : mm_go C mm_Mk mm_Fk P_X2_copyFrom Q P_X2_copyFrom [(0, .ref 35), (1, .ref 25)] [] (xs_H pt ps pg pr s) 0 0 := by
  unfold xf_2_copyFrom_35_25 at hf
  obtain rfl := Option.some.inj hf
  exact ⟨29, (And.intro trivial (And.intro trivial (And.intro trivial (And.intro trivial (And.intro trivial (And.intro (by decide) hK))))))⟩
def xk_2_copyFrom_35_25 (C : mm_C) : Prop := ∀ (pt : Value) (ps : Value) (pg : Value) (pr : Value) (s : xs_S)  (s2 : xs_S) (Q : mm_R), xf_2_copyFrom_35_25 s = some s2 → Q (none) (xs_H pt ps pg pr s2) → C 149 [.ref 35, .ref 25] (xs_H pt ps pg pr s) Q
-- 2_copyFrom_37_25
noncomputable def xf_2_copyFrom_37_25 (s : xs_S)  : Option (xs_S) :=
some (xs_sA (xs_sI (xs_sI (xs_sI (xs_sI (xs_sI s 592 ((s.1 400))) 593 ((s.1 401))) 594 ((s.1 402))) 595 ((s.1 403))) 596 ((s.1 404))) 38 (va_cpy (s.2.1 26) (s.2.1 38) 0 0 5))
set_option maxHeartbeats 4000000 in
theorem xb_2_copyFrom_37_25 {C : mm_C} {Q : mm_R} {pt : Value} {ps : Value} {pg : Value} {pr : Value}  (s : xs_S)  (s2 : xs_S) (hf : xf_2_copyFrom_37_25 s = some s2) (hK : Q (none) (xs_H pt ps pg pr s2)) : mm_go C mm_Mk mm_Fk P_X2_copyFrom Q P_X2_copyFrom [(0, .ref 37), (1, .ref 25)] [] (xs_H pt ps pg pr s) 0 0 := by
  unfold xf_2_copyFrom_37_25 at hf
  obtain rfl := Option.some.inj hf
  exact ⟨29, (And.intro trivial (And.intro trivial (And.intro trivial (And.intro trivial (And.intro trivial (And.intro (by decide) hK))))))⟩
def xk_2_copyFrom_37_25 (C : mm_C) : Prop := ∀ (pt : Value) (ps : Value) (pg : Value) (pr : Value) (s : xs_S)  (s2 : xs_S) (Q : mm_R), xf_2_copyFrom_37_25 s = some s2 → Q (none) (xs_H pt ps pg pr s2) → C 149 [.ref 37, .ref 25] (xs_H pt ps pg pr s) Q
-- 2_copyFrom_39_25
noncomputable def xf_2_copyFrom_39_25 (s : xs_S)  : Option (xs_S) :=
some (xs_sA (xs_sI (xs_sI (xs_sI (xs_sI (xs_sI s 624 ((s.1 400))) 625 ((s.1 401))) 626 ((s.1 402))) 627 ((s.1 403))) 628 ((s.1 404))) 40 (va_cpy (s.2.1 26) (s.2.1 40) 0 0 5))
set_option maxHeartbeats 4000000 in
theorem xb_2_copyFrom_39_25 {C : mm_C} {Q : mm_R} {pt : Value} {ps : Value} {pg : Value} {pr : Value}  (s : xs_S)  (s2 : xs_S) (hf : xf_2_copyFrom_39_25 s = some s2) (hK : Q (none) (xs_H pt ps pg pr s2)) : mm_go C mm_Mk mm_Fk P_X2_copyFrom Q P_X2_copyFrom [(0, .ref 39), (1, .ref 25)] [] (xs_H pt ps pg pr s) 0 0 := by
  unfold xf_2_copyFrom_39_25 at hf
  obtain rfl := Option.some.inj hf
  exact ⟨29, (And.intro trivial (And.intro trivial (And.intro trivial (And.intro trivial (And.intro trivial (And.intro (by decide) hK))))))⟩
def xk_2_copyFrom_39_25 (C : mm_C) : Prop := ∀ (pt : Value) (ps : Value) (pg : Value) (pr : Value) (s : xs_S)  (s2 : xs_S) (Q : mm_R), xf_2_copyFrom_39_25 s = some s2 → Q (none) (xs_H pt ps pg pr s2) → C 149 [.ref 39, .ref 25] (xs_H pt ps pg pr s) Q
-- 2_copyFrom_41_25
noncomputable def xf_2_copyFrom_41_25 (s : xs_S)  : Option (xs_S) :=
some (xs_sA (xs_sI (xs_sI (xs_sI (xs_sI (xs_sI s 656 ((s.1 400))) 657 ((s.1 401))) 658 ((s.1 402))) 659 ((s.1 403))) 660 ((s.1 404))) 42 (va_cpy (s.2.1 26) (s.2.1 42) 0 0 5))
set_option maxHeartbeats 4000000 in
theorem xb_2_copyFrom_41_25 {C : mm_C} {Q : mm_R} {pt : Value} {ps : Value} {pg : Value} {pr : Value}  (s : xs_S)  (s2 : xs_S) (hf : xf_2_copyFrom_41_25 s = some s2) (hK : Q (none) (xs_H pt ps pg pr s2)) : mm_go C mm_Mk mm_Fk P_X2_copyFrom Q P_X2_copyFrom [(0, .ref 41), (1, .ref 25)] [] (xs_H pt ps pg pr s) 0 0 := by
  unfold xf_2_copyFrom_41_25 at hf
  obtain rfl := Option.some.inj hf
  exact ⟨29, (And.intro trivial (And.intro trivial (And.intro trivial (And.intro trivial (And.intro trivial (And.intro (by decide) hK))))))⟩
def xk_2_copyFrom_41_25 (C : mm_C) : Prop := ∀ (pt : Value) (ps : Value) (pg : Value) (pr : Value) (s : xs_S)  (s2 : xs_S) (Q : mm_R), xf_2_copyFrom_41_25 s = some s2 → Q (none) (xs_H pt ps pg pr s2) → C 149 [.ref 41, .ref 25] (xs_H pt ps pg pr s) Q
-- 2_copyFrom_43_25
noncomputable def xf_2_copyFrom_43_25 (s : xs_S)  : Option (xs_S) :=
some (xs_sA (xs_sI (xs_sI (xs_sI (xs_sI (xs_sI s 688 ((s.1 400))) 689 ((s.1 401))) 690 ((s.1 402))) 691 ((s.1 403))) 692 ((s.1 404))) 44 (va_cpy (s.2.1 26) (s.2.1 44) 0 0 5))
set_option maxHeartbeats 4000000 in
theorem xb_2_copyFrom_43_25 {C : mm_C} {Q : mm_R} {pt : Value} {ps : Value} {pg : Value} {pr : Value}  (s : xs_S)  (s2 : xs_S) (hf : xf_2_copyFrom_43_25 s = some s2) (hK : Q (none) (xs_H pt ps pg pr s2)) : mm_go C mm_Mk mm_Fk P_X2_copyFrom Q P_X2_copyFrom [(0, .ref 43), (1, .ref 25)] [] (xs_H pt ps pg pr s) 0 0 := by
  unfold xf_2_copyFrom_43_25 at hf
  obtain rfl := Option.some.inj hf
  exact ⟨29, (And.intro trivial (And.intro trivial (And.intro trivial (And.intro trivial (And.intro trivial (And.intro (by decide) hK))))))⟩
def xk_2_copyFrom_43_25 (C : mm_C) : Prop := ∀ (pt : Value) (ps : Value) (pg : Value) (pr : Value) (s : xs_S)  (s2 : xs_S) (Q : mm_R), xf_2_copyFrom_43_25 s = some s2 → Q (none) (xs_H pt ps pg pr s2) → C 149 [.ref 43, .ref 25] (xs_H pt ps pg pr s) Q
-- 2_copyFrom_45_25
noncomputable def xf_2_copyFrom_45_25 (s : xs_S)  : Option (xs_S) :=
some (xs_sA (xs_sI (xs_sI (xs_sI (xs_sI (xs_sI s 720 ((s.1 400))) 721 ((s.1 401))) 722 ((s.1 402))) 723 ((s.1 403))) 724 ((s.1 404))) 46 (va_cpy (s.2.1 26) (s.2.1 46) 0 0 5))
set_option maxHeartbeats 4000000 in
theorem xb_2_copyFrom_45_25 {C : mm_C} {Q : mm_R} {pt : Value} {ps : Value} {pg : Value} {pr : Value}  (s : xs_S)  (s2 : xs_S) (hf : xf_2_copyFrom_45_25 s = some s2) (hK : Q (none) (xs_H pt ps pg pr s2)) : mm_go C mm_Mk mm_Fk P_X2_copyFrom Q P_X2_copyFrom [(0, .ref 45), (1, .ref 25)] [] (xs_H pt ps pg pr s) 0 0 := by
  unfold xf_2_copyFrom_45_25 at hf
  obtain rfl := Option.some.inj hf
  exact ⟨29, (And.intro trivial (And.intro trivial (And.intro trivial (And.intro trivial (And.intro trivial (And.intro (by decide) hK))))))⟩
def xk_2_copyFrom_45_25 (C : mm_C) : Prop := ∀ (pt : Value) (ps : Value) (pg : Value) (pr : Value) (s : xs_S)  (s2 : xs_S) (Q : mm_R), xf_2_copyFrom_45_25 s = some s2 → Q (none) (xs_H pt ps pg pr s2) → C 149 [.ref 45, .ref 25] (xs_H pt ps pg pr s) Q
-- 2_copyFrom_47_25
noncomputable def xf_2_copyFrom_47_25 (s : xs_S)  : Option (xs_S) :=
some (xs_sA (xs_sI (xs_sI (xs_sI (xs_sI (xs_sI s 752 ((s.1 400))) 753 ((s.1 401))) 754 ((s.1 402))) 755 ((s.1 403))) 756 ((s.1 404))) 48 (va_cpy (s.2.1 26) (s.2.1 48) 0 0 5))
set_option maxHeartbeats 4000000 in
theorem xb_2_copyFrom_47_25 {C : mm_C} {Q : mm_R} {pt : Value} {ps : Value} {pg : Value} {pr : Value}  (s : xs_S)  (s2 : xs_S) (hf : xf_2_copyFrom_47_25 s = some s2) (hK : Q (none) (xs_H pt ps pg pr s2)) : mm_go C mm_Mk mm_Fk P_X2_copyFrom Q P_X2_copyFrom [(0, .ref 47), (1, .ref 25)] [] (xs_H pt ps pg pr s) 0 0 := by
  unfold xf_2_copyFrom_47_25 at hf
  obtain rfl := Option.some.inj hf
  exact ⟨29, (And.intro trivial (And.intro trivial (And.intro trivial (And.intro trivial (And.intro trivial (And.intro (by decide) hK))))))⟩
def xk_2_copyFrom_47_25 (C : mm_C) : Prop := ∀ (pt : Value) (ps : Value) (pg : Value) (pr : Value) (s : xs_S)  (s2 : xs_S) (Q : mm_R), xf_2_copyFrom_47_25 s = some s2 → Q (none) (xs_H pt ps pg pr s2) → C 149 [.ref 47, .ref 25] (xs_H pt ps pg pr s) Q
-- 2_copyFrom_49_25
noncomputable def xf_2_copyFrom_49_25 (s : xs_S)  : Option (xs_S) :=
some (xs_sA (xs_sI (xs_sI (xs_sI (xs_sI (xs_sI s 784 ((s.1 400))) 785 ((s.1 401))) 786 ((s.1 402))) 787 ((s.1 403))) 788 ((s.1 404))) 50 (va_cpy (s.2.1 26) (s.2.1 50) 0 0 5))
set_option maxHeartbeats 4000000 in
theorem xb_2_copyFrom_49_25 {C : mm_C} {Q : mm_R} {pt : Value} {ps : Value} {pg : Value} {pr : Value}  (s : xs_S)  (s2 : xs_S) (hf : xf_2_copyFrom_49_25 s = some s2) (hK : Q (none) (xs_H pt ps pg pr s2)) : mm_go C mm_Mk mm_Fk P_X2_copyFrom Q P_X2_copyFrom [(0, .ref 49), (1, .ref 25)] [] (xs_H pt ps pg pr s) 0 0 := by
  unfold xf_2_copyFrom_49_25 at hf
  obtain rfl := Option.some.inj hf
  exact ⟨29, (And.intro trivial (And.intro trivial (And.intro trivial (And.intro trivial (And.intro trivial (And.intro (by decide) hK))))))⟩
def xk_2_copyFrom_49_25 (C : mm_C) : Prop := ∀ (pt : Value) (ps : Value) (pg : Value) (pr : Value) (s : xs_S)  (s2 : xs_S) (Q : mm_R), xf_2_copyFrom_49_25 s = some s2 → Q (none) (xs_H pt ps pg pr s2) → C 149 [.ref 49, .ref 25] (xs_H pt ps pg pr s) Q
-- 2_copyFrom_51_25
noncomputable def xf_2_copyFrom_51_25 (s : xs_S)  : Option (xs_S) :=
some (xs_sA (xs_sI (xs_sI (xs_sI (xs_sI (xs_sI s 816 ((s.1 400))) 817 ((s.1 401))) 818 ((s.1 402))) 819 ((s.1 403))) 820 ((s.1 404))) 52 (va_cpy (s.2.1 26) (s.2.1 52) 0 0 5))
set_option maxHeartbeats 4000000 in
theorem xb_2_copyFrom_51_25 {C : mm_C} {Q : mm_R} {pt : Value} {ps : Value} {pg : Value} {pr : Value}  (s : xs_S)  (s2 : xs_S) (hf : xf_2_copyFrom_51_25 s = some s2) (hK : Q (none) (xs_H pt ps pg pr s2)) : mm_go C mm_Mk mm_Fk P_X2_copyFrom Q P_X2_copyFrom [(0, .ref 51), (1, .ref 25)] [] (xs_H pt ps pg pr s) 0 0 := by
  unfold xf_2_copyFrom_51_25 at hf
  obtain rfl := Option.some.inj hf
  exact ⟨29, (And.intro trivial (And.intro trivial (And.intro trivial (And.intro trivial (And.intro trivial (And.intro (by decide) hK))))))⟩
def xk_2_copyFrom_51_25 (C : mm_C) : Prop := ∀ (pt : Value) (ps : Value) (pg : Value) (pr : Value) (s : xs_S)  (s2 : xs_S) (Q : mm_R), xf_2_copyFrom_51_25 s = some s2 → Q (none) (xs_H pt ps pg pr s2) → C 149 [.ref 51, .ref 25] (xs_H pt ps pg pr s) Q
-- 2_copyFrom_53_25
noncomputable def xf_2_copyFrom_53_25 (s : xs_S)  : Option (xs_S) :=
some (xs_sA (xs_sI (xs_sI (xs_sI (xs_sI (xs_sI s 848 ((s.1 400))) 849 ((s.1 401))) 850 ((s.1 402))) 851 ((s.1 403))) 852 ((s.1 404))) 54 (va_cpy (s.2.1 26) (s.2.1 54) 0 0 5))
set_option maxHeartbeats 4000000 in
theorem xb_2_copyFrom_53_25 {C : mm_C} {Q : mm_R} {pt : Value} {ps : Value} {pg : Value} {pr : Value}  (s : xs_S)  (s2 : xs_S) (hf : xf_2_copyFrom_53_25 s = some s2) (hK : Q (none) (xs_H pt ps pg pr s2)) : mm_go C mm_Mk mm_Fk P_X2_copyFrom Q P_X2_copyFrom [(0, .ref 53), (1, .ref 25)] [] (xs_H pt ps pg pr s) 0 0 := by
  unfold xf_2_copyFrom_53_25 at hf
  obtain rfl := Option.some.inj hf
  exact ⟨29, (And.intro trivial (And.intro trivial (And.intro trivial (And.intro trivial (And.intro trivial (And.intro (by decide) hK))))))⟩
def xk_2_copyFrom_53_25 (C : mm_C) : Prop := ∀ (pt : Value) (ps : Value) (pg : Value) (pr : Value) (s : xs_S)  (s2 : xs_S) (Q : mm_R), xf_2_copyFrom_53_25 s = some s2 → Q (none) (xs_H pt ps pg pr s2) → C 149 [.ref 53, .ref 25] (xs_H pt ps pg pr s) Q
-- 2_copyFrom_55_25
noncomputable def xf_2_copyFrom_55_25 (s : xs_S)  : Option (xs_S) :=
some (xs_sA (xs_sI (xs_sI (xs_sI (xs_sI (xs_sI s 880 ((s.1 400))) 881 ((s.1 401))) 882 ((s.1 402))) 883 ((s.1 403))) 884 ((s.1 404))) 56 (va_cpy (s.2.1 26) (s.2.1 56) 0 0 5))
set_option maxHeartbeats 4000000 in
theorem xb_2_copyFrom_55_25 {C : mm_C} {Q : mm_R} {pt : Value} {ps : Value} {pg : Value} {pr : Value}  (s : xs_S)  (s2 : xs_S) (hf : xf_2_copyFrom_55_25 s = some s2) (hK : Q (none) (xs_H pt ps pg pr s2)) : mm_go C mm_Mk mm_Fk P_X2_copyFrom Q P_X2_copyFrom [(0, .ref 55), (1, .ref 25)] [] (xs_H pt ps pg pr s) 0 0 := by
  unfold xf_2_copyFrom_55_25 at hf
  obtain rfl := Option.some.inj hf
  exact ⟨29, (And.intro trivial (And.intro trivial (And.intro trivial (And.intro trivial (And.intro trivial (And.intro (by decide) hK))))))⟩
def xk_2_copyFrom_55_25 (C : mm_C) : Prop := ∀ (pt : Value) (ps : Value) (pg : Value) (pr : Value) (s : xs_S)  (s2 : xs_S) (Q : mm_R), xf_2_copyFrom_55_25 s = some s2 → Q (none) (xs_H pt ps pg pr s2) → C 149 [.ref 55, .ref 25] (xs_H pt ps pg pr s) Q
-- 2_copyFrom_57_25
noncomputable def xf_2_copyFrom_57_25 (s : xs_S)  : Option (xs_S) :=
some (xs_sA (xs_sI (xs_sI (xs_sI (xs_sI (xs_sI s 912 ((s.1 400))) 913 ((s.1 401))) 914 ((s.1 402))) 915 ((s.1 403))) 916 ((s.1 404))) 58 (va_cpy (s.2.1 26) (s.2.1 58) 0 0 5))
set_option maxHeartbeats 4000000 in
theorem xb_2_copyFrom_57_25 {C : mm_C} {Q : mm_R} {pt : Value} {ps : Value} {pg : Value} {pr : Value}  (s : xs_S)  (s2 : xs_S) (hf : xf_2_copyFrom_57_25 s = some s2) (hK : Q (none) (xs_H pt ps pg pr s2)) : mm_go C mm_Mk mm_Fk P_X2_copyFrom Q P_X2_copyFrom [(0, .ref 57), (1, .ref 25)] [] (xs_H pt ps pg pr s) 0 0 := by
  unfold xf_2_copyFrom_57_25 at hf
  obtain rfl := Option.some.inj hf
  exact ⟨29, (And.intro trivial (And.intro trivial (And.intro trivial (And.intro trivial (And.intro trivial (And.intro (by decide) hK))))))⟩
def xk_2_copyFrom_57_25 (C : mm_C) : Prop := ∀ (pt : Value) (ps : Value) (pg : Value) (pr : Value) (s : xs_S)  (s2 : xs_S) (Q : mm_R), xf_2_copyFrom_57_25 s = some s2 → Q (none) (xs_H pt ps pg pr s2) → C 149 [.ref 57, .ref 25] (xs_H pt ps pg pr s) Q
-- 2_copyFrom_59_25
noncomputable def xf_2_copyFrom_59_25 (s : xs_S)  : Option (xs_S) :=
some (xs_sA (xs_sI (xs_sI (xs_sI (xs_sI (xs_sI s 944 ((s.1 400))) 945 ((s.1 401))) 946 ((s.1 402))) 947 ((s.1 403))) 948 ((s.1 404))) 60 (va_cpy (s.2.1 26) (s.2.1 60) 0 0 5))
set_option maxHeartbeats 4000000 in
theorem xb_2_copyFrom_59_25 {C : mm_C} {Q : mm_R} {pt : Value} {ps : Value} {pg : Value} {pr : Value}  (s : xs_S)  (s2 : xs_S) (hf : xf_2_copyFrom_59_25 s = some s2) (hK : Q (none) (xs_H pt ps pg pr s2)) : mm_go C mm_Mk mm_Fk P_X2_copyFrom Q P_X2_copyFrom [(0, .ref 59), (1, .ref 25)] [] (xs_H pt ps pg pr s) 0 0 := by
  unfold xf_2_copyFrom_59_25 at hf
  obtain rfl := Option.some.inj hf
  exact ⟨29, (And.intro trivial (And.intro trivial (And.intro trivial (And.intro trivial (And.intro trivial (And.intro (by decide) hK))))))⟩
def xk_2_copyFrom_59_25 (C : mm_C) : Prop := ∀ (pt : Value) (ps : Value) (pg : Value) (pr : Value) (s : xs_S)  (s2 : xs_S) (Q : mm_R), xf_2_copyFrom_59_25 s = some s2 → Q (none) (xs_H pt ps pg pr s2) → C 149 [.ref 59, .ref 25] (xs_H pt ps pg pr s) Q
-- 2_copyFrom_61_25
noncomputable def xf_2_copyFrom_61_25 (s : xs_S)  : Option (xs_S) :=
some (xs_sA (xs_sI (xs_sI (xs_sI (xs_sI (xs_sI s 976 ((s.1 400))) 977 ((s.1 401))) 978 ((s.1 402))) 979 ((s.1 403))) 980 ((s.1 404))) 62 (va_cpy (s.2.1 26) (s.2.1 62) 0 0 5))
set_option maxHeartbeats 4000000 in
theorem xb_2_copyFrom_61_25 {C : mm_C} {Q : mm_R} {pt : Value} {ps : Value} {pg : Value} {pr : Value}  (s : xs_S)  (s2 : xs_S) (hf : xf_2_copyFrom_61_25 s = some s2) (hK : Q (none) (xs_H pt ps pg pr s2)) : mm_go C mm_Mk mm_Fk P_X2_copyFrom Q P_X2_copyFrom [(0, .ref 61), (1, .ref 25)] [] (xs_H pt ps pg pr s) 0 0 := by
  unfold xf_2_copyFrom_61_25 at hf
  obtain rfl := Option.some.inj hf
  exact ⟨29, (And.intro trivial (And.intro trivial (And.intro trivial (And.intro trivial (And.intro trivial (And.intro (by decide) hK))))))⟩
def xk_2_copyFrom_61_25 (C : mm_C) : Prop := ∀ (pt : Value) (ps : Value) (pg : Value) (pr : Value) (s : xs_S)  (s2 : xs_S) (Q : mm_R), xf_2_copyFrom_61_25 s = some s2 → Q (none) (xs_H pt ps pg pr s2) → C 149 [.ref 61, .ref 25] (xs_H pt ps pg pr s) Q
-- 2_copyFrom_63_25
noncomputable def xf_2_copyFrom_63_25 (s : xs_S)  : Option (xs_S) :=
some (xs_sA (xs_sI (xs_sI (xs_sI (xs_sI (xs_sI s 1008 ((s.1 400))) 1009 ((s.1 401))) 1010 ((s.1 402))) 1011 ((s.1 403))) 1012 ((s.1 404))) 64 (va_cpy (s.2.1 26) (s.2.1 64) 0 0 5))
set_option maxHeartbeats 4000000 in
theorem xb_2_copyFrom_63_25 {C : mm_C} {Q : mm_R} {pt : Value} {ps : Value} {pg : Value} {pr : Value}  (s : xs_S)  (s2 : xs_S) (hf : xf_2_copyFrom_63_25 s = some s2) (hK : Q (none) (xs_H pt ps pg pr s2)) : mm_go C mm_Mk mm_Fk P_X2_copyFrom Q P_X2_copyFrom [(0, .ref 63), (1, .ref 25)] [] (xs_H pt ps pg pr s) 0 0 := by
  unfold xf_2_copyFrom_63_25 at hf
  obtain rfl := Option.some.inj hf
  exact ⟨29, (And.intro trivial (And.intro trivial (And.intro trivial (And.intro trivial (And.intro trivial (And.intro (by decide) hK))))))⟩
def xk_2_copyFrom_63_25 (C : mm_C) : Prop := ∀ (pt : Value) (ps : Value) (pg : Value) (pr : Value) (s : xs_S)  (s2 : xs_S) (Q : mm_R), xf_2_copyFrom_63_25 s = some s2 → Q (none) (xs_H pt ps pg pr s2) → C 149 [.ref 63, .ref 25] (xs_H pt ps pg pr s) Q
-- 2_copyFrom_65_25
noncomputable def xf_2_copyFrom_65_25 (s : xs_S)  : Option (xs_S) :=
some (xs_sA (xs_sI (xs_sI (xs_sI (xs_sI (xs_sI s 1040 ((s.1 400))) 1041 ((s.1 401))) 1042 ((s.1 402))) 1043 ((s.1 403))) 1044 ((s.1 404))) 66 (va_cpy (s.2.1 26) (s.2.1 66) 0 0 5))
set_option maxHeartbeats 4000000 in
theorem xb_2_copyFrom_65_25 {C : mm_C} {Q : mm_R} {pt : Value} {ps : Value} {pg : Value} {pr : Value}  (s : xs_S)  (s2 : xs_S) (hf : xf_2_copyFrom_65_25 s = some s2) (hK : Q (none) (xs_H pt ps pg pr s2)) : mm_go C mm_Mk mm_Fk P_X2_copyFrom Q P_X2_copyFrom [(0, .ref 65), (1, .ref 25)] [] (xs_H pt ps pg pr s) 0 0 := by
  unfold xf_2_copyFrom_65_25 at hf
  obtain rfl := Option.some.inj hf
  exact ⟨29, (And.intro trivial (And.intro trivial (And.intro trivial (And.intro trivial (And.intro trivial (And.intro (by decide) hK))))))⟩
def xk_2_copyFrom_65_25 (C : mm_C) : Prop := ∀ (pt : Value) (ps : Value) (pg : Value) (pr : Value) (s : xs_S)  (s2 : xs_S) (Q : mm_R), xf_2_copyFrom_65_25 s = some s2 → Q (none) (xs_H pt ps pg pr s2) → C 149 [.ref 65, .ref 25] (xs_H pt ps pg pr s) Q
-- 2_copyFrom_67_25
noncomputable def xf_2_copyFrom_67_25 (s : xs_S)  : Option (xs_S) :=
some (xs_sA (xs_sI (xs_sI (xs_sI (xs_sI (xs_sI s 1072 ((s.1 400))) 1073 ((s.1 401))) 1074 ((s.1 402))) 1075 ((s.1 403))) 1076 ((s.1 404))) 68 (va_cpy (s.2.1 26) (s.2.1 68) 0 0 5))
set_option maxHeartbeats 4000000 in
theorem xb_2_copyFrom_67_25 {C : mm_C} {Q : mm_R} {pt : Value} {ps : Value} {pg : Value} {pr : Value}  (s : xs_S)  (s2 : xs_S) (hf : xf_2_copyFrom_67_25 s = some s2) (hK : Q (none) (xs_H pt ps pg pr s2)) : mm_go C mm_Mk mm_Fk P_X2_copyFrom Q P_X2_copyFrom [(0, .ref 67), (1, .ref 25)] [] (xs_H pt ps pg pr s) 0 0 := by
  unfold xf_2_copyFrom_67_25 at hf
  obtain rfl := Option.some.inj hf
  exact ⟨29, (And.intro trivial (And.intro trivial (And.intro trivial (And.intro trivial (And.intro trivial (And.intro (by decide) hK))))))⟩
def xk_2_copyFrom_67_25 (C : mm_C) : Prop := ∀ (pt : Value) (ps : Value) (pg : Value) (pr : Value) (s : xs_S)  (s2 : xs_S) (Q : mm_R), xf_2_copyFrom_67_25 s = some s2 → Q (none) (xs_H pt ps pg pr s2) → C 149 [.ref 67, .ref 25] (xs_H pt ps pg pr s) Q
-- 2_copyFrom_69_25
noncomputable def xf_2_copyFrom_69_25 (s : xs_S)  : Option (xs_S) :=
some (xs_sA (xs_sI (xs_sI (xs_sI (xs_sI (xs_sI s 1104 ((s.1 400))) 1105 ((s.1 401))) 1106 ((s.1 402))) 1107 ((s.1 403))) 1108 ((s.1 404))) 70 (va_cpy (s.2.1 26) (s.2.1 70) 0 0 5))
set_option maxHeartbeats 4000000 in
theorem xb_2_copyFrom_69_25 {C : mm_C} {Q : mm_R} {pt : Value} {ps : Value} {pg : Value} {pr : Value}  (s : xs_S)  (s2 : xs_S) (hf : xf_2_copyFrom_69_25 s = some s2) (hK : Q (none) (xs_H pt ps pg pr s2)) : mm_go C mm_Mk mm_Fk P_X2_copyFrom Q P_X2_copyFrom [(0, .ref 69), (1, .ref 25)] [] (xs_H pt ps pg pr s) 0 0 := by
  unfold xf_2_copyFrom_69_25 at hf
  obtain rfl := Option.some.inj hf
  exact ⟨29, (And.intro trivial (And.intro trivial (And.intro trivial (And.intro trivial (And.intro trivial (And.intro (by decide) hK))))))⟩
def xk_2_copyFrom_69_25 (C : mm_C) : Prop := ∀ (pt : Value) (ps : Value) (pg : Value) (pr : Value) (s : xs_S)  (s2 : xs_S) (Q : mm_R), xf_2_copyFrom_69_25 s = some s2 → Q (none) (xs_H pt ps pg pr s2) → C 149 [.ref 69, .ref 25] (xs_H pt ps pg pr s) Q
-- 2_copyFrom_71_25
noncomputable def xf_2_copyFrom_71_25 (s : xs_S)  : Option (xs_S) :=
some (xs_sA (xs_sI (xs_sI (xs_sI (xs_sI (xs_sI s 1136 ((s.1 400))) 1137 ((s.1 401))) 1138 ((s.1 402))) 1139 ((s.1 403))) 1140 ((s.1 404))) 72 (va_cpy (s.2.1 26) (s.2.1 72) 0 0 5))
set_option maxHeartbeats 4000000 in
theorem xb_2_copyFrom_71_25 {C : mm_C} {Q : mm_R} {pt : Value} {ps : Value} {pg : Value} {pr : Value}  (s : xs_S)  (s2 : xs_S) (hf : xf_2_copyFrom_71_25 s = some s2) (hK : Q (none) (xs_H pt ps pg pr s2)) : mm_go C mm_Mk mm_Fk P_X2_copyFrom Q P_X2_copyFrom [(0, .ref 71), (1, .ref 25)] [] (xs_H pt ps pg pr s) 0 0 := by
  unfold xf_2_copyFrom_71_25 at hf
  obtain rfl := Option.some.inj hf
  exact ⟨29, (And.intro trivial (And.intro trivial (And.intro trivial (And.intro trivial (And.intro trivial (And.intro (by decide) hK))))))⟩
def xk_2_copyFrom_71_25 (C : mm_C) : Prop := ∀ (pt : Value) (ps : Value) (pg : Value) (pr : Value) (s : xs_S)  (s2 : xs_S) (Q : mm_R), xf_2_copyFrom_71_25 s = some s2 → Q (none) (xs_H pt ps pg pr s2) → C 149 [.ref 71, .ref 25] (xs_H pt ps pg pr s) Q
-- 2_copyFrom_73_25
noncomputable def xf_2_copyFrom_73_25 (s : xs_S)  : Option (xs_S) :=
some (xs_sA (xs_sI (xs_sI (xs_sI (xs_sI (xs_sI s 1168 ((s.1 400))) 1169 ((s.1 401))) 1170 ((s.1 402))) 1171 ((s.1 403))) 1172 ((s.1 404))) 74 (va_cpy (s.2.1 26) (s.2.1 74) 0 0 5))
set_option maxHeartbeats 4000000 in
theorem xb_2_copyFrom_73_25 {C : mm_C} {Q : mm_R} {pt : Value} {ps : Value} {pg : Value} {pr : Value}  (s : xs_S)  (s2 : xs_S) (hf : xf_2_copyFrom_73_25 s = some s2) (hK : Q (none) (xs_H pt ps pg pr s2)) : mm_go C mm_Mk mm_Fk P_X2_copyFrom Q P_X2_copyFrom [(0, .ref 73), (1, .ref 25)] [] (xs_H pt ps pg pr s) 0 0 := by
  unfold xf_2_copyFrom_73_25 at hf
  obtain rfl := Option.some.inj hf
  exact ⟨29, (And.intro trivial (And.intro trivial (And.intro trivial (And.intro trivial (And.intro trivial (And.intro (by decide) hK))))))⟩
def xk_2_copyFrom_73_25 (C : mm_C) : Prop := ∀ (pt : Value) (ps : Value) (pg : Value) (pr : Value) (s : xs_S)  (s2 : xs_S) (Q : mm_R), xf_2_copyFrom_73_25 s = some s2 → Q (none) (xs_H pt ps pg pr s2) → C 149 [.ref 73, .ref 25] (xs_H pt ps pg pr s) Q
-- 2_copyFrom_75_25
noncomputable def xf_2_copyFrom_75_25 (s : xs_S)  : Option (xs_S) :=
some (xs_sA (xs_sI (xs_sI (xs_sI (xs_sI (xs_sI s 1200 ((s.1 400))) 1201 ((s.1 401))) 1202 ((s.1 402))) 1203 ((s.1 403))) 1204 ((s.1 404))) 76 (va_cpy (s.2.1 26) (s.2.1 76) 0 0 5))
set_option maxHeartbeats 4000000 in
theorem xb_2_copyFrom_75_25 {C : mm_C} {Q : mm_R} {pt : Value} {ps : Value} {pg : Value} {pr : Value}  (s : xs_S)  (s2 : xs_S) (hf : xf_2_copyFrom_75_25 s = some s2) (hK : Q (none) (xs_H pt ps pg pr s2)) : mm_go C mm_Mk mm_Fk P_X2_copyFrom Q P_X2_copyFrom [(0, .ref 75), (1, .ref 25)] [] (xs_H pt ps pg pr s) 0 0 := by
  unfold xf_2_copyFrom_75_25 at hf
  obtain rfl := Option.some.inj hf
  exact ⟨29, (And.intro trivial (And.intro trivial (And.intro trivial (And.intro trivial (And.intro trivial (And.intro (by decide) hK))))))⟩
def xk_2_copyFrom_75_25 (C : mm_C) : Prop := ∀ (pt : Value) (ps : Value) (pg : Value) (pr : Value) (s : xs_S)  (s2 : xs_S) (Q : mm_R), xf_2_copyFrom_75_25 s = some s2 → Q (none) (xs_H pt ps pg pr s2) → C 149 [.ref 75, .ref 25] (xs_H pt ps pg pr s) Q
-- 2_copyFrom_77_25
noncomputable def xf_2_copyFrom_77_25 (s : xs_S)  : Option (xs_S) :=
some (xs_sA (xs_sI (xs_sI (xs_sI (xs_sI (xs_sI s 1232 ((s.1 400))) 1233 ((s.1 401))) 1234 ((s.1 402))) 1235 ((s.1 403))) 1236 ((s.1 404))) 78 (va_cpy (s.2.1 26) (s.2.1 78) 0 0 5))
set_option maxHeartbeats 4000000 in
theorem xb_2_copyFrom_77_25 {C : mm_C} {Q : mm_R} {pt : Value} {ps : Value} {pg : Value} {pr : Value}  (s : xs_S)  (s2 : xs_S) (hf : xf_2_copyFrom_77_25 s = some s2) (hK : Q (none) (xs_H pt ps pg pr s2)) : mm_go C mm_Mk mm_Fk P_X2_copyFrom Q P_X2_copyFrom [(0, .ref 77), (1, .ref 25)] [] (xs_H pt ps pg pr s) 0 0 := by
  unfold xf_2_copyFrom_77_25 at hf
  obtain rfl := Option.some.inj hf
  exact ⟨29, (And.intro trivial (And.intro trivial (And.intro trivial (And.intro trivial (And.intro trivial (And.intro (by decide) hK))))))⟩
def xk_2_copyFrom_77_25 (C : mm_C) : Prop := ∀ (pt : Value) (ps : Value) (pg : Value) (pr : Value) (s : xs_S)  (s2 : xs_S) (Q : mm_R), xf_2_copyFrom_77_25 s = some s2 → Q (none) (xs_H pt ps pg pr s2) → C 149 [.ref 77, .ref 25] (xs_H pt ps pg pr s) Q
-- 2_copyFrom_79_25
noncomputable def xf_2_copyFrom_79_25 (s : xs_S)  : Option (xs_S) :=
some (xs_sA (xs_sI (xs_sI (xs_sI (xs_sI (xs_sI s 1264 ((s.1 400))) 1265 ((s.1 401))) 1266 ((s.1 402))) 1267 ((s.1 403))) 1268 ((s.1 404))) 80 (va_cpy (s.2.1 26) (s.2.1 80) 0 0 5))
set_option maxHeartbeats 4000000 in
theorem xb_2_copyFrom_79_25 {C : mm_C} {Q : mm_R} {pt : Value} {ps : Value} {pg : Value} {pr : Value}  (s : xs_S)  (s2 : xs_S) (hf : xf_2_copyFrom_79_25 s = some s2) (hK : Q (none) (xs_H pt ps pg pr s2)) : mm_go C mm_Mk mm_Fk P_X2_copyFrom Q P_X2_copyFrom [(0, .ref 79), (1, .ref 25)] [] (xs_H pt ps pg pr s) 0 0 := by
  unfold xf_2_copyFrom_79_25 at hf
  obtain rfl := Option.some.inj hf
  exact ⟨29, (And.intro trivial (And.intro trivial (And.intro trivial (And.intro trivial (And.intro trivial (And.intro (by decide) hK))))))⟩
def xk_2_copyFrom_79_25 (C : mm_C) : Prop := ∀ (pt : Value) (ps : Value) (pg : Value) (pr : Value) (s : xs_S)  (s2 : xs_S) (Q : mm_R), xf_2_copyFrom_79_25 s = some s2 → Q (none) (xs_H pt ps pg pr s2) → C 149 [.ref 79, .ref 25] (xs_H pt ps pg pr s) Q
-- 2_copyFrom_81_25
noncomputable def xf_2_copyFrom_81_25 (s : xs_S)  : Option (xs_S) :=
some (xs_sA (xs_sI (xs_sI (xs_sI (xs_sI (xs_sI s 1296 ((s.1 400))) 1297 ((s.1 401))) 1298 ((s.1 402))) 1299 ((s.1 403))) 1300 ((s.1 404))) 82 (va_cpy (s.2.1 26) (s.2.1 82) 0 0 5))
set_option maxHeartbeats 4000000 in
theorem xb_2_copyFrom_81_25 {C : mm_C} {Q : mm_R} {pt : Value} {ps : Value} {pg : Value} {pr : Value}  (s : xs_S)  (s2 : xs_S) (hf : xf_2_copyFrom_81_25 s = some s2) (hK : Q (none) (xs_H pt ps pg pr s2)) : mm_go C mm_Mk mm_Fk P_X2_copyFrom Q P_X2_copyFrom [(0, .ref 81), (1, .ref 25)] [] (xs_H pt ps pg pr s) 0 0 := by
  unfold xf_2_copyFrom_81_25 at hf
  obtain rfl := Option.some.inj hf
  exact ⟨29, (And.intro trivial (And.intro trivial (And.intro trivial (And.intro trivial (And.intro trivial (And.intro (by decide) hK))))))⟩
def xk_2_copyFrom_81_25 (C : mm_C) : Prop := ∀ (pt : Value) (ps : Value) (pg : Value) (pr : Value) (s : xs_S)  (s2 : xs_S) (Q : mm_R), xf_2_copyFrom_81_25 s = some s2 → Q (none) (xs_H pt ps pg pr s2) → C 149 [.ref 81, .ref 25] (xs_H pt ps pg pr s) Q
-- 2_copyFrom_83_25
noncomputable def xf_2_copyFrom_83_25 (s : xs_S)  : Option (xs_S) :=
some (xs_sA (xs_sI (xs_sI (xs_sI (xs_sI (xs_sI s 1328 ((s.1 400))) 1329 ((s.1 401))) 1330 ((s.1 402))) 1331 ((s.1 403))) 1332 ((s.1 404))) 84 (va_cpy (s.2.1 26) (s.2.1 84) 0 0 5))
set_option maxHeartbeats 4000000 in
theorem xb_2_copyFrom_83_25 {C : mm_C} {Q : mm_R} {pt : Value} {ps : Value} {pg : Value} {pr : Value}  (s : xs_S)  (s2 : xs_S) (hf : xf_2_copyFrom_83_25 s = some s2) (hK : Q (none) (xs_H pt ps pg pr s2)) : mm_go C mm_Mk mm_Fk P_X2_copyFrom Q P_X2_copyFrom [(0, .ref 83), (1, .ref 25)] [] (xs_H pt ps pg pr s) 0 0 := by
  unfold xf_2_copyFrom_83_25 at hf
  obtain rfl := Option.some.inj hf
  exact ⟨29, (And.intro trivial (And.intro trivial (And.intro trivial (And.intro trivial (And.intro trivial (And.intro (by decide) hK))))))⟩
def xk_2_copyFrom_83_25 (C : mm_C) : Prop := ∀ (pt : Value) (ps : Value) (pg : Value) (pr : Value) (s : xs_S)  (s2 : xs_S) (Q : mm_R), xf_2_copyFrom_83_25 s = some s2 → Q (none) (xs_H pt ps pg pr s2) → C 149 [.ref 83, .ref 25] (xs_H pt ps pg pr s) Q
-- 2_copyFrom_85_25
noncomputable def xf_2_copyFrom_85_25 (s : xs_S)  : Option (xs_S) :=
some (xs_sA (xs_sI (xs_sI (xs_sI (xs_sI (xs_sI s 1360 ((s.1 400))) 1361 ((s.1 401))) 1362 ((s.1 402))) 1363 ((s.1 403))) 1364 ((s.1 404))) 86 (va_cpy (s.2.1 26) (s.2.1 86) 0 0 5))
set_option maxHeartbeats 4000000 in
theorem xb_2_copyFrom_85_25 {C : mm_C} {Q : mm_R} {pt : Value} {ps : Value} {pg : Value} {pr : Value}  (s : xs_S)  (s2 : xs_S) (hf : xf_2_copyFrom_85_25 s = some s2) (hK : Q (none) (xs_H pt ps pg pr s2)) : mm_go C mm_Mk mm_Fk P_X2_copyFrom Q P_X2_copyFrom [(0, .ref 85), (1, .ref 25)] [] (xs_H pt ps pg pr s) 0 0 := by
  unfold xf_2_copyFrom_85_25 at hf
  obtain rfl := Option.some.inj hf
  exact ⟨29, (And.intro trivial (And.intro trivial (And.intro trivial (And.intro trivial (And.intro trivial (And.intro (by decide) hK))))))⟩
def xk_2_copyFrom_85_25 (C : mm_C) : Prop := ∀ (pt : Value) (ps : Value) (pg : Value) (pr : Value) (s : xs_S)  (s2 : xs_S) (Q : mm_R), xf_2_copyFrom_85_25 s = some s2 → Q (none) (xs_H pt ps pg pr s2) → C 149 [.ref 85, .ref 25] (xs_H pt ps pg pr s) Q
-- 2_copyFrom_87_25
noncomputable def xf_2_copyFrom_87_25 (s : xs_S)  : Option (xs_S) :=
some (xs_sA (xs_sI (xs_sI (xs_sI (xs_sI (xs_sI s 1392 ((s.1 400))) 1393 ((s.1 401))) 1394 ((s.1 402))) 1395 ((s.1 403))) 1396 ((s.1 404))) 88 (va_cpy (s.2.1 26) (s.2.1 88) 0 0 5))
set_option maxHeartbeats 4000000 in
theorem xb_2_copyFrom_87_25 {C : mm_C} {Q : mm_R} {pt : Value} {ps : Value} {pg : Value} {pr : Value}  (s : xs_S)  (s2 : xs_S) (hf : xf_2_copyFrom_87_25 s = some s2) (hK : Q (none) (xs_H pt ps pg pr s2)) : mm_go C mm_Mk mm_Fk P_X2_copyFrom Q P_X2_copyFrom [(0, .ref 87), (1, .ref 25)] [] (xs_H pt ps pg pr s) 0 0 := by
  unfold xf_2_copyFrom_87_25 at hf
  obtain rfl := Option.some.inj hf
  exact ⟨29, (And.intro trivial (And.intro trivial (And.intro trivial (And.intro trivial (And.intro trivial (And.intro (by decide) hK))))))⟩
def xk_2_copyFrom_87_25 (C : mm_C) : Prop := ∀ (pt : Value) (ps : Value) (pg : Value) (pr : Value) (s : xs_S)  (s2 : xs_S) (Q : mm_R), xf_2_copyFrom_87_25 s = some s2 → Q (none) (xs_H pt ps pg pr s2) → C 149 [.ref 87, .ref 25] (xs_H pt ps pg pr s) Q
-- 2_copyFrom_89_25
noncomputable def xf_2_copyFrom_89_25 (s : xs_S)  : Option (xs_S) :=
some (xs_sA (xs_sI (xs_sI (xs_sI (xs_sI (xs_sI s 1424 ((s.1 400))) 1425 ((s.1 401))) 1426 ((s.1 402))) 1427 ((s.1 403))) 1428 ((s.1 404))) 90 (va_cpy (s.2.1 26) (s.2.1 90) 0 0 5))
set_option maxHeartbeats 4000000 in
theorem xb_2_copyFrom_89_25 {C : mm_C} {Q : mm_R} {pt : Value} {ps : Value} {pg : Value} {pr : Value}  (s : xs_S)  (s2 : xs_S) (hf : xf_2_copyFrom_89_25 s = some s2) (hK : Q (none) (xs_H pt ps pg pr s2)) : mm_go C mm_Mk mm_Fk P_X2_copyFrom Q P_X2_copyFrom [(0, .ref 89), (1, .ref 25)] [] (xs_H pt ps pg pr s) 0 0 := by
  unfold xf_2_copyFrom_89_25 at hf
  obtain rfl := Option.some.inj hf
  exact ⟨29, (And.intro trivial (And.intro trivial (And.intro trivial (And.intro trivial (And.intro trivial (And.intro (by decide) hK))))))⟩
def xk_2_copyFrom_89_25 (C : mm_C) : Prop := ∀ (pt : Value) (ps : Value) (pg : Value) (pr : Value) (s : xs_S)  (s2 : xs_S) (Q : mm_R), xf_2_copyFrom_89_25 s = some s2 → Q (none) (xs_H pt ps pg pr s2) → C 149 [.ref 89, .ref 25] (xs_H pt ps pg pr s) Q
-- 2_copyFrom_91_25
noncomputable def xf_2_copyFrom_91_25 (s : xs_S)  : Option (xs_S) :=
some (xs_sA (xs_sI (xs_sI (xs_sI (xs_sI (xs_sI s 1456 ((s.1 400))) 1457 ((s.1 401))) 1458 ((s.1 402))) 1459 ((s.1 403))) 1460 ((s.1 404))) 92 (va_cpy (s.2.1 26) (s.2.1 92) 0 0 5))
set_option maxHeartbeats 4000000 in
theorem xb_2_copyFrom_91_25 {C : mm_C} {Q : mm_R} {pt : Value} {ps : Value} {pg : Value} {pr : Value}  (s : xs_S)  (s2 : xs_S) (hf : xf_2_copyFrom_91_25 s = some s2) (hK : Q (none) (xs_H pt ps pg pr s2)) : mm_go C mm_Mk mm_Fk P_X2_copyFrom Q P_X2_copyFrom [(0, .ref 91), (1, .ref 25)] [] (xs_H pt ps pg pr s) 0 0 := by
  unfold xf_2_copyFrom_91_25 at hf
  obtain rfl := Option.some.inj hf
  exact ⟨29, (And.intro trivial (And.intro trivial (And.intro trivial (And.intro trivial (And.intro trivial (And.intro (by decide) hK))))))⟩
def xk_2_copyFrom_91_25 (C : mm_C) : Prop := ∀ (pt : Value) (ps : Value) (pg : Value) (pr : Value) (s : xs_S)  (s2 : xs_S) (Q : mm_R), xf_2_copyFrom_91_25 s = some s2 → Q (none) (xs_H pt ps pg pr s2) → C 149 [.ref 91, .ref 25] (xs_H pt ps pg pr s) Q
