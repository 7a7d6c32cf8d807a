/-! the class, method by method, 2 -/
-- 7_tongueOf_9
noncomputable def xf_7_tongueOf_9 (s : xs_S) (a0 : Int32) : Option (Int32 × xs_S) :=
((xf_7_hasSpeaker_9 s (a0)).bind fun (v_1, s_1) =>
(if v_1 = (0 : Int32) then
some ((0 : Int32), s_1)
else
((mo_ag 5 (s_1.2.1 10) a0).bind fun x_3 =>
some (x_3, s_1))))
set_option maxHeartbeats 4000000 in
theorem xb_7_tongueOf_9 {C : mm_C} {Q : mm_R} {pt : Value} {ps : Value} {pg : Value} {pr : Value} (h_7_hasSpeaker_9 : xk_7_hasSpeaker_9 C) (s : xs_S) (a0 : Int32) (v : Int32) (s2 : xs_S) (hf : xf_7_tongueOf_9 s a0 = some (v, s2)) (hK : Q (some (.int v)) (xs_H pt ps pg pr s2)) : mm_go C mm_Mk mm_Fk P_X7_tongueOf Q P_X7_tongueOf [(0, .ref 9), (1, .int a0)] [] (xs_H pt ps pg pr s) 0 0 := by
  unfold xf_7_tongueOf_9 at hf
  obtain ⟨r_1, hr_1, hf⟩ := mo_bind hf
  obtain ⟨v_1, s_1⟩ := r_1
  by_cases c_2 : v_1 = (0 : Int32)
  · have hf := mo_pos hf c_2
    obtain ⟨rfl, rfl⟩ := mo_pair hf
    exact ⟨6, (h_7_hasSpeaker_9 pt ps pg pr s (a0) v_1 s_1 _ hr_1 (And.intro (fun _ => hK) (fun q => absurd c_2 q)))⟩
  · have hf := mo_neg hf c_2
    obtain ⟨x_3, hx_3, hf⟩ := mo_bind hf
    obtain ⟨hi_3, rfl⟩ := mo_ag_inv hx_3
    obtain ⟨rfl, rfl⟩ := mo_pair hf
    exact ⟨10, (h_7_hasSpeaker_9 pt ps pg pr s (a0) v_1 s_1 _ hr_1 (And.intro (fun q => absurd q c_2) (fun _ => (And.intro hi_3 hK))))⟩
def xk_7_tongueOf_9 (C : mm_C) : Prop := ∀ (pt : Value) (ps : Value) (pg : Value) (pr : Value) (s : xs_S) (a0 : Int32) (v : Int32) (s2 : xs_S) (Q : mm_R), xf_7_tongueOf_9 s a0 = some (v, s2) → Q (some (.int v)) (xs_H pt ps pg pr s2) → C 194 [.ref 9, .int a0] (xs_H pt ps pg pr s) Q
-- 3_reckon
noncomputable def xf_3_reckon (a0 : Int32) (a1 : Int32) (a2 : Int32) : Option (Int32) :=
(if a0 = (20000 : Int32) then
some ((a1 + a2))
else
(if a0 = (20001 : Int32) then
some ((a1 - a2))
else
(if a0 = (20002 : Int32) then
some ((a1 * a2))
else
(if a2 = (0 : Int32) then
some ((0 : Int32))
else
(if a2 = 0 then none else some ((a1 / a2)))))))
set_option maxHeartbeats 4000000 in
theorem xb_3_reckon {C : mm_C} {Q : mm_R}  {h : mm_H} (a0 : Int32) (a1 : Int32) (a2 : Int32) (v : Int32) (hf : xf_3_reckon a0 a1 a2 = some v) (hK : Q (some (.int v)) h) : mm_go C mm_Mk mm_Fk P_X3_reckon Q P_X3_reckon [(0, .int a0), (1, .int a1), (2, .int a2)] [] h 0 0 := by
  unfold xf_3_reckon at hf
  by_cases c_1_0 : a0 = (20000 : Int32)
  · have hf := mo_pos hf c_1_0
    obtain rfl := Option.some.inj hf
    exact ⟨6, (And.intro (fun _ => hK) (fun q => absurd c_1_0 q))⟩
  replace hf := mo_neg hf c_1_0
  by_cases c_1_1 : a0 = (20001 : Int32)
  · have hf := mo_pos hf c_1_1
    obtain rfl := Option.some.inj hf
    exact ⟨6, (And.intro (fun q => absurd q c_1_0) (fun _ => (And.intro (fun _ => hK) (fun q => absurd c_1_1 q))))⟩
  replace hf := mo_neg hf c_1_1
  by_cases c_1_2 : a0 = (20002 : Int32)
  · have hf := mo_pos hf c_1_2
    obtain rfl := Option.some.inj hf
    exact ⟨6, (And.intro (fun q => absurd q c_1_0) (fun _ => (And.intro (fun q => absurd q c_1_1) (fun _ => (And.intro (fun _ => hK) (fun q => absurd c_1_2 q))))))⟩
  replace hf := mo_neg hf c_1_2
  by_cases c_2 : a2 = (0 : Int32)
  · have hf := mo_pos hf c_2
    obtain rfl := Option.some.inj hf
    exact ⟨7, (And.intro (fun q => absurd q c_1_0) (fun _ => (And.intro (fun q => absurd q c_1_1) (fun _ => (And.intro (fun q => absurd q c_1_2) (fun _ => (And.intro (fun q => absurd c_2 q) (fun _ => hK))))))))⟩
  · have hf := mo_neg hf c_2
    obtain ⟨hz_3, hf⟩ := mo_nz hf
    obtain rfl := Option.some.inj hf
    exact ⟨8, (And.intro (fun q => absurd q c_1_0) (fun _ => (And.intro (fun q => absurd q c_1_1) (fun _ => (And.intro (fun q => absurd q c_1_2) (fun _ => (And.intro (fun _ => (And.intro hz_3 hK)) (fun q => absurd c_2 q))))))))⟩
def xk_3_reckon (C : mm_C) : Prop := ∀ (h : mm_H) (a0 : Int32) (a1 : Int32) (a2 : Int32) (v : Int32) (Q : mm_R), xf_3_reckon a0 a1 a2 = some v → Q (some (.int v)) h → C 156 [.int a0, .int a1, .int a2] h Q
-- 3_untold_12
noncomputable def xf_3_untold_12 (s : xs_S) (a0 : Int32) : Option (Int32 × xs_S) :=
(if a0 = (0 : Int32) then
some (((s.2.1 15) 0), s)
else
(if a0 = (1 : Int32) then
some (((s.2.1 15) 1), s)
else
some ((0 : Int32), s)))
set_option maxHeartbeats 4000000 in
theorem xb_3_untold_12 {C : mm_C} {Q : mm_R} {pt : Value} {ps : Value} {pg : Value} {pr : Value}  (s : xs_S) (a0 : Int32) (v : Int32) (s2 : xs_S) (hf : xf_3_untold_12 s a0 = some (v, s2)) (hK : Q (some (.int v)) (xs_H pt ps pg pr s2)) : mm_go C mm_Mk mm_Fk P_X3_untold Q P_X3_untold [(0, .ref 12), (1, .int a0)] [] (xs_H pt ps pg pr s) 0 0 := by
  unfold xf_3_untold_12 at hf
  by_cases c_1 : a0 = (0 : Int32)
  · have hf := mo_pos hf c_1
    obtain ⟨rfl, rfl⟩ := mo_pair hf
    exact ⟨7, (And.intro (fun q => absurd c_1 q) (fun _ => (And.intro (mm_vi rfl) hK)))⟩
  · have hf := mo_neg hf c_1
    by_cases c_2 : a0 = (1 : Int32)
    · have hf := mo_pos hf c_2
      obtain ⟨rfl, rfl⟩ := mo_pair hf
      exact ⟨11, (And.intro (fun _ => (And.intro (fun q => absurd c_2 q) (fun _ => (And.intro (mm_vi rfl) hK)))) (fun q => absurd c_1 q))⟩
    · have hf := mo_neg hf c_2
      obtain ⟨rfl, rfl⟩ := mo_pair hf
      exact ⟨7, (And.intro (fun _ => (And.intro (fun _ => hK) (fun q => absurd c_2 q))) (fun q => absurd c_1 q))⟩
def xk_3_untold_12 (C : mm_C) : Prop := ∀ (pt : Value) (ps : Value) (pg : Value) (pr : Value) (s : xs_S) (a0 : Int32) (v : Int32) (s2 : xs_S) (Q : mm_R), xf_3_untold_12 s a0 = some (v, s2) → Q (some (.int v)) (xs_H pt ps pg pr s2) → C 155 [.ref 12, .int a0] (xs_H pt ps pg pr s) Q
-- 3_value_12
noncomputable def xf_3_value_12_j128 (s : xs_S) (v2 : Int32) (v3 : Int32) (v4 : Int32) : Option ((Int32 × Int32 × Int32 × xs_S) ⊕ ((Int32 × xs_S) ⊕ (xs_S) ⊕ (xs_S) ⊕ (xs_S) ⊕ (xs_S))) :=
some (.inl (v2, v3, (v4 + (1 : Int32)), s))
set_option maxHeartbeats 4000000 in
theorem xb_3_value_12_j128 {C : mm_C} {Q : mm_R} {pt : Value} {ps : Value} {pg : Value} {pr : Value} (h_3_reckon : xk_3_reckon C) (h_3_untold_12 : xk_3_untold_12 C) (s : xs_S) (v2 : Int32) (v3 : Int32) (v4 : Int32) (r : (Int32 × Int32 × Int32 × xs_S) ⊕ ((Int32 × xs_S) ⊕ (xs_S) ⊕ (xs_S) ⊕ (xs_S) ⊕ (xs_S))) (hf : xf_3_value_12_j128 s v2 v3 v4 = some r) (hK : mo_sum (mo_c2 (fun y2 => (mo_c2 (fun y3 => (mo_c2 (fun y4 sy => mm_go C mm_Mk mm_Fk P_X3_value Q (P_X3_value.drop 15) [(0, .ref 12), (2, .int y2), (3, .int y3), (4, .int y4)] [] (xs_H pt ps pg pr sy) 0 0))))))  (mo_sum (mo_c2 (fun y3 sy => mm_go C mm_Mk mm_Fk P_X3_value Q (P_X3_value.drop 33) [(0, .ref 12), (3, .int y3)] [] (xs_H pt ps pg pr sy) 0 0)) (mo_sum (fun sy => mm_go C mm_Mk mm_Fk P_X3_value Q (P_X3_value.drop 51) [] [] (xs_H pt ps pg pr sy) 0 0) (mo_sum (fun sy => mm_go C mm_Mk mm_Fk P_X3_value Q (P_X3_value.drop 77) [] [] (xs_H pt ps pg pr sy) 0 0) (mo_sum (fun sy => mm_go C mm_Mk mm_Fk P_X3_value Q (P_X3_value.drop 115) [] [] (xs_H pt ps pg pr sy) 0 0) (fun sy => mm_go C mm_Mk mm_Fk P_X3_value Q (P_X3_value.drop 130) [] [] (xs_H pt ps pg pr sy) 0 0)))))  r) : mm_go C mm_Mk mm_Fk P_X3_value Q (P_X3_value.drop 128) [(0, .ref 12), (2, .int v2), (3, .int v3), (4, .int v4)] [] (xs_H pt ps pg pr s) 0 0 := by
  unfold xf_3_value_12_j128 at hf
  obtain rfl := Option.some.inj hf
  refine mm_adv 2 (cs' := P_X3_value.drop 15) (l' := [(4, .int (v4 + (1 : Int32))), (0, .ref 12), (2, .int v2), (3, .int v3)]) (st' := []) (h' := (xs_H pt ps pg pr s)) (bc' := 0) (bs' := 0) (fun n g => g) ?_
  exact mm_re (c := [(0, .ref 12), (2, .int v2), (3, .int v3), (4, .int (v4 + (1 : Int32)))]) hK rfl rfl
noncomputable def xf_3_value_12_j108 (s : xs_S) (v3 : Int32) (v4 : Int32) (k0 : Int32) : Option ((Int32 × Int32 × Int32 × xs_S) ⊕ ((Int32 × xs_S) ⊕ (xs_S) ⊕ (xs_S) ⊕ (xs_S) ⊕ (xs_S))) :=
(xf_3_value_12_j128 (s) (k0) (v3) (v4))
set_option maxHeartbeats 4000000 in
theorem xb_3_value_12_j108 {C : mm_C} {Q : mm_R} {pt : Value} {ps : Value} {pg : Value} {pr : Value} (h_3_reckon : xk_3_reckon C) (h_3_untold_12 : xk_3_untold_12 C) (s : xs_S) (v3 : Int32) (v4 : Int32) (k0 : Int32) (r : (Int32 × Int32 × Int32 × xs_S) ⊕ ((Int32 × xs_S) ⊕ (xs_S) ⊕ (xs_S) ⊕ (xs_S) ⊕ (xs_S))) (hf : xf_3_value_12_j108 s v3 v4 k0 = some r) (hK : mo_sum (mo_c2 (fun y2 => (mo_c2 (fun y3 => (mo_c2 (fun y4 sy => mm_go C mm_Mk mm_Fk P_X3_value Q (P_X3_value.drop 15) [(0, .ref 12), (2, .int y2), (3, .int y3), (4, .int y4)] [] (xs_H pt ps pg pr sy) 0 0))))))  (mo_sum (mo_c2 (fun y3 sy => mm_go C mm_Mk mm_Fk P_X3_value Q (P_X3_value.drop 33) [(0, .ref 12), (3, .int y3)] [] (xs_H pt ps pg pr sy) 0 0)) (mo_sum (fun sy => mm_go C mm_Mk mm_Fk P_X3_value Q (P_X3_value.drop 51) [] [] (xs_H pt ps pg pr sy) 0 0) (mo_sum (fun sy => mm_go C mm_Mk mm_Fk P_X3_value Q (P_X3_value.drop 77) [] [] (xs_H pt ps pg pr sy) 0 0) (mo_sum (fun sy => mm_go C mm_Mk mm_Fk P_X3_value Q (P_X3_value.drop 115) [] [] (xs_H pt ps pg pr sy) 0 0) (fun sy => mm_go C mm_Mk mm_Fk P_X3_value Q (P_X3_value.drop 130) [] [] (xs_H pt ps pg pr sy) 0 0)))))  r) : mm_go C mm_Mk mm_Fk P_X3_value Q (P_X3_value.drop 108) [(0, .ref 12), (3, .int v3), (4, .int v4)] [.int k0] (xs_H pt ps pg pr s) 0 0 := by
  unfold xf_3_value_12_j108 at hf
  refine mm_adv 2 (cs' := P_X3_value.drop 128) (l' := [(2, .int k0), (0, .ref 12), (3, .int v3), (4, .int v4)]) (st' := []) (h' := (xs_H pt ps pg pr s)) (bc' := 0) (bs' := 0) (fun n g => g) ?_
  refine mm_re (l' := [(0, .ref 12), (2, .int k0), (3, .int v3), (4, .int v4)]) (c := [(0, .ref 12), (2, .int k0), (3, .int v3), (4, .int v4)]) ?_ rfl rfl
  exact xb_3_value_12_j128 h_3_reckon h_3_untold_12 s (k0) (v3) (v4) _ hf hK
noncomputable def xf_3_value_12_j117 (s : xs_S) (v2 : Int32) (v3 : Int32) (v4 : Int32) (v5 : Int32) (v6 : Int32) (v7 : Int32) : Option ((Int32 × Int32 × Int32 × xs_S) ⊕ ((Int32 × xs_S) ⊕ (xs_S) ⊕ (xs_S) ⊕ (xs_S) ⊕ (xs_S))) :=
((xf_3_reckon (v5) (v6) (v7)).bind fun v_17 =>
(bif mo_in ((v3 + (-1 : Int32)) - (1 : Int32)) 24 then (xf_3_value_12_j128 ((xs_sA s 16 (upd (s.2.1 16) (((v3 + (-1 : Int32)) - (1 : Int32))).toNatClampNeg (v_17)))) (v2) ((v3 + (-1 : Int32))) (v4)) else none))
set_option maxHeartbeats 4000000 in
theorem xb_3_value_12_j117 {C : mm_C} {Q : mm_R} {pt : Value} {ps : Value} {pg : Value} {pr : Value} (h_3_reckon : xk_3_reckon C) (h_3_untold_12 : xk_3_untold_12 C) (s : xs_S) (v2 : Int32) (v3 : Int32) (v4 : Int32) (v5 : Int32) (v6 : Int32) (v7 : Int32) (r : (Int32 × Int32 × Int32 × xs_S) ⊕ ((Int32 × xs_S) ⊕ (xs_S) ⊕ (xs_S) ⊕ (xs_S) ⊕ (xs_S))) (hf : xf_3_value_12_j117 s v2 v3 v4 v5 v6 v7 = some r) (hK : mo_sum (mo_c2 (fun y2 => (mo_c2 (fun y3 => (mo_c2 (fun y4 sy => mm_go C mm_Mk mm_Fk P_X3_value Q (P_X3_value.drop 15) [(0, .ref 12), (2, .int y2), (3, .int y3), (4, .int y4)] [] (xs_H pt ps pg pr sy) 0 0))))))  (mo_sum (mo_c2 (fun y3 sy => mm_go C mm_Mk mm_Fk P_X3_value Q (P_X3_value.drop 33) [(0, .ref 12), (3, .int y3)] [] (xs_H pt ps pg pr sy) 0 0)) (mo_sum (fun sy => mm_go C mm_Mk mm_Fk P_X3_value Q (P_X3_value.drop 51) [] [] (xs_H pt ps pg pr sy) 0 0) (mo_sum (fun sy => mm_go C mm_Mk mm_Fk P_X3_value Q (P_X3_value.drop 77) [] [] (xs_H pt ps pg pr sy) 0 0) (mo_sum (fun sy => mm_go C mm_Mk mm_Fk P_X3_value Q (P_X3_value.drop 115) [] [] (xs_H pt ps pg pr sy) 0 0) (fun sy => mm_go C mm_Mk mm_Fk P_X3_value Q (P_X3_value.drop 130) [] [] (xs_H pt ps pg pr sy) 0 0)))))  r) : mm_go C mm_Mk mm_Fk P_X3_value Q (P_X3_value.drop 117) [(0, .ref 12), (2, .int v2), (3, .int v3), (4, .int v4), (5, .int v5), (6, .int v6), (7, .int v7)] [] (xs_H pt ps pg pr s) 0 0 := by
  unfold xf_3_value_12_j117 at hf
  obtain ⟨v_17, hr_17, hf⟩ := mo_bind hf
  obtain ⟨hi_18, hf⟩ := mo_if hf
  refine mm_adv 11 (cs' := P_X3_value.drop 128) (l' := [(3, .int (v3 + (-1 : Int32))), (0, .ref 12), (2, .int v2), (4, .int v4), (5, .int v5), (6, .int v6), (7, .int v7)]) (st' := []) (h' := (xs_H pt ps pg pr (xs_sA s 16 (upd (s.2.1 16) (((v3 + (-1 : Int32)) - (1 : Int32))).toNatClampNeg (v_17))))) (bc' := 0) (bs' := 0) (fun n g => (h_3_reckon _ (v5) (v6) (v7) v_17 _ hr_17 (And.intro hi_18 g))) ?_
  refine mm_re (l' := [(0, .ref 12), (2, .int v2), (3, .int (v3 + (-1 : Int32))), (4, .int v4)]) (c := [(0, .ref 12), (2, .int v2), (3, .int (v3 + (-1 : Int32))), (4, .int v4)]) ?_ rfl rfl
  exact xb_3_value_12_j128 h_3_reckon h_3_untold_12 (xs_sA s 16 (upd (s.2.1 16) (((v3 + (-1 : Int32)) - (1 : Int32))).toNatClampNeg (v_17))) (v2) ((v3 + (-1 : Int32))) (v4) _ hf hK
noncomputable def xf_3_value_12_j67 (s : xs_S) (v2 : Int32) (v3 : Int32) (v4 : Int32) (k0 : Int32) (k1 : Int32) : Option ((Int32 × Int32 × Int32 × xs_S) ⊕ ((Int32 × xs_S) ⊕ (xs_S) ⊕ (xs_S) ⊕ (xs_S) ⊕ (xs_S))) :=
(bif mo_in k1 24 then (xf_3_value_12_j128 ((xs_sA s 16 (upd (s.2.1 16) (k1).toNatClampNeg (k0)))) (v2) ((v3 + (1 : Int32))) (v4)) else none)
set_option maxHeartbeats 4000000 in
theorem xb_3_value_12_j67 {C : mm_C} {Q : mm_R} {pt : Value} {ps : Value} {pg : Value} {pr : Value} (h_3_reckon : xk_3_reckon C) (h_3_untold_12 : xk_3_untold_12 C) (s : xs_S) (v2 : Int32) (v3 : Int32) (v4 : Int32) (k0 : Int32) (k1 : Int32) (r : (Int32 × Int32 × Int32 × xs_S) ⊕ ((Int32 × xs_S) ⊕ (xs_S) ⊕ (xs_S) ⊕ (xs_S) ⊕ (xs_S))) (hf : xf_3_value_12_j67 s v2 v3 v4 k0 k1 = some r) (hK : mo_sum (mo_c2 (fun y2 => (mo_c2 (fun y3 => (mo_c2 (fun y4 sy => mm_go C mm_Mk mm_Fk P_X3_value Q (P_X3_value.drop 15) [(0, .ref 12), (2, .int y2), (3, .int y3), (4, .int y4)] [] (xs_H pt ps pg pr sy) 0 0))))))  (mo_sum (mo_c2 (fun y3 sy => mm_go C mm_Mk mm_Fk P_X3_value Q (P_X3_value.drop 33) [(0, .ref 12), (3, .int y3)] [] (xs_H pt ps pg pr sy) 0 0)) (mo_sum (fun sy => mm_go C mm_Mk mm_Fk P_X3_value Q (P_X3_value.drop 51) [] [] (xs_H pt ps pg pr sy) 0 0) (mo_sum (fun sy => mm_go C mm_Mk mm_Fk P_X3_value Q (P_X3_value.drop 77) [] [] (xs_H pt ps pg pr sy) 0 0) (mo_sum (fun sy => mm_go C mm_Mk mm_Fk P_X3_value Q (P_X3_value.drop 115) [] [] (xs_H pt ps pg pr sy) 0 0) (fun sy => mm_go C mm_Mk mm_Fk P_X3_value Q (P_X3_value.drop 130) [] [] (xs_H pt ps pg pr sy) 0 0)))))  r) : mm_go C mm_Mk mm_Fk P_X3_value Q (P_X3_value.drop 67) [(0, .ref 12), (2, .int v2), (3, .int v3), (4, .int v4)] [.int k0, .int k1, .ref 16] (xs_H pt ps pg pr s) 0 0 := by
  unfold xf_3_value_12_j67 at hf
  obtain ⟨hi_22, hf⟩ := mo_if hf
  refine mm_adv 3 (cs' := P_X3_value.drop 128) (l' := [(3, .int (v3 + (1 : Int32))), (0, .ref 12), (2, .int v2), (4, .int v4)]) (st' := []) (h' := (xs_H pt ps pg pr (xs_sA s 16 (upd (s.2.1 16) (k1).toNatClampNeg (k0))))) (bc' := 0) (bs' := 0) (fun n g => (And.intro hi_22 g)) ?_
  refine mm_re (l' := [(0, .ref 12), (2, .int v2), (3, .int (v3 + (1 : Int32))), (4, .int v4)]) (c := [(0, .ref 12), (2, .int v2), (3, .int (v3 + (1 : Int32))), (4, .int v4)]) ?_ rfl rfl
  exact xb_3_value_12_j128 h_3_reckon h_3_untold_12 (xs_sA s 16 (upd (s.2.1 16) (k1).toNatClampNeg (k0))) (v2) ((v3 + (1 : Int32))) (v4) _ hf hK
noncomputable def xf_3_value_12_l15  : (Int32 × Int32 × Int32 × xs_S) → Option ((Int32 × Int32 × Int32 × xs_S) ⊕ ((Int32 × xs_S) ⊕ (xs_S) ⊕ (xs_S) ⊕ (xs_S) ⊕ (xs_S))) := fun (w2, w3, w4, s) =>
(if (Int32.ofNat 401) ≤ w4 then
some (.inr (.inr (.inr (.inr (.inr (s))))))
else
(if (s.1 193) ≤ w2 then
some (.inr (.inr (.inr (.inr (.inr (s))))))
else
((mo_ag 401 (s.2.1 13) w2).bind fun x_5 =>
(if x_5 = (20005 : Int32) then
some (.inr (.inl (w3, s)))
else
(if (20000 : Int32) ≤ x_5 then
(if w3 < (2 : Int32) then
some (.inr (.inr (.inr (.inl (s)))))
else
(if (w2 + (1 : Int32)) < (s.1 193) then
((mo_ag 24 (s.2.1 16) (w3 - (2 : Int32))).bind fun x_10 =>
((mo_ag 24 (s.2.1 16) (w3 - (1 : Int32))).bind fun x_11 =>
(if x_5 = (20004 : Int32) then
(if x_11 ≤ x_10 then
((mo_ag 401 (s.2.1 13) (w2 + (1 : Int32))).bind fun x_14 =>
(xf_3_value_12_j108 (s) ((w3 + (-2 : Int32))) (w4) (x_14)))
else
(xf_3_value_12_j108 (s) ((w3 + (-2 : Int32))) (w4) (((w2 + (1 : Int32)) + (1 : Int32)))))
else
(if x_5 = (20003 : Int32) then
(if x_11 = (0 : Int32) then
some (.inr (.inr (.inr (.inr (.inl (s))))))
else
(xf_3_value_12_j117 (s) ((w2 + (1 : Int32))) (w3) (w4) (x_5) (x_10) (x_11)))
else
(xf_3_value_12_j117 (s) ((w2 + (1 : Int32))) (w3) (w4) (x_5) (x_10) (x_11))))))
else
some (.inr (.inr (.inr (.inl (s)))))))
else
(if w3 < (24 : Int32) then
(if (10000 : Int32) ≤ x_5 then
((mo_ag 9 (s.2.1 15) (x_5 - (10000 : Int32))).bind fun x_21 =>
(xf_3_value_12_j67 (s) ((w2 + (1 : Int32))) (w3) (w4) (x_21) (w3)))
else
(xf_3_value_12_j67 (s) ((w2 + (1 : Int32))) (w3) (w4) (x_5) (w3)))
else
some (.inr (.inr (.inl (s))))))))))
set_option maxHeartbeats 4000000 in
theorem xb_3_value_12_l15 {C : mm_C} {Q : mm_R} {pt : Value} {ps : Value} {pg : Value} {pr : Value} (h_3_reckon : xk_3_reckon C) (h_3_untold_12 : xk_3_untold_12 C)  (t : Int32 × Int32 × Int32 × xs_S) (x : (Int32 × xs_S) ⊕ (xs_S) ⊕ (xs_S) ⊕ (xs_S) ⊕ (xs_S)) (hl : mo_loop (xf_3_value_12_l15 ) t = some x) (hK : (mo_sum (mo_c2 (fun y3 sy => mm_go C mm_Mk mm_Fk P_X3_value Q (P_X3_value.drop 33) [(0, .ref 12), (3, .int y3)] [] (xs_H pt ps pg pr sy) 0 0)) (mo_sum (fun sy => mm_go C mm_Mk mm_Fk P_X3_value Q (P_X3_value.drop 51) [] [] (xs_H pt ps pg pr sy) 0 0) (mo_sum (fun sy => mm_go C mm_Mk mm_Fk P_X3_value Q (P_X3_value.drop 77) [] [] (xs_H pt ps pg pr sy) 0 0) (mo_sum (fun sy => mm_go C mm_Mk mm_Fk P_X3_value Q (P_X3_value.drop 115) [] [] (xs_H pt ps pg pr sy) 0 0) (fun sy => mm_go C mm_Mk mm_Fk P_X3_value Q (P_X3_value.drop 130) [] [] (xs_H pt ps pg pr sy) 0 0))))) x) : (mo_c2 (fun y2 => (mo_c2 (fun y3 => (mo_c2 (fun y4 sy => mm_go C mm_Mk mm_Fk P_X3_value Q (P_X3_value.drop 15) [(0, .ref 12), (2, .int y2), (3, .int y3), (4, .int y4)] [] (xs_H pt ps pg pr sy) 0 0)))))) t := by
  refine mo_loop_go (G := (mo_c2 (fun y2 => (mo_c2 (fun y3 => (mo_c2 (fun y4 sy => mm_go C mm_Mk mm_Fk P_X3_value Q (P_X3_value.drop 15) [(0, .ref 12), (2, .int y2), (3, .int y3), (4, .int y4)] [] (xs_H pt ps pg pr sy) 0 0)))))) ) (K := (mo_sum (mo_c2 (fun y3 sy => mm_go C mm_Mk mm_Fk P_X3_value Q (P_X3_value.drop 33) [(0, .ref 12), (3, .int y3)] [] (xs_H pt ps pg pr sy) 0 0)) (mo_sum (fun sy => mm_go C mm_Mk mm_Fk P_X3_value Q (P_X3_value.drop 51) [] [] (xs_H pt ps pg pr sy) 0 0) (mo_sum (fun sy => mm_go C mm_Mk mm_Fk P_X3_value Q (P_X3_value.drop 77) [] [] (xs_H pt ps pg pr sy) 0 0) (mo_sum (fun sy => mm_go C mm_Mk mm_Fk P_X3_value Q (P_X3_value.drop 115) [] [] (xs_H pt ps pg pr sy) 0 0) (fun sy => mm_go C mm_Mk mm_Fk P_X3_value Q (P_X3_value.drop 130) [] [] (xs_H pt ps pg pr sy) 0 0))))) ) ?_ t x hl hK
  intro t r hf hK
  obtain ⟨w2, w3, w4, s⟩ := t
  unfold xf_3_value_12_l15 at hf
  by_cases c_3 : (Int32.ofNat 401) ≤ w4
  · have hf := mo_pos hf c_3
    obtain rfl := Option.some.inj hf
    refine mm_adv 5 (cs' := P_X3_value.drop 130) (l' := [(0, .ref 12), (2, .int w2), (3, .int w3), (4, .int w4)]) (st' := []) (h' := (xs_H pt ps pg pr s)) (bc' := 0) (bs' := 0) (fun n g => (And.intro (fun _ => g) (fun q => absurd c_3 q))) ?_
    exact mm_re (c := []) hK rfl rfl
  · have hf := mo_neg hf c_3
    by_cases c_4 : (s.1 193) ≤ w2
    · have hf := mo_pos hf c_4
      obtain rfl := Option.some.inj hf
      refine mm_adv 9 (cs' := P_X3_value.drop 130) (l' := [(0, .ref 12), (2, .int w2), (3, .int w3), (4, .int w4)]) (st' := []) (h' := (xs_H pt ps pg pr s)) (bc' := 0) (bs' := 0) (fun n g => (And.intro (fun q => absurd q c_3) (fun _ => (And.intro (fun _ => g) (fun q => absurd c_4 q))))) ?_
      exact mm_re (c := []) hK rfl rfl
    · have hf := mo_neg hf c_4
      obtain ⟨x_5, hx_5, hf⟩ := mo_bind hf
      obtain ⟨hi_5, rfl⟩ := mo_ag_inv hx_5
      by_cases c_6 : ((s.2.1 13) (w2).toNatClampNeg) = (20005 : Int32)
      · have hf := mo_pos hf c_6
        obtain rfl := Option.some.inj hf
        refine mm_adv 18 (cs' := P_X3_value.drop 33) (l' := [(2, .int (w2 + (1 : Int32))), (5, .int ((s.2.1 13) (w2).toNatClampNeg)), (0, .ref 12), (3, .int w3), (4, .int w4)]) (st' := []) (h' := (xs_H pt ps pg pr s)) (bc' := 0) (bs' := 0) (fun n g => (And.intro (fun q => absurd q c_3) (fun _ => (And.intro (fun q => absurd q c_4) (fun _ => (And.intro hi_5 (And.intro (fun q => absurd c_6 q) (fun _ => g)))))))) ?_
        exact mm_re (c := [(0, .ref 12), (3, .int w3)]) hK rfl rfl
      · have hf := mo_neg hf c_6
        by_cases c_7 : (20000 : Int32) ≤ ((s.2.1 13) (w2).toNatClampNeg)
        · have hf := mo_pos hf c_7
          by_cases c_8 : w3 < (2 : Int32)
          · have hf := mo_pos hf c_8
            obtain rfl := Option.some.inj hf
            refine mm_adv 24 (cs' := P_X3_value.drop 77) (l' := [(2, .int (w2 + (1 : Int32))), (5, .int ((s.2.1 13) (w2).toNatClampNeg)), (0, .ref 12), (3, .int w3), (4, .int w4)]) (st' := []) (h' := (xs_H pt ps pg pr s)) (bc' := 0) (bs' := 0) (fun n g => (And.intro (fun q => absurd q c_3) (fun _ => (And.intro (fun q => absurd q c_4) (fun _ => (And.intro hi_5 (And.intro (fun _ => (And.intro (fun _ => (And.intro (fun _ => g) (fun q => absurd c_8 q))) (fun q => absurd c_7 q))) (fun q => absurd c_6 q)))))))) ?_
            exact mm_re (c := []) hK rfl rfl
          · have hf := mo_neg hf c_8
            by_cases c_9 : (w2 + (1 : Int32)) < (s.1 193)
            · have hf := mo_pos hf c_9
              obtain ⟨x_10, hx_10, hf⟩ := mo_bind hf
              obtain ⟨hi_10, rfl⟩ := mo_ag_inv hx_10
              obtain ⟨x_11, hx_11, hf⟩ := mo_bind hf
              obtain ⟨hi_11, rfl⟩ := mo_ag_inv hx_11
              by_cases c_12 : ((s.2.1 13) (w2).toNatClampNeg) = (20004 : Int32)
              · have hf := mo_pos hf c_12
                by_cases c_13 : ((s.2.1 16) ((w3 - (1 : Int32))).toNatClampNeg) ≤ ((s.2.1 16) ((w3 - (2 : Int32))).toNatClampNeg)
                · have hf := mo_pos hf c_13
                  obtain ⟨x_14, hx_14, hf⟩ := mo_bind hf
                  obtain ⟨hi_14, rfl⟩ := mo_ag_inv hx_14
                  refine mm_adv 53 (cs' := P_X3_value.drop 108) (l' := [(3, .int (w3 + (-2 : Int32))), (7, .int ((s.2.1 16) ((w3 - (1 : Int32))).toNatClampNeg)), (6, .int ((s.2.1 16) ((w3 - (2 : Int32))).toNatClampNeg)), (2, .int (w2 + (1 : Int32))), (5, .int ((s.2.1 13) (w2).toNatClampNeg)), (0, .ref 12), (4, .int w4)]) (st' := [.int ((s.2.1 13) ((w2 + (1 : Int32))).toNatClampNeg)]) (h' := (xs_H pt ps pg pr s)) (bc' := 0) (bs' := 0) (fun n g => (And.intro (fun q => absurd q c_3) (fun _ => (And.intro (fun q => absurd q c_4) (fun _ => (And.intro hi_5 (And.intro (fun _ => (And.intro (fun _ => (And.intro (fun q => absurd q c_8) (fun _ => (And.intro (fun _ => (And.intro hi_10 (And.intro hi_11 (And.intro (fun q => absurd c_12 q) (fun _ => (And.intro (fun _ => (And.intro hi_14 g)) (fun q => absurd c_13 q))))))) (fun q => absurd c_9 q))))) (fun q => absurd c_7 q))) (fun q => absurd c_6 q)))))))) ?_
                  refine mm_re (l' := [(0, .ref 12), (3, .int (w3 + (-2 : Int32))), (4, .int w4)]) (c := [(0, .ref 12), (3, .int (w3 + (-2 : Int32))), (4, .int w4)]) ?_ rfl rfl
                  exact xb_3_value_12_j108 h_3_reckon h_3_untold_12 s ((w3 + (-2 : Int32))) (w4) (((s.2.1 13) ((w2 + (1 : Int32))).toNatClampNeg)) _ hf hK
                · have hf := mo_neg hf c_13
                  refine mm_adv 53 (cs' := P_X3_value.drop 108) (l' := [(3, .int (w3 + (-2 : Int32))), (7, .int ((s.2.1 16) ((w3 - (1 : Int32))).toNatClampNeg)), (6, .int ((s.2.1 16) ((w3 - (2 : Int32))).toNatClampNeg)), (2, .int (w2 + (1 : Int32))), (5, .int ((s.2.1 13) (w2).toNatClampNeg)), (0, .ref 12), (4, .int w4)]) (st' := [.int ((w2 + (1 : Int32)) + (1 : Int32))]) (h' := (xs_H pt ps pg pr s)) (bc' := 0) (bs' := 0) (fun n g => (And.intro (fun q => absurd q c_3) (fun _ => (And.intro (fun q => absurd q c_4) (fun _ => (And.intro hi_5 (And.intro (fun _ => (And.intro (fun _ => (And.intro (fun q => absurd q c_8) (fun _ => (And.intro (fun _ => (And.intro hi_10 (And.intro hi_11 (And.intro (fun q => absurd c_12 q) (fun _ => (And.intro (fun q => absurd q c_13) (fun _ => g))))))) (fun q => absurd c_9 q))))) (fun q => absurd c_7 q))) (fun q => absurd c_6 q)))))))) ?_
                  refine mm_re (l' := [(0, .ref 12), (3, .int (w3 + (-2 : Int32))), (4, .int w4)]) (c := [(0, .ref 12), (3, .int (w3 + (-2 : Int32))), (4, .int w4)]) ?_ rfl rfl
                  exact xb_3_value_12_j108 h_3_reckon h_3_untold_12 s ((w3 + (-2 : Int32))) (w4) (((w2 + (1 : Int32)) + (1 : Int32))) _ hf hK
              · have hf := mo_neg hf c_12
                by_cases c_15 : ((s.2.1 13) (w2).toNatClampNeg) = (20003 : Int32)
                · have hf := mo_pos hf c_15
                  by_cases c_16 : ((s.2.1 16) ((w3 - (1 : Int32))).toNatClampNeg) = (0 : Int32)
                  · have hf := mo_pos hf c_16
                    obtain rfl := Option.some.inj hf
                    refine mm_adv 50 (cs' := P_X3_value.drop 115) (l' := [(7, .int ((s.2.1 16) ((w3 - (1 : Int32))).toNatClampNeg)), (6, .int ((s.2.1 16) ((w3 - (2 : Int32))).toNatClampNeg)), (2, .int (w2 + (1 : Int32))), (5, .int ((s.2.1 13) (w2).toNatClampNeg)), (0, .ref 12), (3, .int w3), (4, .int w4)]) (st' := []) (h' := (xs_H pt ps pg pr s)) (bc' := 0) (bs' := 0) (fun n g => (And.intro (fun q => absurd q c_3) (fun _ => (And.intro (fun q => absurd q c_4) (fun _ => (And.intro hi_5 (And.intro (fun _ => (And.intro (fun _ => (And.intro (fun q => absurd q c_8) (fun _ => (And.intro (fun _ => (And.intro hi_10 (And.intro hi_11 (And.intro (fun _ => (And.intro (fun q => absurd c_15 q) (fun _ => (And.intro (fun q => absurd c_16 q) (fun _ => g))))) (fun q => absurd c_12 q))))) (fun q => absurd c_9 q))))) (fun q => absurd c_7 q))) (fun q => absurd c_6 q)))))))) ?_
                    exact mm_re (c := []) hK rfl rfl
                  · have hf := mo_neg hf c_16
                    refine mm_adv 50 (cs' := P_X3_value.drop 117) (l' := [(7, .int ((s.2.1 16) ((w3 - (1 : Int32))).toNatClampNeg)), (6, .int ((s.2.1 16) ((w3 - (2 : Int32))).toNatClampNeg)), (2, .int (w2 + (1 : Int32))), (5, .int ((s.2.1 13) (w2).toNatClampNeg)), (0, .ref 12), (3, .int w3), (4, .int w4)]) (st' := []) (h' := (xs_H pt ps pg pr s)) (bc' := 0) (bs' := 0) (fun n g => (And.intro (fun q => absurd q c_3) (fun _ => (And.intro (fun q => absurd q c_4) (fun _ => (And.intro hi_5 (And.intro (fun _ => (And.intro (fun _ => (And.intro (fun q => absurd q c_8) (fun _ => (And.intro (fun _ => (And.intro hi_10 (And.intro hi_11 (And.intro (fun _ => (And.intro (fun q => absurd c_15 q) (fun _ => (And.intro (fun _ => g) (fun q => absurd c_16 q))))) (fun q => absurd c_12 q))))) (fun q => absurd c_9 q))))) (fun q => absurd c_7 q))) (fun q => absurd c_6 q)))))))) ?_
                    refine mm_re (l' := [(0, .ref 12), (2, .int (w2 + (1 : Int32))), (3, .int w3), (4, .int w4), (5, .int ((s.2.1 13) (w2).toNatClampNeg)), (6, .int ((s.2.1 16) ((w3 - (2 : Int32))).toNatClampNeg)), (7, .int ((s.2.1 16) ((w3 - (1 : Int32))).toNatClampNeg))]) (c := [(0, .ref 12), (2, .int (w2 + (1 : Int32))), (3, .int w3), (4, .int w4), (5, .int ((s.2.1 13) (w2).toNatClampNeg)), (6, .int ((s.2.1 16) ((w3 - (2 : Int32))).toNatClampNeg)), (7, .int ((s.2.1 16) ((w3 - (1 : Int32))).toNatClampNeg))]) ?_ rfl rfl
                    exact xb_3_value_12_j117 h_3_reckon h_3_untold_12 s ((w2 + (1 : Int32))) (w3) (w4) (((s.2.1 13) (w2).toNatClampNeg)) (((s.2.1 16) ((w3 - (2 : Int32))).toNatClampNeg)) (((s.2.1 16) ((w3 - (1 : Int32))).toNatClampNeg)) _ hf hK
                · have hf := mo_neg hf c_15
                  refine mm_adv 48 (cs' := P_X3_value.drop 117) (l' := [(7, .int ((s.2.1 16) ((w3 - (1 : Int32))).toNatClampNeg)), (6, .int ((s.2.1 16) ((w3 - (2 : Int32))).toNatClampNeg)), (2, .int (w2 + (1 : Int32))), (5, .int ((s.2.1 13) (w2).toNatClampNeg)), (0, .ref 12), (3, .int w3), (4, .int w4)]) (st' := []) (h' := (xs_H pt ps pg pr s)) (bc' := 0) (bs' := 0) (fun n g => (And.intro (fun q => absurd q c_3) (fun _ => (And.intro (fun q => absurd q c_4) (fun _ => (And.intro hi_5 (And.intro (fun _ => (And.intro (fun _ => (And.intro (fun q => absurd q c_8) (fun _ => (And.intro (fun _ => (And.intro hi_10 (And.intro hi_11 (And.intro (fun _ => (And.intro (fun _ => g) (fun q => absurd c_15 q))) (fun q => absurd c_12 q))))) (fun q => absurd c_9 q))))) (fun q => absurd c_7 q))) (fun q => absurd c_6 q)))))))) ?_
                  refine mm_re (l' := [(0, .ref 12), (2, .int (w2 + (1 : Int32))), (3, .int w3), (4, .int w4), (5, .int ((s.2.1 13) (w2).toNatClampNeg)), (6, .int ((s.2.1 16) ((w3 - (2 : Int32))).toNatClampNeg)), (7, .int ((s.2.1 16) ((w3 - (1 : Int32))).toNatClampNeg))]) (c := [(0, .ref 12), (2, .int (w2 + (1 : Int32))), (3, .int w3), (4, .int w4), (5, .int ((s.2.1 13) (w2).toNatClampNeg)), (6, .int ((s.2.1 16) ((w3 - (2 : Int32))).toNatClampNeg)), (7, .int ((s.2.1 16) ((w3 - (1 : Int32))).toNatClampNeg))]) ?_ rfl rfl
                  exact xb_3_value_12_j117 h_3_reckon h_3_untold_12 s ((w2 + (1 : Int32))) (w3) (w4) (((s.2.1 13) (w2).toNatClampNeg)) (((s.2.1 16) ((w3 - (2 : Int32))).toNatClampNeg)) (((s.2.1 16) ((w3 - (1 : Int32))).toNatClampNeg)) _ hf hK
            · have hf := mo_neg hf c_9
              obtain rfl := Option.some.inj hf
              refine mm_adv 28 (cs' := P_X3_value.drop 77) (l' := [(2, .int (w2 + (1 : Int32))), (5, .int ((s.2.1 13) (w2).toNatClampNeg)), (0, .ref 12), (3, .int w3), (4, .int w4)]) (st' := []) (h' := (xs_H pt ps pg pr s)) (bc' := 0) (bs' := 0) (fun n g => (And.intro (fun q => absurd q c_3) (fun _ => (And.intro (fun q => absurd q c_4) (fun _ => (And.intro hi_5 (And.intro (fun _ => (And.intro (fun _ => (And.intro (fun q => absurd q c_8) (fun _ => (And.intro (fun q => absurd q c_9) (fun _ => g))))) (fun q => absurd c_7 q))) (fun q => absurd c_6 q)))))))) ?_
              exact mm_re (c := []) hK rfl rfl
        · have hf := mo_neg hf c_7
          by_cases c_19 : w3 < (24 : Int32)
          · have hf := mo_pos hf c_19
            by_cases c_20 : (10000 : Int32) ≤ ((s.2.1 13) (w2).toNatClampNeg)
            · have hf := mo_pos hf c_20
              obtain ⟨x_21, hx_21, hf⟩ := mo_bind hf
              obtain ⟨hi_21, rfl⟩ := mo_ag_inv hx_21
              refine mm_adv 36 (cs' := P_X3_value.drop 67) (l' := [(2, .int (w2 + (1 : Int32))), (5, .int ((s.2.1 13) (w2).toNatClampNeg)), (0, .ref 12), (3, .int w3), (4, .int w4)]) (st' := [.int ((s.2.1 15) ((((s.2.1 13) (w2).toNatClampNeg) - (10000 : Int32))).toNatClampNeg), .int w3, .ref 16]) (h' := (xs_H pt ps pg pr s)) (bc' := 0) (bs' := 0) (fun n g => (And.intro (fun q => absurd q c_3) (fun _ => (And.intro (fun q => absurd q c_4) (fun _ => (And.intro hi_5 (And.intro (fun _ => (And.intro (fun q => absurd q c_7) (fun _ => (And.intro (fun _ => (And.intro (fun _ => (And.intro hi_21 g)) (fun q => absurd c_20 q))) (fun q => absurd c_19 q))))) (fun q => absurd c_6 q)))))))) ?_
              refine mm_re (l' := [(0, .ref 12), (2, .int (w2 + (1 : Int32))), (3, .int w3), (4, .int w4)]) (c := [(0, .ref 12), (2, .int (w2 + (1 : Int32))), (3, .int w3), (4, .int w4)]) ?_ rfl rfl
              exact xb_3_value_12_j67 h_3_reckon h_3_untold_12 s ((w2 + (1 : Int32))) (w3) (w4) (((s.2.1 15) ((((s.2.1 13) (w2).toNatClampNeg) - (10000 : Int32))).toNatClampNeg)) (w3) _ hf hK
            · have hf := mo_neg hf c_20
              refine mm_adv 32 (cs' := P_X3_value.drop 67) (l' := [(2, .int (w2 + (1 : Int32))), (5, .int ((s.2.1 13) (w2).toNatClampNeg)), (0, .ref 12), (3, .int w3), (4, .int w4)]) (st' := [.int ((s.2.1 13) (w2).toNatClampNeg), .int w3, .ref 16]) (h' := (xs_H pt ps pg pr s)) (bc' := 0) (bs' := 0) (fun n g => (And.intro (fun q => absurd q c_3) (fun _ => (And.intro (fun q => absurd q c_4) (fun _ => (And.intro hi_5 (And.intro (fun _ => (And.intro (fun q => absurd q c_7) (fun _ => (And.intro (fun _ => (And.intro (fun q => absurd q c_20) (fun _ => g))) (fun q => absurd c_19 q))))) (fun q => absurd c_6 q)))))))) ?_
              refine mm_re (l' := [(0, .ref 12), (2, .int (w2 + (1 : Int32))), (3, .int w3), (4, .int w4)]) (c := [(0, .ref 12), (2, .int (w2 + (1 : Int32))), (3, .int w3), (4, .int w4)]) ?_ rfl rfl
              exact xb_3_value_12_j67 h_3_reckon h_3_untold_12 s ((w2 + (1 : Int32))) (w3) (w4) (((s.2.1 13) (w2).toNatClampNeg)) (w3) _ hf hK
          · have hf := mo_neg hf c_19
            obtain rfl := Option.some.inj hf
            refine mm_adv 24 (cs' := P_X3_value.drop 51) (l' := [(2, .int (w2 + (1 : Int32))), (5, .int ((s.2.1 13) (w2).toNatClampNeg)), (0, .ref 12), (3, .int w3), (4, .int w4)]) (st' := []) (h' := (xs_H pt ps pg pr s)) (bc' := 0) (bs' := 0) (fun n g => (And.intro (fun q => absurd q c_3) (fun _ => (And.intro (fun q => absurd q c_4) (fun _ => (And.intro hi_5 (And.intro (fun _ => (And.intro (fun q => absurd q c_7) (fun _ => (And.intro (fun q => absurd q c_19) (fun _ => g))))) (fun q => absurd c_6 q)))))))) ?_
            exact mm_re (c := []) hK rfl rfl
noncomputable def xf_3_value_12 (s : xs_S) (a0 : Int32) : Option (Int32 × xs_S) :=
((mo_ag 4 (s.2.1 14) a0).bind fun x_1 =>
(if (0 : Int32) ≤ x_1 then
((mo_loop (xf_3_value_12_l15 ) (x_1, (0 : Int32), (0 : Int32), s)).bind fun x_23 =>
match x_23 with
| (.inl (e3_23, s_23)) => (if (1 : Int32) ≤ e3_23 then
((mo_ag 24 (s_23.2.1 16) (e3_23 - (1 : Int32))).bind fun x_25 =>
some (x_25, s_23))
else
some ((0 : Int32), s_23))
| (.inr (.inl s_23)) => some ((0 : Int32), s_23)
| (.inr (.inr (.inl s_23))) => some ((0 : Int32), s_23)
| (.inr (.inr (.inr (.inl s_23)))) => some ((0 : Int32), s_23)
| (.inr (.inr (.inr (.inr s_23)))) => some ((0 : Int32), s_23)
)
else
((xf_3_untold_12 s (a0)).bind fun (v_26, s_26) =>
some (v_26, s_26))))
set_option maxHeartbeats 4000000 in
theorem xb_3_value_12 {C : mm_C} {Q : mm_R} {pt : Value} {ps : Value} {pg : Value} {pr : Value} (h_3_reckon : xk_3_reckon C) (h_3_untold_12 : xk_3_untold_12 C) (s : xs_S) (a0 : Int32) (v : Int32) (s2 : xs_S) (hf : xf_3_value_12 s a0 = some (v, s2)) (hK : Q (some (.int v)) (xs_H pt ps pg pr s2)) : mm_go C mm_Mk mm_Fk P_X3_value Q P_X3_value [(0, .ref 12), (1, .int a0)] [] (xs_H pt ps pg pr s) 0 0 := by
  unfold xf_3_value_12 at hf
  obtain ⟨x_1, hx_1, hf⟩ := mo_bind hf
  obtain ⟨hi_1, rfl⟩ := mo_ag_inv hx_1
  by_cases c_2 : (0 : Int32) ≤ ((s.2.1 14) (a0).toNatClampNeg)
  · have hf := mo_pos hf c_2
    obtain ⟨x_23, hl_23, hf⟩ := mo_bind hf
    refine mm_adv 11 (cs' := P_X3_value.drop 15) (l' := [(4, .int (0 : Int32)), (3, .int (0 : Int32)), (2, .int ((s.2.1 14) (a0).toNatClampNeg)), (0, .ref 12), (1, .int a0)]) (st' := []) (h' := (xs_H pt ps pg pr s)) (bc' := 0) (bs' := 0) (fun n g => (And.intro hi_1 (And.intro (fun _ => g) (fun q => absurd c_2 q)))) ?_
    refine mm_re (l' := [(0, .ref 12), (2, .int ((s.2.1 14) (a0).toNatClampNeg)), (3, .int (0 : Int32)), (4, .int (0 : Int32))]) (c := [(0, .ref 12), (2, .int ((s.2.1 14) (a0).toNatClampNeg)), (3, .int (0 : Int32)), (4, .int (0 : Int32))]) ?_ rfl rfl
    refine xb_3_value_12_l15 h_3_reckon h_3_untold_12  (((s.2.1 14) (a0).toNatClampNeg), (0 : Int32), (0 : Int32), s) x_23 hl_23 ?_
    cases x_23 with
    | inl y_23 =>
      obtain ⟨e3_23, s_23⟩ := y_23
      by_cases c_24 : (1 : Int32) ≤ e3_23
      · have hf := mo_pos hf c_24
        obtain ⟨x_25, hx_25, hf⟩ := mo_bind hf
        obtain ⟨hi_25, rfl⟩ := mo_ag_inv hx_25
        obtain ⟨rfl, rfl⟩ := mo_pair hf
        exact ⟨10, (And.intro (fun _ => (And.intro hi_25 hK)) (fun q => absurd c_24 q))⟩
      · have hf := mo_neg hf c_24
        obtain ⟨rfl, rfl⟩ := mo_pair hf
        exact ⟨6, (And.intro (fun q => absurd q c_24) (fun _ => hK))⟩
    | inr z_23_0 =>
      cases z_23_0 with
      | inl y_23 =>
        obtain ⟨s_23, rfl⟩ : ∃ q, q = y_23 := ⟨_, rfl⟩
        obtain ⟨rfl, rfl⟩ := mo_pair hf
        exact ⟨2, hK⟩
      | inr z_23_1 =>
        cases z_23_1 with
        | inl y_23 =>
          obtain ⟨s_23, rfl⟩ : ∃ q, q = y_23 := ⟨_, rfl⟩
          obtain ⟨rfl, rfl⟩ := mo_pair hf
          exact ⟨2, hK⟩
        | inr z_23_2 =>
          cases z_23_2 with
          | inl y_23 =>
            obtain ⟨s_23, rfl⟩ : ∃ q, q = y_23 := ⟨_, rfl⟩
            obtain ⟨rfl, rfl⟩ := mo_pair hf
            exact ⟨2, hK⟩
          | inr z_23_3 =>
            obtain ⟨s_23, rfl⟩ : ∃ q, q = z_23_3 := ⟨_, rfl⟩
            obtain ⟨rfl, rfl⟩ := mo_pair hf
            exact ⟨2, hK⟩
  · have hf := mo_neg hf c_2
    obtain ⟨r_26, hr_26, hf⟩ := mo_bind hf
    obtain ⟨v_26, s_26⟩ := r_26
    obtain ⟨rfl, rfl⟩ := mo_pair hf
    exact ⟨11, (And.intro hi_1 (And.intro (fun q => absurd q c_2) (fun _ => (h_3_untold_12 pt ps pg pr s (a0) v_26 s_26 _ hr_26 hK))))⟩
def xk_3_value_12 (C : mm_C) : Prop := ∀ (pt : Value) (ps : Value) (pg : Value) (pr : Value) (s : xs_S) (a0 : Int32) (v : Int32) (s2 : xs_S) (Q : mm_R), xf_3_value_12 s a0 = some (v, s2) → Q (some (.int v)) (xs_H pt ps pg pr s2) → C 154 [.ref 12, .int a0] (xs_H pt ps pg pr s) Q
-- 7_lawOf_9
noncomputable def xf_7_lawOf_9_j101 (s : xs_S) (v1 : Int32) (k0 : Int32) (k1 : Int32) : Option (Int32 × xs_S) :=
(bif mo_in k1 9 then ((xf_3_value_12 (xs_sA s 15 (upd (s.2.1 15) (k1).toNatClampNeg (k0))) (v1)).bind fun (v_20, s_20) =>
some (v_20, s_20)) else none)
set_option maxHeartbeats 4000000 in
theorem xb_7_lawOf_9_j101 {C : mm_C} {Q : mm_R} {pt : Value} {ps : Value} {pg : Value} {pr : Value} (h_11_turnOf : xk_11_turnOf C) (h_11_lastOf : xk_11_lastOf C) (h_7_hasWord_9 : xk_7_hasWord_9 C) (h_7_tongueOf_9 : xk_7_tongueOf_9 C) (h_11_slopeOf : xk_11_slopeOf C) (h_3_value_12 : xk_3_value_12 C) (s : xs_S) (v1 : Int32) (k0 : Int32) (k1 : Int32) (v : Int32) (s2 : xs_S) (hf : xf_7_lawOf_9_j101 s v1 k0 k1 = some (v, s2)) (hK : Q (some (.int v)) (xs_H pt ps pg pr s2)) : mm_go C mm_Mk mm_Fk P_X7_lawOf Q (P_X7_lawOf.drop 101) [(0, .ref 9), (1, .int v1)] [.int k0, .int k1, .ref 15] (xs_H pt ps pg pr s) 0 0 := by
  unfold xf_7_lawOf_9_j101 at hf
  obtain ⟨hi_19, hf⟩ := mo_if hf
  obtain ⟨r_20, hr_20, hf⟩ := mo_bind hf
  obtain ⟨v_20, s_20⟩ := r_20
  obtain ⟨rfl, rfl⟩ := mo_pair hf
  exact ⟨6, (And.intro hi_19 (h_3_value_12 pt ps pg pr (xs_sA s 15 (upd (s.2.1 15) (k1).toNatClampNeg (k0))) (v1) v_20 s_20 _ hr_20 hK))⟩
noncomputable def xf_7_lawOf_9_j100 (s : xs_S) (v1 : Int32) (k0 : Int32) : Option (Int32 × xs_S) :=
(xf_7_lawOf_9_j101 (s) (v1) ((0 : Int32)) (k0))
set_option maxHeartbeats 4000000 in
theorem xb_7_lawOf_9_j100 {C : mm_C} {Q : mm_R} {pt : Value} {ps : Value} {pg : Value} {pr : Value} (h_11_turnOf : xk_11_turnOf C) (h_11_lastOf : xk_11_lastOf C) (h_7_hasWord_9 : xk_7_hasWord_9 C) (h_7_tongueOf_9 : xk_7_tongueOf_9 C) (h_11_slopeOf : xk_11_slopeOf C) (h_3_value_12 : xk_3_value_12 C) (s : xs_S) (v1 : Int32) (k0 : Int32) (v : Int32) (s2 : xs_S) (hf : xf_7_lawOf_9_j100 s v1 k0 = some (v, s2)) (hK : Q (some (.int v)) (xs_H pt ps pg pr s2)) : mm_go C mm_Mk mm_Fk P_X7_lawOf Q (P_X7_lawOf.drop 100) [(0, .ref 9), (1, .int v1)] [.int k0, .ref 15] (xs_H pt ps pg pr s) 0 0 := by
  unfold xf_7_lawOf_9_j100 at hf
  refine mm_adv 1 (cs' := P_X7_lawOf.drop 101) (l' := [(0, .ref 9), (1, .int v1)]) (st' := [.int (0 : Int32), .int k0, .ref 15]) (h' := (xs_H pt ps pg pr s)) (bc' := 0) (bs' := 0) (fun n g => g) ?_
  refine mm_re (l' := [(0, .ref 9), (1, .int v1)]) (c := [(0, .ref 9), (1, .int v1)]) ?_ rfl rfl
  exact xb_7_lawOf_9_j101 h_11_turnOf h_11_lastOf h_7_hasWord_9 h_7_tongueOf_9 h_11_slopeOf h_3_value_12 s (v1) ((0 : Int32)) (k0) _ _ hf hK
noncomputable def xf_7_lawOf_9_j74 (s : xs_S) (v1 : Int32) (v5 : Int32) (v7 : Int32) (v8 : Int32) (k0 : Int32) (k2 : Int32) : Option (Int32 × xs_S) :=
((xf_7_tongueOf_9 s (k0)).bind fun (v_16, s_16) =>
(bif mo_in k2 9 then (if v8 = (0 : Int32) then
(xf_7_lawOf_9_j100 ((xs_sA s_16 15 (upd (upd (s_16.2.1 15) (k2).toNatClampNeg (v_16)) 7 ((s_16.1 148))))) (v1) ((8 : Int32)))
else
((xf_7_hasWord_9 (xs_sA s_16 15 (upd (upd (s_16.2.1 15) (k2).toNatClampNeg (v_16)) 7 ((s_16.1 148)))) (v7)).bind fun (v_21, s_21) =>
(if v_21 = (0 : Int32) then
(xf_7_lawOf_9_j100 (s_21) (v1) ((8 : Int32)))
else
((mo_ag 6 (s_21.2.1 11) v7).bind fun x_23 =>
((mo_ag 6 (s_21.2.1 11) v5).bind fun x_24 =>
(if x_23 = x_24 then
(xf_7_lawOf_9_j101 (s_21) (v1) ((1 : Int32)) ((8 : Int32)))
else
(xf_7_lawOf_9_j100 (s_21) (v1) ((8 : Int32))))))))) else none))
set_option maxHeartbeats 4000000 in
theorem xb_7_lawOf_9_j74 {C : mm_C} {Q : mm_R} {pt : Value} {ps : Value} {pg : Value} {pr : Value} (h_11_turnOf : xk_11_turnOf C) (h_11_lastOf : xk_11_lastOf C) (h_7_hasWord_9 : xk_7_hasWord_9 C) (h_7_tongueOf_9 : xk_7_tongueOf_9 C) (h_11_slopeOf : xk_11_slopeOf C) (h_3_value_12 : xk_3_value_12 C) (s : xs_S) (v1 : Int32) (v5 : Int32) (v7 : Int32) (v8 : Int32) (k0 : Int32) (k2 : Int32) (v : Int32) (s2 : xs_S) (hf : xf_7_lawOf_9_j74 s v1 v5 v7 v8 k0 k2 = some (v, s2)) (hK : Q (some (.int v)) (xs_H pt ps pg pr s2)) : mm_go C mm_Mk mm_Fk P_X7_lawOf Q (P_X7_lawOf.drop 74) [(0, .ref 9), (1, .int v1), (5, .int v5), (7, .int v7), (8, .int v8), (9, .ref 15)] [.int k0, .ref 9, .int k2, .ref 15] (xs_H pt ps pg pr s) 0 0 := by
  unfold xf_7_lawOf_9_j74 at hf
  obtain ⟨r_16, hr_16, hf⟩ := mo_bind hf
  obtain ⟨v_16, s_16⟩ := r_16
  obtain ⟨hi_17, hf⟩ := mo_if hf
  by_cases c_18 : v8 = (0 : Int32)
  · have hf := mo_pos hf c_18
    refine mm_adv 11 (cs' := P_X7_lawOf.drop 100) (l' := [(0, .ref 9), (1, .int v1), (5, .int v5), (7, .int v7), (8, .int v8), (9, .ref 15)]) (st' := [.int (8 : Int32), .ref 15]) (h' := (xs_H pt ps pg pr (xs_sA s_16 15 (upd (upd (s_16.2.1 15) (k2).toNatClampNeg (v_16)) 7 ((s_16.1 148)))))) (bc' := 0) (bs' := 0) (fun n g => (h_7_tongueOf_9 pt ps pg pr s (k0) v_16 s_16 _ hr_16 (And.intro hi_17 (And.intro (mm_vi rfl) (And.intro (fun _ => g) (fun q => absurd c_18 q)))))) ?_
    refine mm_re (l' := [(0, .ref 9), (1, .int v1)]) (c := [(0, .ref 9), (1, .int v1)]) ?_ rfl rfl
    exact xb_7_lawOf_9_j100 h_11_turnOf h_11_lastOf h_7_hasWord_9 h_7_tongueOf_9 h_11_slopeOf h_3_value_12 (xs_sA s_16 15 (upd (upd (s_16.2.1 15) (k2).toNatClampNeg (v_16)) 7 ((s_16.1 148)))) (v1) ((8 : Int32)) _ _ hf hK
  · have hf := mo_neg hf c_18
    obtain ⟨r_21, hr_21, hf⟩ := mo_bind hf
    obtain ⟨v_21, s_21⟩ := r_21
    by_cases c_22 : v_21 = (0 : Int32)
    · have hf := mo_pos hf c_22
      refine mm_adv 15 (cs' := P_X7_lawOf.drop 100) (l' := [(0, .ref 9), (1, .int v1), (5, .int v5), (7, .int v7), (8, .int v8), (9, .ref 15)]) (st' := [.int (8 : Int32), .ref 15]) (h' := (xs_H pt ps pg pr s_21)) (bc' := 0) (bs' := 0) (fun n g => (h_7_tongueOf_9 pt ps pg pr s (k0) v_16 s_16 _ hr_16 (And.intro hi_17 (And.intro (mm_vi rfl) (And.intro (fun q => absurd q c_18) (fun _ => (h_7_hasWord_9 pt ps pg pr (xs_sA s_16 15 (upd (upd (s_16.2.1 15) (k2).toNatClampNeg (v_16)) 7 ((s_16.1 148)))) (v7) v_21 s_21 _ hr_21 (And.intro (fun _ => g) (fun q => absurd c_22 q))))))))) ?_
      refine mm_re (l' := [(0, .ref 9), (1, .int v1)]) (c := [(0, .ref 9), (1, .int v1)]) ?_ rfl rfl
      exact xb_7_lawOf_9_j100 h_11_turnOf h_11_lastOf h_7_hasWord_9 h_7_tongueOf_9 h_11_slopeOf h_3_value_12 s_21 (v1) ((8 : Int32)) _ _ hf hK
    · have hf := mo_neg hf c_22
      obtain ⟨x_23, hx_23, hf⟩ := mo_bind hf
      obtain ⟨hi_23, rfl⟩ := mo_ag_inv hx_23
      obtain ⟨x_24, hx_24, hf⟩ := mo_bind hf
      obtain ⟨hi_24, rfl⟩ := mo_ag_inv hx_24
      by_cases c_25 : ((s_21.2.1 11) (v7).toNatClampNeg) = ((s_21.2.1 11) (v5).toNatClampNeg)
      · have hf := mo_pos hf c_25
        refine mm_adv 26 (cs' := P_X7_lawOf.drop 101) (l' := [(0, .ref 9), (1, .int v1), (5, .int v5), (7, .int v7), (8, .int v8), (9, .ref 15)]) (st' := [.int (1 : Int32), .int (8 : Int32), .ref 15]) (h' := (xs_H pt ps pg pr s_21)) (bc' := 0) (bs' := 0) (fun n g => (h_7_tongueOf_9 pt ps pg pr s (k0) v_16 s_16 _ hr_16 (And.intro hi_17 (And.intro (mm_vi rfl) (And.intro (fun q => absurd q c_18) (fun _ => (h_7_hasWord_9 pt ps pg pr (xs_sA s_16 15 (upd (upd (s_16.2.1 15) (k2).toNatClampNeg (v_16)) 7 ((s_16.1 148)))) (v7) v_21 s_21 _ hr_21 (And.intro (fun q => absurd q c_22) (fun _ => (And.intro hi_23 (And.intro hi_24 (And.intro (fun q => absurd c_25 q) (fun _ => g))))))))))))) ?_
        refine mm_re (l' := [(0, .ref 9), (1, .int v1)]) (c := [(0, .ref 9), (1, .int v1)]) ?_ rfl rfl
        exact xb_7_lawOf_9_j101 h_11_turnOf h_11_lastOf h_7_hasWord_9 h_7_tongueOf_9 h_11_slopeOf h_3_value_12 s_21 (v1) ((1 : Int32)) ((8 : Int32)) _ _ hf hK
      · have hf := mo_neg hf c_25
        refine mm_adv 24 (cs' := P_X7_lawOf.drop 100) (l' := [(0, .ref 9), (1, .int v1), (5, .int v5), (7, .int v7), (8, .int v8), (9, .ref 15)]) (st' := [.int (8 : Int32), .ref 15]) (h' := (xs_H pt ps pg pr s_21)) (bc' := 0) (bs' := 0) (fun n g => (h_7_tongueOf_9 pt ps pg pr s (k0) v_16 s_16 _ hr_16 (And.intro hi_17 (And.intro (mm_vi rfl) (And.intro (fun q => absurd q c_18) (fun _ => (h_7_hasWord_9 pt ps pg pr (xs_sA s_16 15 (upd (upd (s_16.2.1 15) (k2).toNatClampNeg (v_16)) 7 ((s_16.1 148)))) (v7) v_21 s_21 _ hr_21 (And.intro (fun q => absurd q c_22) (fun _ => (And.intro hi_23 (And.intro hi_24 (And.intro (fun _ => g) (fun q => absurd c_25 q))))))))))))) ?_
        refine mm_re (l' := [(0, .ref 9), (1, .int v1)]) (c := [(0, .ref 9), (1, .int v1)]) ?_ rfl rfl
        exact xb_7_lawOf_9_j100 h_11_turnOf h_11_lastOf h_7_hasWord_9 h_7_tongueOf_9 h_11_slopeOf h_3_value_12 s_21 (v1) ((8 : Int32)) _ _ hf hK
noncomputable def xf_7_lawOf_9_j65 (s : xs_S) (v1 : Int32) (v2 : Int32) (v3 : Int32) (v5 : Int32) (v6 : Int32) (v7 : Int32) (v8 : Int32) (k0 : Int32) (k1 : Int32) : Option (Int32 × xs_S) :=
(bif mo_in k1 9 then (if v6 = (0 : Int32) then
(xf_7_lawOf_9_j74 ((xs_sA s 15 (upd (s.2.1 15) (k1).toNatClampNeg (k0)))) (v1) (v5) (v7) (v8) (v2) ((6 : Int32)))
else
(xf_7_lawOf_9_j74 ((xs_sA s 15 (upd (s.2.1 15) (k1).toNatClampNeg (k0)))) (v1) (v5) (v7) (v8) (v3) ((6 : Int32)))) else none)
set_option maxHeartbeats 4000000 in
theorem xb_7_lawOf_9_j65 {C : mm_C} {Q : mm_R} {pt : Value} {ps : Value} {pg : Value} {pr : Value} (h_11_turnOf : xk_11_turnOf C) (h_11_lastOf : xk_11_lastOf C) (h_7_hasWord_9 : xk_7_hasWord_9 C) (h_7_tongueOf_9 : xk_7_tongueOf_9 C) (h_11_slopeOf : xk_11_slopeOf C) (h_3_value_12 : xk_3_value_12 C) (s : xs_S) (v1 : Int32) (v2 : Int32) (v3 : Int32) (v5 : Int32) (v6 : Int32) (v7 : Int32) (v8 : Int32) (k0 : Int32) (k1 : Int32) (v : Int32) (s2 : xs_S) (hf : xf_7_lawOf_9_j65 s v1 v2 v3 v5 v6 v7 v8 k0 k1 = some (v, s2)) (hK : Q (some (.int v)) (xs_H pt ps pg pr s2)) : mm_go C mm_Mk mm_Fk P_X7_lawOf Q (P_X7_lawOf.drop 65) [(0, .ref 9), (1, .int v1), (2, .int v2), (3, .int v3), (5, .int v5), (6, .int v6), (7, .int v7), (8, .int v8), (9, .ref 15)] [.int k0, .int k1, .ref 15] (xs_H pt ps pg pr s) 0 0 := by
  unfold xf_7_lawOf_9_j65 at hf
  obtain ⟨hi_14, hf⟩ := mo_if hf
  by_cases c_15 : v6 = (0 : Int32)
  · have hf := mo_pos hf c_15
    refine mm_adv 7 (cs' := P_X7_lawOf.drop 74) (l' := [(0, .ref 9), (1, .int v1), (2, .int v2), (3, .int v3), (5, .int v5), (6, .int v6), (7, .int v7), (8, .int v8), (9, .ref 15)]) (st' := [.int v2, .ref 9, .int (6 : Int32), .ref 15]) (h' := (xs_H pt ps pg pr (xs_sA s 15 (upd (s.2.1 15) (k1).toNatClampNeg (k0))))) (bc' := 0) (bs' := 0) (fun n g => (And.intro hi_14 (And.intro (fun _ => g) (fun q => absurd c_15 q)))) ?_
    refine mm_re (l' := [(0, .ref 9), (1, .int v1), (5, .int v5), (7, .int v7), (8, .int v8), (9, .ref 15)]) (c := [(0, .ref 9), (1, .int v1), (5, .int v5), (7, .int v7), (8, .int v8), (9, .ref 15)]) ?_ rfl rfl
    exact xb_7_lawOf_9_j74 h_11_turnOf h_11_lastOf h_7_hasWord_9 h_7_tongueOf_9 h_11_slopeOf h_3_value_12 (xs_sA s 15 (upd (s.2.1 15) (k1).toNatClampNeg (k0))) (v1) (v5) (v7) (v8) (v2) ((6 : Int32)) _ _ hf hK
  · have hf := mo_neg hf c_15
    refine mm_adv 8 (cs' := P_X7_lawOf.drop 74) (l' := [(0, .ref 9), (1, .int v1), (2, .int v2), (3, .int v3), (5, .int v5), (6, .int v6), (7, .int v7), (8, .int v8), (9, .ref 15)]) (st' := [.int v3, .ref 9, .int (6 : Int32), .ref 15]) (h' := (xs_H pt ps pg pr (xs_sA s 15 (upd (s.2.1 15) (k1).toNatClampNeg (k0))))) (bc' := 0) (bs' := 0) (fun n g => (And.intro hi_14 (And.intro (fun q => absurd q c_15) (fun _ => g)))) ?_
    refine mm_re (l' := [(0, .ref 9), (1, .int v1), (5, .int v5), (7, .int v7), (8, .int v8), (9, .ref 15)]) (c := [(0, .ref 9), (1, .int v1), (5, .int v5), (7, .int v7), (8, .int v8), (9, .ref 15)]) ?_ rfl rfl
    exact xb_7_lawOf_9_j74 h_11_turnOf h_11_lastOf h_7_hasWord_9 h_7_tongueOf_9 h_11_slopeOf h_3_value_12 (xs_sA s 15 (upd (s.2.1 15) (k1).toNatClampNeg (k0))) (v1) (v5) (v7) (v8) (v3) ((6 : Int32)) _ _ hf hK
noncomputable def xf_7_lawOf_9_j57 (s : xs_S) (v1 : Int32) (v2 : Int32) (v3 : Int32) (v5 : Int32) (v6 : Int32) (v7 : Int32) (v8 : Int32) (k0 : Int32) (k1 : Int32) : Option (Int32 × xs_S) :=
(bif mo_in k1 9 then (if v8 = (0 : Int32) then
(xf_7_lawOf_9_j65 ((xs_sA s 15 (upd (s.2.1 15) (k1).toNatClampNeg (k0)))) (v1) (v2) (v3) (v5) (v6) (v7) (v8) ((0 : Int32)) ((5 : Int32)))
else
(xf_7_lawOf_9_j65 ((xs_sA s 15 (upd (s.2.1 15) (k1).toNatClampNeg (k0)))) (v1) (v2) (v3) (v5) (v6) (v7) (v8) (v5) ((5 : Int32)))) else none)
set_option maxHeartbeats 4000000 in
theorem xb_7_lawOf_9_j57 {C : mm_C} {Q : mm_R} {pt : Value} {ps : Value} {pg : Value} {pr : Value} (h_11_turnOf : xk_11_turnOf C) (h_11_lastOf : xk_11_lastOf C) (h_7_hasWord_9 : xk_7_hasWord_9 C) (h_7_tongueOf_9 : xk_7_tongueOf_9 C) (h_11_slopeOf : xk_11_slopeOf C) (h_3_value_12 : xk_3_value_12 C) (s : xs_S) (v1 : Int32) (v2 : Int32) (v3 : Int32) (v5 : Int32) (v6 : Int32) (v7 : Int32) (v8 : Int32) (k0 : Int32) (k1 : Int32) (v : Int32) (s2 : xs_S) (hf : xf_7_lawOf_9_j57 s v1 v2 v3 v5 v6 v7 v8 k0 k1 = some (v, s2)) (hK : Q (some (.int v)) (xs_H pt ps pg pr s2)) : mm_go C mm_Mk mm_Fk P_X7_lawOf Q (P_X7_lawOf.drop 57) [(0, .ref 9), (1, .int v1), (2, .int v2), (3, .int v3), (5, .int v5), (6, .int v6), (7, .int v7), (8, .int v8), (9, .ref 15)] [.int k0, .int k1, .ref 15] (xs_H pt ps pg pr s) 0 0 := by
  unfold xf_7_lawOf_9_j57 at hf
  obtain ⟨hi_12, hf⟩ := mo_if hf
  by_cases c_13 : v8 = (0 : Int32)
  · have hf := mo_pos hf c_13
    refine mm_adv 6 (cs' := P_X7_lawOf.drop 65) (l' := [(0, .ref 9), (1, .int v1), (2, .int v2), (3, .int v3), (5, .int v5), (6, .int v6), (7, .int v7), (8, .int v8), (9, .ref 15)]) (st' := [.int (0 : Int32), .int (5 : Int32), .ref 15]) (h' := (xs_H pt ps pg pr (xs_sA s 15 (upd (s.2.1 15) (k1).toNatClampNeg (k0))))) (bc' := 0) (bs' := 0) (fun n g => (And.intro hi_12 (And.intro (fun _ => g) (fun q => absurd c_13 q)))) ?_
    refine mm_re (l' := [(0, .ref 9), (1, .int v1), (2, .int v2), (3, .int v3), (5, .int v5), (6, .int v6), (7, .int v7), (8, .int v8), (9, .ref 15)]) (c := [(0, .ref 9), (1, .int v1), (2, .int v2), (3, .int v3), (5, .int v5), (6, .int v6), (7, .int v7), (8, .int v8), (9, .ref 15)]) ?_ rfl rfl
    exact xb_7_lawOf_9_j65 h_11_turnOf h_11_lastOf h_7_hasWord_9 h_7_tongueOf_9 h_11_slopeOf h_3_value_12 (xs_sA s 15 (upd (s.2.1 15) (k1).toNatClampNeg (k0))) (v1) (v2) (v3) (v5) (v6) (v7) (v8) ((0 : Int32)) ((5 : Int32)) _ _ hf hK
  · have hf := mo_neg hf c_13
    refine mm_adv 7 (cs' := P_X7_lawOf.drop 65) (l' := [(0, .ref 9), (1, .int v1), (2, .int v2), (3, .int v3), (5, .int v5), (6, .int v6), (7, .int v7), (8, .int v8), (9, .ref 15)]) (st' := [.int v5, .int (5 : Int32), .ref 15]) (h' := (xs_H pt ps pg pr (xs_sA s 15 (upd (s.2.1 15) (k1).toNatClampNeg (k0))))) (bc' := 0) (bs' := 0) (fun n g => (And.intro hi_12 (And.intro (fun q => absurd q c_13) (fun _ => g)))) ?_
    refine mm_re (l' := [(0, .ref 9), (1, .int v1), (2, .int v2), (3, .int v3), (5, .int v5), (6, .int v6), (7, .int v7), (8, .int v8), (9, .ref 15)]) (c := [(0, .ref 9), (1, .int v1), (2, .int v2), (3, .int v3), (5, .int v5), (6, .int v6), (7, .int v7), (8, .int v8), (9, .ref 15)]) ?_ rfl rfl
    exact xb_7_lawOf_9_j65 h_11_turnOf h_11_lastOf h_7_hasWord_9 h_7_tongueOf_9 h_11_slopeOf h_3_value_12 (xs_sA s 15 (upd (s.2.1 15) (k1).toNatClampNeg (k0))) (v1) (v2) (v3) (v5) (v6) (v7) (v8) (v5) ((5 : Int32)) _ _ hf hK
noncomputable def xf_7_lawOf_9_j37 (s : xs_S) (v1 : Int32) (v2 : Int32) (v3 : Int32) (v4 : Int32) (v5 : Int32) (v6 : Int32) (v7 : Int32) (v8 : Int32) (k0 : Int32) (k2 : Int32) : Option (Int32 × xs_S) :=
((xf_7_tongueOf_9 s (k0)).bind fun (v_8, s_8) =>
(bif mo_in k2 9 then ((xf_11_slopeOf (v4)).bind fun v_10 =>
(if v6 = (0 : Int32) then
(xf_7_lawOf_9_j57 ((xs_sA s_8 15 (upd (upd (upd (s_8.2.1 15) (k2).toNatClampNeg (v_8)) 2 (v_10)) 3 ((v7 + (1 : Int32)))))) (v1) (v2) (v3) (v5) (v6) (v7) (v8) ((1 : Int32)) ((4 : Int32)))
else
(xf_7_lawOf_9_j57 ((xs_sA s_8 15 (upd (upd (upd (s_8.2.1 15) (k2).toNatClampNeg (v_8)) 2 (v_10)) 3 ((v7 + (1 : Int32)))))) (v1) (v2) (v3) (v5) (v6) (v7) (v8) ((0 : Int32)) ((4 : Int32))))) else none))
set_option maxHeartbeats 4000000 in
theorem xb_7_lawOf_9_j37 {C : mm_C} {Q : mm_R} {pt : Value} {ps : Value} {pg : Value} {pr : Value} (h_11_turnOf : xk_11_turnOf C) (h_11_lastOf : xk_11_lastOf C) (h_7_hasWord_9 : xk_7_hasWord_9 C) (h_7_tongueOf_9 : xk_7_tongueOf_9 C) (h_11_slopeOf : xk_11_slopeOf C) (h_3_value_12 : xk_3_value_12 C) (s : xs_S) (v1 : Int32) (v2 : Int32) (v3 : Int32) (v4 : Int32) (v5 : Int32) (v6 : Int32) (v7 : Int32) (v8 : Int32) (k0 : Int32) (k2 : Int32) (v : Int32) (s2 : xs_S) (hf : xf_7_lawOf_9_j37 s v1 v2 v3 v4 v5 v6 v7 v8 k0 k2 = some (v, s2)) (hK : Q (some (.int v)) (xs_H pt ps pg pr s2)) : mm_go C mm_Mk mm_Fk P_X7_lawOf Q (P_X7_lawOf.drop 37) [(0, .ref 9), (1, .int v1), (2, .int v2), (3, .int v3), (4, .int v4), (5, .int v5), (6, .int v6), (7, .int v7), (8, .int v8), (9, .ref 15)] [.int k0, .ref 9, .int k2, .ref 15] (xs_H pt ps pg pr s) 0 0 := by
  unfold xf_7_lawOf_9_j37 at hf
  obtain ⟨r_8, hr_8, hf⟩ := mo_bind hf
  obtain ⟨v_8, s_8⟩ := r_8
  obtain ⟨hi_9, hf⟩ := mo_if hf
  obtain ⟨v_10, hr_10, hf⟩ := mo_bind hf
  by_cases c_11 : v6 = (0 : Int32)
  · have hf := mo_pos hf c_11
    refine mm_adv 18 (cs' := P_X7_lawOf.drop 57) (l' := [(0, .ref 9), (1, .int v1), (2, .int v2), (3, .int v3), (4, .int v4), (5, .int v5), (6, .int v6), (7, .int v7), (8, .int v8), (9, .ref 15)]) (st' := [.int (1 : Int32), .int (4 : Int32), .ref 15]) (h' := (xs_H pt ps pg pr (xs_sA s_8 15 (upd (upd (upd (s_8.2.1 15) (k2).toNatClampNeg (v_8)) 2 (v_10)) 3 ((v7 + (1 : Int32))))))) (bc' := 0) (bs' := 0) (fun n g => (h_7_tongueOf_9 pt ps pg pr s (k0) v_8 s_8 _ hr_8 (And.intro hi_9 (h_11_slopeOf _ (v4) v_10 _ hr_10 (And.intro (mm_vi rfl) (And.intro (mm_vi rfl) (And.intro (fun _ => g) (fun q => absurd c_11 q)))))))) ?_
    refine mm_re (l' := [(0, .ref 9), (1, .int v1), (2, .int v2), (3, .int v3), (5, .int v5), (6, .int v6), (7, .int v7), (8, .int v8), (9, .ref 15)]) (c := [(0, .ref 9), (1, .int v1), (2, .int v2), (3, .int v3), (5, .int v5), (6, .int v6), (7, .int v7), (8, .int v8), (9, .ref 15)]) ?_ rfl rfl
    exact xb_7_lawOf_9_j57 h_11_turnOf h_11_lastOf h_7_hasWord_9 h_7_tongueOf_9 h_11_slopeOf h_3_value_12 (xs_sA s_8 15 (upd (upd (upd (s_8.2.1 15) (k2).toNatClampNeg (v_8)) 2 (v_10)) 3 ((v7 + (1 : Int32))))) (v1) (v2) (v3) (v5) (v6) (v7) (v8) ((1 : Int32)) ((4 : Int32)) _ _ hf hK
  · have hf := mo_neg hf c_11
    refine mm_adv 19 (cs' := P_X7_lawOf.drop 57) (l' := [(0, .ref 9), (1, .int v1), (2, .int v2), (3, .int v3), (4, .int v4), (5, .int v5), (6, .int v6), (7, .int v7), (8, .int v8), (9, .ref 15)]) (st' := [.int (0 : Int32), .int (4 : Int32), .ref 15]) (h' := (xs_H pt ps pg pr (xs_sA s_8 15 (upd (upd (upd (s_8.2.1 15) (k2).toNatClampNeg (v_8)) 2 (v_10)) 3 ((v7 + (1 : Int32))))))) (bc' := 0) (bs' := 0) (fun n g => (h_7_tongueOf_9 pt ps pg pr s (k0) v_8 s_8 _ hr_8 (And.intro hi_9 (h_11_slopeOf _ (v4) v_10 _ hr_10 (And.intro (mm_vi rfl) (And.intro (mm_vi rfl) (And.intro (fun q => absurd q c_11) (fun _ => g)))))))) ?_
    refine mm_re (l' := [(0, .ref 9), (1, .int v1), (2, .int v2), (3, .int v3), (5, .int v5), (6, .int v6), (7, .int v7), (8, .int v8), (9, .ref 15)]) (c := [(0, .ref 9), (1, .int v1), (2, .int v2), (3, .int v3), (5, .int v5), (6, .int v6), (7, .int v7), (8, .int v8), (9, .ref 15)]) ?_ rfl rfl
    exact xb_7_lawOf_9_j57 h_11_turnOf h_11_lastOf h_7_hasWord_9 h_7_tongueOf_9 h_11_slopeOf h_3_value_12 (xs_sA s_8 15 (upd (upd (upd (s_8.2.1 15) (k2).toNatClampNeg (v_8)) 2 (v_10)) 3 ((v7 + (1 : Int32))))) (v1) (v2) (v3) (v5) (v6) (v7) (v8) ((0 : Int32)) ((4 : Int32)) _ _ hf hK
noncomputable def xf_7_lawOf_9_j28 (s : xs_S) (v1 : Int32) (v2 : Int32) (v3 : Int32) (v4 : Int32) (v5 : Int32) (v6 : Int32) (v7 : Int32) (v8 : Int32) (k0 : Int32) (k1 : Int32) : Option (Int32 × xs_S) :=
(bif mo_in k1 9 then (if v6 = (0 : Int32) then
(xf_7_lawOf_9_j37 ((xs_sA s 15 (upd (s.2.1 15) (k1).toNatClampNeg (k0)))) (v1) (v2) (v3) (v4) (v5) (v6) (v7) (v8) (v3) ((1 : Int32)))
else
(xf_7_lawOf_9_j37 ((xs_sA s 15 (upd (s.2.1 15) (k1).toNatClampNeg (k0)))) (v1) (v2) (v3) (v4) (v5) (v6) (v7) (v8) (v2) ((1 : Int32)))) else none)
set_option maxHeartbeats 4000000 in
theorem xb_7_lawOf_9_j28 {C : mm_C} {Q : mm_R} {pt : Value} {ps : Value} {pg : Value} {pr : Value} (h_11_turnOf : xk_11_turnOf C) (h_11_lastOf : xk_11_lastOf C) (h_7_hasWord_9 : xk_7_hasWord_9 C) (h_7_tongueOf_9 : xk_7_tongueOf_9 C) (h_11_slopeOf : xk_11_slopeOf C) (h_3_value_12 : xk_3_value_12 C) (s : xs_S) (v1 : Int32) (v2 : Int32) (v3 : Int32) (v4 : Int32) (v5 : Int32) (v6 : Int32) (v7 : Int32) (v8 : Int32) (k0 : Int32) (k1 : Int32) (v : Int32) (s2 : xs_S) (hf : xf_7_lawOf_9_j28 s v1 v2 v3 v4 v5 v6 v7 v8 k0 k1 = some (v, s2)) (hK : Q (some (.int v)) (xs_H pt ps pg pr s2)) : mm_go C mm_Mk mm_Fk P_X7_lawOf Q (P_X7_lawOf.drop 28) [(0, .ref 9), (1, .int v1), (2, .int v2), (3, .int v3), (4, .int v4), (5, .int v5), (6, .int v6), (7, .int v7), (8, .int v8), (9, .ref 15)] [.int k0, .int k1, .ref 15] (xs_H pt ps pg pr s) 0 0 := by
  unfold xf_7_lawOf_9_j28 at hf
  obtain ⟨hi_6, hf⟩ := mo_if hf
  by_cases c_7 : v6 = (0 : Int32)
  · have hf := mo_pos hf c_7
    refine mm_adv 7 (cs' := P_X7_lawOf.drop 37) (l' := [(0, .ref 9), (1, .int v1), (2, .int v2), (3, .int v3), (4, .int v4), (5, .int v5), (6, .int v6), (7, .int v7), (8, .int v8), (9, .ref 15)]) (st' := [.int v3, .ref 9, .int (1 : Int32), .ref 15]) (h' := (xs_H pt ps pg pr (xs_sA s 15 (upd (s.2.1 15) (k1).toNatClampNeg (k0))))) (bc' := 0) (bs' := 0) (fun n g => (And.intro hi_6 (And.intro (fun _ => g) (fun q => absurd c_7 q)))) ?_
    refine mm_re (l' := [(0, .ref 9), (1, .int v1), (2, .int v2), (3, .int v3), (4, .int v4), (5, .int v5), (6, .int v6), (7, .int v7), (8, .int v8), (9, .ref 15)]) (c := [(0, .ref 9), (1, .int v1), (2, .int v2), (3, .int v3), (4, .int v4), (5, .int v5), (6, .int v6), (7, .int v7), (8, .int v8), (9, .ref 15)]) ?_ rfl rfl
    exact xb_7_lawOf_9_j37 h_11_turnOf h_11_lastOf h_7_hasWord_9 h_7_tongueOf_9 h_11_slopeOf h_3_value_12 (xs_sA s 15 (upd (s.2.1 15) (k1).toNatClampNeg (k0))) (v1) (v2) (v3) (v4) (v5) (v6) (v7) (v8) (v3) ((1 : Int32)) _ _ hf hK
  · have hf := mo_neg hf c_7
    refine mm_adv 8 (cs' := P_X7_lawOf.drop 37) (l' := [(0, .ref 9), (1, .int v1), (2, .int v2), (3, .int v3), (4, .int v4), (5, .int v5), (6, .int v6), (7, .int v7), (8, .int v8), (9, .ref 15)]) (st' := [.int v2, .ref 9, .int (1 : Int32), .ref 15]) (h' := (xs_H pt ps pg pr (xs_sA s 15 (upd (s.2.1 15) (k1).toNatClampNeg (k0))))) (bc' := 0) (bs' := 0) (fun n g => (And.intro hi_6 (And.intro (fun q => absurd q c_7) (fun _ => g)))) ?_
    refine mm_re (l' := [(0, .ref 9), (1, .int v1), (2, .int v2), (3, .int v3), (4, .int v4), (5, .int v5), (6, .int v6), (7, .int v7), (8, .int v8), (9, .ref 15)]) (c := [(0, .ref 9), (1, .int v1), (2, .int v2), (3, .int v3), (4, .int v4), (5, .int v5), (6, .int v6), (7, .int v7), (8, .int v8), (9, .ref 15)]) ?_ rfl rfl
    exact xb_7_lawOf_9_j37 h_11_turnOf h_11_lastOf h_7_hasWord_9 h_7_tongueOf_9 h_11_slopeOf h_3_value_12 (xs_sA s 15 (upd (s.2.1 15) (k1).toNatClampNeg (k0))) (v1) (v2) (v3) (v4) (v5) (v6) (v7) (v8) (v2) ((1 : Int32)) _ _ hf hK
noncomputable def xf_7_lawOf_9_j6 (s : xs_S) (v1 : Int32) (v2 : Int32) (v3 : Int32) (v4 : Int32) (v5 : Int32) (k0 : Int32) : Option (Int32 × xs_S) :=
((xf_11_lastOf (v4)).bind fun v_3 =>
((xf_7_hasWord_9 s (v5)).bind fun (v_4, s_4) =>
(if v_4 = (0 : Int32) then
(xf_7_lawOf_9_j28 (s_4) (v1) (v2) (v3) (v4) (v5) (k0) (v_3) (v_4) ((0 : Int32)) ((0 : Int32)))
else
((mo_ag 6 (s_4.2.1 11) v5).bind fun x_26 =>
(xf_7_lawOf_9_j28 (s_4) (v1) (v2) (v3) (v4) (v5) (k0) (v_3) (v_4) (x_26) ((0 : Int32)))))))
set_option maxHeartbeats 4000000 in
theorem xb_7_lawOf_9_j6 {C : mm_C} {Q : mm_R} {pt : Value} {ps : Value} {pg : Value} {pr : Value} (h_11_turnOf : xk_11_turnOf C) (h_11_lastOf : xk_11_lastOf C) (h_7_hasWord_9 : xk_7_hasWord_9 C) (h_7_tongueOf_9 : xk_7_tongueOf_9 C) (h_11_slopeOf : xk_11_slopeOf C) (h_3_value_12 : xk_3_value_12 C) (s : xs_S) (v1 : Int32) (v2 : Int32) (v3 : Int32) (v4 : Int32) (v5 : Int32) (k0 : Int32) (v : Int32) (s2 : xs_S) (hf : xf_7_lawOf_9_j6 s v1 v2 v3 v4 v5 k0 = some (v, s2)) (hK : Q (some (.int v)) (xs_H pt ps pg pr s2)) : mm_go C mm_Mk mm_Fk P_X7_lawOf Q (P_X7_lawOf.drop 6) [(0, .ref 9), (1, .int v1), (2, .int v2), (3, .int v3), (4, .int v4), (5, .int v5)] [.int k0] (xs_H pt ps pg pr s) 0 0 := by
  unfold xf_7_lawOf_9_j6 at hf
  obtain ⟨v_3, hr_3, hf⟩ := mo_bind hf
  obtain ⟨r_4, hr_4, hf⟩ := mo_bind hf
  obtain ⟨v_4, s_4⟩ := r_4
  by_cases c_5 : v_4 = (0 : Int32)
  · have hf := mo_pos hf c_5
    refine mm_adv 17 (cs' := P_X7_lawOf.drop 28) (l' := [(9, .ref 15), (8, .int v_4), (7, .int v_3), (6, .int k0), (0, .ref 9), (1, .int v1), (2, .int v2), (3, .int v3), (4, .int v4), (5, .int v5)]) (st' := [.int (0 : Int32), .int (0 : Int32), .ref 15]) (h' := (xs_H pt ps pg pr s_4)) (bc' := 0) (bs' := 0) (fun n g => (h_11_lastOf _ (v4) v_3 _ hr_3 (h_7_hasWord_9 pt ps pg pr s (v5) v_4 s_4 _ hr_4 (And.intro (fun _ => g) (fun q => absurd c_5 q))))) ?_
    refine mm_re (l' := [(0, .ref 9), (1, .int v1), (2, .int v2), (3, .int v3), (4, .int v4), (5, .int v5), (6, .int k0), (7, .int v_3), (8, .int v_4), (9, .ref 15)]) (c := [(0, .ref 9), (1, .int v1), (2, .int v2), (3, .int v3), (4, .int v4), (5, .int v5), (6, .int k0), (7, .int v_3), (8, .int v_4), (9, .ref 15)]) ?_ rfl rfl
    exact xb_7_lawOf_9_j28 h_11_turnOf h_11_lastOf h_7_hasWord_9 h_7_tongueOf_9 h_11_slopeOf h_3_value_12 s_4 (v1) (v2) (v3) (v4) (v5) (k0) (v_3) (v_4) ((0 : Int32)) ((0 : Int32)) _ _ hf hK
  · have hf := mo_neg hf c_5
    obtain ⟨x_26, hx_26, hf⟩ := mo_bind hf
    obtain ⟨hi_26, rfl⟩ := mo_ag_inv hx_26
    refine mm_adv 21 (cs' := P_X7_lawOf.drop 28) (l' := [(9, .ref 15), (8, .int v_4), (7, .int v_3), (6, .int k0), (0, .ref 9), (1, .int v1), (2, .int v2), (3, .int v3), (4, .int v4), (5, .int v5)]) (st' := [.int ((s_4.2.1 11) (v5).toNatClampNeg), .int (0 : Int32), .ref 15]) (h' := (xs_H pt ps pg pr s_4)) (bc' := 0) (bs' := 0) (fun n g => (h_11_lastOf _ (v4) v_3 _ hr_3 (h_7_hasWord_9 pt ps pg pr s (v5) v_4 s_4 _ hr_4 (And.intro (fun q => absurd q c_5) (fun _ => (And.intro hi_26 g)))))) ?_
    refine mm_re (l' := [(0, .ref 9), (1, .int v1), (2, .int v2), (3, .int v3), (4, .int v4), (5, .int v5), (6, .int k0), (7, .int v_3), (8, .int v_4), (9, .ref 15)]) (c := [(0, .ref 9), (1, .int v1), (2, .int v2), (3, .int v3), (4, .int v4), (5, .int v5), (6, .int k0), (7, .int v_3), (8, .int v_4), (9, .ref 15)]) ?_ rfl rfl
    exact xb_7_lawOf_9_j28 h_11_turnOf h_11_lastOf h_7_hasWord_9 h_7_tongueOf_9 h_11_slopeOf h_3_value_12 s_4 (v1) (v2) (v3) (v4) (v5) (k0) (v_3) (v_4) (((s_4.2.1 11) (v5).toNatClampNeg)) ((0 : Int32)) _ _ hf hK
noncomputable def xf_7_lawOf_9 (s : xs_S) (a0 : Int32) (a1 : Int32) (a2 : Int32) (a3 : Int32) (a4 : Int32) : Option (Int32 × xs_S) :=
((xf_11_turnOf (a3)).bind fun v_1 =>
(if v_1 = (0 : Int32) then
(xf_7_lawOf_9_j6 (s) (a0) (a1) (a2) (a3) (a4) ((1 : Int32)))
else
(xf_7_lawOf_9_j6 (s) (a0) (a1) (a2) (a3) (a4) ((0 : Int32)))))
set_option maxHeartbeats 4000000 in
theorem xb_7_lawOf_9 {C : mm_C} {Q : mm_R} {pt : Value} {ps : Value} {pg : Value} {pr : Value} (h_11_turnOf : xk_11_turnOf C) (h_11_lastOf : xk_11_lastOf C) (h_7_hasWord_9 : xk_7_hasWord_9 C) (h_7_tongueOf_9 : xk_7_tongueOf_9 C) (h_11_slopeOf : xk_11_slopeOf C) (h_3_value_12 : xk_3_value_12 C) (s : xs_S) (a0 : Int32) (a1 : Int32) (a2 : Int32) (a3 : Int32) (a4 : Int32) (v : Int32) (s2 : xs_S) (hf : xf_7_lawOf_9 s a0 a1 a2 a3 a4 = some (v, s2)) (hK : Q (some (.int v)) (xs_H pt ps pg pr s2)) : mm_go C mm_Mk mm_Fk P_X7_lawOf Q P_X7_lawOf [(0, .ref 9), (1, .int a0), (2, .int a1), (3, .int a2), (4, .int a3), (5, .int a4)] [] (xs_H pt ps pg pr s) 0 0 := by
  unfold xf_7_lawOf_9 at hf
  obtain ⟨v_1, hr_1, hf⟩ := mo_bind hf
  by_cases c_2 : v_1 = (0 : Int32)
  · have hf := mo_pos hf c_2
    refine mm_adv 5 (cs' := P_X7_lawOf.drop 6) (l' := [(0, .ref 9), (1, .int a0), (2, .int a1), (3, .int a2), (4, .int a3), (5, .int a4)]) (st' := [.int (1 : Int32)]) (h' := (xs_H pt ps pg pr s)) (bc' := 0) (bs' := 0) (fun n g => (h_11_turnOf _ (a3) v_1 _ hr_1 (And.intro (fun q => absurd c_2 q) (fun _ => g)))) ?_
    refine mm_re (l' := [(0, .ref 9), (1, .int a0), (2, .int a1), (3, .int a2), (4, .int a3), (5, .int a4)]) (c := [(0, .ref 9), (1, .int a0), (2, .int a1), (3, .int a2), (4, .int a3), (5, .int a4)]) ?_ rfl rfl
    exact xb_7_lawOf_9_j6 h_11_turnOf h_11_lastOf h_7_hasWord_9 h_7_tongueOf_9 h_11_slopeOf h_3_value_12 s (a0) (a1) (a2) (a3) (a4) ((1 : Int32)) _ _ hf hK
  · have hf := mo_neg hf c_2
    refine mm_adv 4 (cs' := P_X7_lawOf.drop 6) (l' := [(0, .ref 9), (1, .int a0), (2, .int a1), (3, .int a2), (4, .int a3), (5, .int a4)]) (st' := [.int (0 : Int32)]) (h' := (xs_H pt ps pg pr s)) (bc' := 0) (bs' := 0) (fun n g => (h_11_turnOf _ (a3) v_1 _ hr_1 (And.intro (fun _ => g) (fun q => absurd c_2 q)))) ?_
    refine mm_re (l' := [(0, .ref 9), (1, .int a0), (2, .int a1), (3, .int a2), (4, .int a3), (5, .int a4)]) (c := [(0, .ref 9), (1, .int a0), (2, .int a1), (3, .int a2), (4, .int a3), (5, .int a4)]) ?_ rfl rfl
    exact xb_7_lawOf_9_j6 h_11_turnOf h_11_lastOf h_7_hasWord_9 h_7_tongueOf_9 h_11_slopeOf h_3_value_12 s (a0) (a1) (a2) (a3) (a4) ((0 : Int32)) _ _ hf hK
def xk_7_lawOf_9 (C : mm_C) : Prop := ∀ (pt : Value) (ps : Value) (pg : Value) (pr : Value) (s : xs_S) (a0 : Int32) (a1 : Int32) (a2 : Int32) (a3 : Int32) (a4 : Int32) (v : Int32) (s2 : xs_S) (Q : mm_R), xf_7_lawOf_9 s a0 a1 a2 a3 a4 = some (v, s2) → Q (some (.int v)) (xs_H pt ps pg pr s2) → C 193 [.ref 9, .int a0, .int a1, .int a2, .int a3, .int a4] (xs_H pt ps pg pr s) Q
