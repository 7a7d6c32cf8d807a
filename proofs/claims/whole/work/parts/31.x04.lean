/-! the class, method by method, 4 -/
-- 7_lawOf_9
noncomputable def xf_7_lawOf_9_j101 (s : xs_S) (v1 : Int32) (k0 : Int32) (k1 : Int32) : Option (Int32 × xs_S) :=
(bif mo_in k1 9 then ((xf_3_value_12 (xs_sA s 15 (upd (s.2.1 15) (k1).toNatClampNeg (k0))) (v1)).bind fun (v_20, s_20) =>
some (v_20, s_20)) else none)
set_option maxHeartbeats 4000000 in
theorem xb_7_lawOf_9_j101 {C : mm_C} {Q : mm_R} {pt : Value} {ps : Value} {pg : Value} {pr : Value} (h_11_turnOf : xk_11_turnOf C) (h_11_lastOf : xk_11_lastOf C) (h_7_hasWord_9 : xk_7_hasWord_9 C) (h_7_tongueOf_9 : xk_7_tongueOf_9 C) (h_11_slopeOf : xk_11_slopeOf C) (h_3_value_12 : xk_3_value_12 C) (s : xs_S) (v1 : Int32) (k0 : Int32) (k1 : Int32) (v : Int32) (s2 : xs_S) (hf : xf_7_lawOf_9_j101 s v1 k0 k1 = some (v, s2)) (hK : Q (some (.int v)) (xs_H pt ps pg pr s2)) : mm_go C mm_Mk mm_Fk P_X7_lawOf Q (P_X7_lawOf.drop 101) [(0, .ref 9), (1, .int v1)] [.int k0, .int k1, .ref 15] (xs_H pt ps pg pr s) 0 0 := by
  unfold xf_7_lawOf_9_j101 at hf
  obtain ⟨hi_19, hf⟩ := mo_if hf
  obtain ⟨r_20, hr_20, hf⟩ := mo_bind hf
  obtain ⟨v_20, s_20⟩ := r_20
  obtain ⟨rfl, rfl⟩ := mo_pair hf
  exact ⟨6, (And.intro hi_19 (h_3_value_12 pt ps pg pr (xs_sA s 15 (upd (s.2.1 15) (k1).toNatClampNeg (k0))) (v1) v_20 s_20 _ hr_20 hK))⟩
noncomputable def xf_7_lawOf_9_j100 (s : xs_S) (v1 : Int32) (k0 : Int32) : Option (Int32 × xs_S) :=
(xf_7_lawOf_9_j101 (s) (v1) ((0 : Int32)) (k0))
set_option maxHeartbeats 4000000 in
theorem xb_7_lawOf_9_j100 {C : mm_C} {Q : mm_R} {pt : Value} {ps : Value} {pg : Value} {pr : Value} (h_11_turnOf : xk_11_turnOf C) (h_11_lastOf : xk_11_lastOf C) (h_7_hasWord_9 : xk_7_hasWord_9 C) (h_7_tongueOf_9 : xk_7_tongueOf_9 C) (h_11_slopeOf : xk_11_slopeOf C) (h_3_value_12 : xk_3_value_12 C) (s : xs_S) (v1 : Int32) (k0 : Int32) (v : Int32) (s2 : xs_S) (hf : xf_7_lawOf_9_j100 s v1 k0 = some (v, s2)) (hK : Q (some (.int v)) (xs_H pt ps pg pr s2)) : mm_go C mm_Mk mm_Fk P_X7_lawOf Q (P_X7_lawOf.drop 100) [(0, .ref 9), (1, .int v1)] [.int k0, .ref 15] (xs_H pt ps pg pr s) 0 0 := by
  unfold xf_7_lawOf_9_j100 at hf
  refine mm_adv 1 (cs' := P_X7_lawOf.drop 101) (l' := [(0, .ref 9), (1, .int v1)]) (st' := [.int (0 : Int32), .int k0, .ref 15]) (h' := (xs_H pt ps pg pr s)) (bc' := 0) (bs' := 0) (fun n g => g) ?_
  refine mm_re (l' := [(0, .ref 9), (1, .int v1)]) (c := [(0, .ref 9), (1, .int v1)]) ?_ rfl rfl
  exact xb_7_lawOf_9_j101 h_11_turnOf h_11_lastOf h_7_hasWord_9 h_7_tongueOf_9 h_11_slopeOf h_3_value_12 s (v1) ((0 : Int32)) (k0) _ _ hf hK
noncomputable def xf_7_lawOf_9_j74 (s : xs_S) (v1 : Int32) (v5 : Int32) (v7 : Int32) (v8 : Int32) (k0 : Int32) (k2 : Int32) : Option (Int32 × xs_S) :=
((xf_7_tongueOf_9 s (k0)).bind fun (v_16, s_16) =>
(bif mo_in k2 9 then (if v8 = (0 : Int32) then
(xf_7_lawOf_9_j100 ((xs_sA s_16 15 (upd (upd (s_16.2.1 15) (k2).toNatClampNeg (v_16)) 7 ((s_16.1 148))))) (v1) ((8 : Int32)))
else
((xf_7_hasWord_9 (xs_sA s_16 15 (upd (upd (s_16.2.1 15) (k2).toNatClampNeg (v_16)) 7 ((s_16.1 148)))) (v7)).bind fun (v_21, s_21) =>
(if v_21 = (0 : Int32) then
(xf_7_lawOf_9_j100 (s_21) (v1) ((8 : Int32)))
else
((mo_ag 6 (s_21.2.1 11) v7).bind fun x_23 =>
((mo_ag 6 (s_21.2.1 11) v5).bind fun x_24 =>
(if x_23 = x_24 then
(xf_7_lawOf_9_j101 (s_21) (v1) ((1 : Int32)) ((8 : Int32)))
else
(xf_7_lawOf_9_j100 (s_21) (v1) ((8 : Int32))))))))) else none))
set_option maxHeartbeats 4000000 in
theorem xb_7_lawOf_9_j74 {C : mm_C} {Q : mm_R} {pt : Value} {ps : Value} {pg : Value} {pr : Value} (h_11_turnOf : xk_11_turnOf C) (h_11_lastOf : xk_11_lastOf C) (h_7_hasWord_9 : xk_7_hasWord_9 C) (h_7_tongueOf_9 : xk_7_tongueOf_9 C) (h_11_slopeOf : xk_11_slopeOf C) (h_3_value_12 : xk_3_value_12 C) (s : xs_S) (v1 : Int32) (v5 : Int32) (v7 : Int32) (v8 : Int32) (k0 : Int32) (k2 : Int32) (v : Int32) (s2 : xs_S) (hf : xf_7_lawOf_9_j74 s v1 v5 v7 v8 k0 k2 = some (v, s2)) (hK : Q (some (.int v)) (xs_H pt ps pg pr s2)) : mm_go C mm_Mk mm_Fk P_X7_lawOf Q (P_X7_lawOf.drop 74) [(0, .ref 9), (1, .int v1), (5, .int v5), (7, .int v7), (8, .int v8), (9, .ref 15)] [.int k0, .ref 9, .int k2, .ref 15] (xs_H pt ps pg pr s) 0 0 := by
  unfold xf_7_lawOf_9_j74 at hf
  obtain ⟨r_16, hr_16, hf⟩ := mo_bind hf
  obtain ⟨v_16, s_16⟩ := r_16
  obtain ⟨hi_17, hf⟩ := mo_if hf
  by_cases c_18 : v8 = (0 : Int32)
  · have hf := mo_pos hf c_18
    refine mm_adv 11 (cs' := P_X7_lawOf.drop 100) (l' := [(0, .ref 9), (1, .int v1), (5, .int v5), (7, .int v7), (8, .int v8), (9, .ref 15)]) (st' := [.int (8 : Int32), .ref 15]) (h' := (xs_H pt ps pg pr (xs_sA s_16 15 (upd (upd (s_16.2.1 15) (k2).toNatClampNeg (v_16)) 7 ((s_16.1 148)))))) (bc' := 0) (bs' := 0) (fun n g => (h_7_tongueOf_9 pt ps pg pr s (k0) v_16 s_16 _ hr_16 (And.intro hi_17 (And.intro (mm_vi rfl) (And.intro (fun _ => g) (fun q => absurd c_18 q)))))) ?_
    refine mm_re (l' := [(0, .ref 9), (1, .int v1)]) (c := [(0, .ref 9), (1, .int v1)]) ?_ rfl rfl
    exact xb_7_lawOf_9_j100 h_11_turnOf h_11_lastOf h_7_hasWord_9 h_7_tongueOf_9 h_11_slopeOf h_3_value_12 (xs_sA s_16 15 (upd (upd (s_16.2.1 15) (k2).toNatClampNeg (v_16)) 7 ((s_16.1 148)))) (v1) ((8 : Int32)) _ _ hf hK
  · have hf := mo_neg hf c_18
    obtain ⟨r_21, hr_21, hf⟩ := mo_bind hf
    obtain ⟨v_21, s_21⟩ := r_21
    by_cases c_22 : v_21 = (0 : Int32)
    · have hf := mo_pos hf c_22
      refine mm_adv 15 (cs' := P_X7_lawOf.drop 100) (l' := [(0, .ref 9), (1, .int v1), (5, .int v5), (7, .int v7), (8, .int v8), (9, .ref 15)]) (st' := [.int (8 : Int32), .ref 15]) (h' := (xs_H pt ps pg pr s_21)) (bc' := 0) (bs' := 0) (fun n g => (h_7_tongueOf_9 pt ps pg pr s (k0) v_16 s_16 _ hr_16 (And.intro hi_17 (And.intro (mm_vi rfl) (And.intro (fun q => absurd q c_18) (fun _ => (h_7_hasWord_9 pt ps pg pr (xs_sA s_16 15 (upd (upd (s_16.2.1 15) (k2).toNatClampNeg (v_16)) 7 ((s_16.1 148)))) (v7) v_21 s_21 _ hr_21 (And.intro (fun _ => g) (fun q => absurd c_22 q))))))))) ?_
      refine mm_re (l' := [(0, .ref 9), (1, .int v1)]) (c := [(0, .ref 9), (1, .int v1)]) ?_ rfl rfl
      exact xb_7_lawOf_9_j100 h_11_turnOf h_11_lastOf h_7_hasWord_9 h_7_tongueOf_9 h_11_slopeOf h_3_value_12 s_21 (v1) ((8 : Int32)) _ _ hf hK
    · have hf := mo_neg hf c_22
      obtain ⟨x_23, hx_23, hf⟩ := mo_bind hf
      obtain ⟨hi_23, rfl⟩ := mo_ag_inv hx_23
      obtain ⟨x_24, hx_24, hf⟩ := mo_bind hf
      obtain ⟨hi_24, rfl⟩ := mo_ag_inv hx_24
      by_cases c_25 : ((s_21.2.1 11) (v7).toNatClampNeg) = ((s_21.2.1 11) (v5).toNatClampNeg)
      · have hf := mo_pos hf c_25
        refine mm_adv 26 (cs' := P_X7_lawOf.drop 101) (l' := [(0, .ref 9), (1, .int v1), (5, .int v5), (7, .int v7), (8, .int v8), (9, .ref 15)]) (st' := [.int (1 : Int32), .int (8 : Int32), .ref 15]) (h' := (xs_H pt ps pg pr s_21)) (bc' := 0) (bs' := 0) (fun n g => (h_7_tongueOf_9 pt ps pg pr s (k0) v_16 s_16 _ hr_16 (And.intro hi_17 (And.intro (mm_vi rfl) (And.intro (fun q => absurd q c_18) (fun _ => (h_7_hasWord_9 pt ps pg pr (xs_sA s_16 15 (upd (upd (s_16.2.1 15) (k2).toNatClampNeg (v_16)) 7 ((s_16.1 148)))) (v7) v_21 s_21 _ hr_21 (And.intro (fun q => absurd q c_22) (fun _ => (And.intro hi_23 (And.intro hi_24 (And.intro (fun q => absurd c_25 q) (fun _ => g))))))))))))) ?_
        refine mm_re (l' := [(0, .ref 9), (1, .int v1)]) (c := [(0, .ref 9), (1, .int v1)]) ?_ rfl rfl
        exact xb_7_lawOf_9_j101 h_11_turnOf h_11_lastOf h_7_hasWord_9 h_7_tongueOf_9 h_11_slopeOf h_3_value_12 s_21 (v1) ((1 : Int32)) ((8 : Int32)) _ _ hf hK
      · have hf := mo_neg hf c_25
        refine mm_adv 24 (cs' := P_X7_lawOf.drop 100) (l' := [(0, .ref 9), (1, .int v1), (5, .int v5), (7, .int v7), (8, .int v8), (9, .ref 15)]) (st' := [.int (8 : Int32), .ref 15]) (h' := (xs_H pt ps pg pr s_21)) (bc' := 0) (bs' := 0) (fun n g => (h_7_tongueOf_9 pt ps pg pr s (k0) v_16 s_16 _ hr_16 (And.intro hi_17 (And.intro (mm_vi rfl) (And.intro (fun q => absurd q c_18) (fun _ => (h_7_hasWord_9 pt ps pg pr (xs_sA s_16 15 (upd (upd (s_16.2.1 15) (k2).toNatClampNeg (v_16)) 7 ((s_16.1 148)))) (v7) v_21 s_21 _ hr_21 (And.intro (fun q => absurd q c_22) (fun _ => (And.intro hi_23 (And.intro hi_24 (And.intro (fun _ => g) (fun q => absurd c_25 q))))))))))))) ?_
        refine mm_re (l' := [(0, .ref 9), (1, .int v1)]) (c := [(0, .ref 9), (1, .int v1)]) ?_ rfl rfl
        exact xb_7_lawOf_9_j100 h_11_turnOf h_11_lastOf h_7_hasWord_9 h_7_tongueOf_9 h_11_slopeOf h_3_value_12 s_21 (v1) ((8 : Int32)) _ _ hf hK
noncomputable def xf_7_lawOf_9_j65 (s : xs_S) (v1 : Int32) (v2 : Int32) (v3 : Int32) (v5 : Int32) (v6 : Int32) (v7 : Int32) (v8 : Int32) (k0 : Int32) (k1 : Int32) : Option (Int32 × xs_S) :=
(bif mo_in k1 9 then (if v6 = (0 : Int32) then
(xf_7_lawOf_9_j74 ((xs_sA s 15 (upd (s.2.1 15) (k1).toNatClampNeg (k0)))) (v1) (v5) (v7) (v8) (v2) ((6 : Int32)))
else
(xf_7_lawOf_9_j74 ((xs_sA s 15 (upd (s.2.1 15) (k1).toNatClampNeg (k0)))) (v1) (v5) (v7) (v8) (v3) ((6 : Int32)))) else none)
set_option maxHeartbeats 4000000 in
theorem xb_7_lawOf_9_j65 {C : mm_C} {Q : mm_R} {pt : Value} {ps : Value} {pg : Value} {pr : Value} (h_11_turnOf : xk_11_turnOf C) (h_11_lastOf : xk_11_lastOf C) (h_7_hasWord_9 : xk_7_hasWord_9 C) (h_7_tongueOf_9 : xk_7_tongueOf_9 C) (h_11_slopeOf : xk_11_slopeOf C) (h_3_value_12 : xk_3_value_12 C) (s : xs_S) (v1 : Int32) (v2 : Int32) (v3 : Int32) (v5 : Int32) (v6 : Int32) (v7 : Int32) (v8 : Int32) (k0 : Int32) (k1 : Int32) (v : Int32) (s2 : xs_S) (hf : xf_7_lawOf_9_j65 s v1 v2 v3 v5 v6 v7 v8 k0 k1 = some (v, s2)) (hK : Q (some (.int v)) (xs_H pt ps pg pr s2)) : mm_go C mm_Mk mm_Fk P_X7_lawOf Q (P_X7_lawOf.drop 65) [(0, .ref 9), (1, .int v1), (2, .int v2), (3, .int v3), (5, .int v5), (6, .int v6), (7, .int v7), (8, .int v8), (9, .ref 15)] [.int k0, .int k1, .ref 15] (xs_H pt ps pg pr s) 0 0 := by
  unfold xf_7_lawOf_9_j65 at hf
  obtain ⟨hi_14, hf⟩ := mo_if hf
  by_cases c_15 : v6 = (0 : Int32)
  · have hf := mo_pos hf c_15
    refine mm_adv 7 (cs' := P_X7_lawOf.drop 74) (l' := [(0, .ref 9), (1, .int v1), (2, .int v2), (3, .int v3), (5, .int v5), (6, .int v6), (7, .int v7), (8, .int v8), (9, .ref 15)]) (st' := [.int v2, .ref 9, .int (6 : Int32), .ref 15]) (h' := (xs_H pt ps pg pr (xs_sA s 15 (upd (s.2.1 15) (k1).toNatClampNeg (k0))))) (bc' := 0) (bs' := 0) (fun n g => (And.intro hi_14 (And.intro (fun _ => g) (fun q => absurd c_15 q)))) ?_
    refine mm_re (l' := [(0, .ref 9), (1, .int v1), (5, .int v5), (7, .int v7), (8, .int v8), (9, .ref 15)]) (c := [(0, .ref 9), (1, .int v1), (5, .int v5), (7, .int v7), (8, .int v8), (9, .ref 15)]) ?_ rfl rfl
    exact xb_7_lawOf_9_j74 h_11_turnOf h_11_lastOf h_7_hasWord_9 h_7_tongueOf_9 h_11_slopeOf h_3_value_12 (xs_sA s 15 (upd (s.2.1 15) (k1).toNatClampNeg (k0))) (v1) (v5) (v7) (v8) (v2) ((6 : Int32)) _ _ hf hK
  · have hf := mo_neg hf c_15
    refine mm_adv 8 (cs' := P_X7_lawOf.drop 74) (l' := [(0, .ref 9), (1, .int v1), (2, .int v2), (3, .int v3), (5, .int v5), (6, .int v6), (7, .int v7), (8, .int v8), (9, .ref 15)]) (st' := [.int v3, .ref 9, .int (6 : Int32), .ref 15]) (h' := (xs_H pt ps pg pr (xs_sA s 15 (upd (s.2.1 15) (k1).toNatClampNeg (k0))))) (bc' := 0) (bs' := 0) (fun n g => (And.intro hi_14 (And.intro (fun q => absurd q c_15) (fun _ => g)))) ?_
    refine mm_re (l' := [(0, .ref 9), (1, .int v1), (5, .int v5), (7, .int v7), (8, .int v8), (9, .ref 15)]) (c := [(0, .ref 9), (1, .int v1), (5, .int v5), (7, .int v7), (8, .int v8), (9, .ref 15)]) ?_ rfl rfl
    exact xb_7_lawOf_9_j74 h_11_turnOf h_11_lastOf h_7_hasWord_9 h_7_tongueOf_9 h_11_slopeOf h_3_value_12 (xs_sA s 15 (upd (s.2.1 15) (k1).toNatClampNeg (k0))) (v1) (v5) (v7) (v8) (v3) ((6 : Int32)) _ _ hf hK
noncomputable def xf_7_lawOf_9_j57 (s : xs_S) (v1 : Int32) (v2 : Int32) (v3 : Int32) (v5 : Int32) (v6 : Int32) (v7 : Int32) (v8 : Int32) (k0 : Int32) (k1 : Int32) : Option (Int32 × xs_S) :=
(bif mo_in k1 9 then (if v8 = (0 : Int32) then
(xf_7_lawOf_9_j65 ((xs_sA s 15 (upd (s.2.1 15) (k1).toNatClampNeg (k0)))) (v1) (v2) (v3) (v5) (v6) (v7) (v8) ((0 : Int32)) ((5 : Int32)))
else
(xf_7_lawOf_9_j65 ((xs_sA s 15 (upd (s.2.1 15) (k1).toNatClampNeg (k0)))) (v1) (v2) (v3) (v5) (v6) (v7) (v8) (v5) ((5 : Int32)))) else none)
set_option maxHeartbeats 4000000 in
theorem xb_7_lawOf_9_j57 {C : mm_C} {Q : mm_R} {pt : Value} {ps : Value} {pg : Value} {pr : Value} (h_11_turnOf : xk_11_turnOf C) (h_11_lastOf : xk_11_lastOf C) (h_7_hasWord_9 : xk_7_hasWord_9 C) (h_7_tongueOf_9 : xk_7_tongueOf_9 C) (h_11_slopeOf : xk_11_slopeOf C) (h_3_value_12 : xk_3_value_12 C) (s : xs_S) (v1 : Int32) (v2 : Int32) (v3 : Int32) (v5 : Int32) (v6 : Int32) (v7 : Int32) (v8 : Int32) (k0 : Int32) (k1 : Int32) (v : Int32) (s2 : xs_S) (hf : xf_7_lawOf_9_j57 s v1 v2 v3 v5 v6 v7 v8 k0 k1 = some (v, s2)) (hK : Q (some (.int v)) (xs_H pt ps pg pr s2)) : mm_go C mm_Mk mm_Fk P_X7_lawOf Q (P_X7_lawOf.drop 57) [(0, .ref 9), (1, .int v1), (2, .int v2), (3, .int v3), (5, .int v5), (6, .int v6), (7, .int v7), (8, .int v8), (9, .ref 15)] [.int k0, .int k1, .ref 15] (xs_H pt ps pg pr s) 0 0 := by
  unfold xf_7_lawOf_9_j57 at hf
  obtain ⟨hi_12, hf⟩ := mo_if hf
  by_cases c_13 : v8 = (0 : Int32)
  · have hf := mo_pos hf c_13
    refine mm_adv 6 (cs' := P_X7_lawOf.drop 65) (l' := [(0, .ref 9), (1, .int v1), (2, .int v2), (3, .int v3), (5, .int v5), (6, .int v6), (7, .int v7), (8, .int v8), (9, .ref 15)]) (st' := [.int (0 : Int32), .int (5 : Int32), .ref 15]) (h' := (xs_H pt ps pg pr (xs_sA s 15 (upd (s.2.1 15) (k1).toNatClampNeg (k0))))) (bc' := 0) (bs' := 0) (fun n g => (And.intro hi_12 (And.intro (fun _ => g) (fun q => absurd c_13 q)))) ?_
    refine mm_re (l' := [(0, .ref 9), (1, .int v1), (2, .int v2), (3, .int v3), (5, .int v5), (6, .int v6), (7, .int v7), (8, .int v8), (9, .ref 15)]) (c := [(0, .ref 9), (1, .int v1), (2, .int v2), (3, .int v3), (5, .int v5), (6, .int v6), (7, .int v7), (8, .int v8), (9, .ref 15)]) ?_ rfl rfl
    exact xb_7_lawOf_9_j65 h_11_turnOf h_11_lastOf h_7_hasWord_9 h_7_tongueOf_9 h_11_slopeOf h_3_value_12 (xs_sA s 15 (upd (s.2.1 15) (k1).toNatClampNeg (k0))) (v1) (v2) (v3) (v5) (v6) (v7) (v8) ((0 : Int32)) ((5 : Int32)) _ _ hf hK
  · have hf := mo_neg hf c_13
    refine mm_adv 7 (cs' := P_X7_lawOf.drop 65) (l' := [(0, .ref 9), (1, .int v1), (2, .int v2), (3, .int v3), (5, .int v5), (6, .int v6), (7, .int v7), (8, .int v8), (9, .ref 15)]) (st' := [.int v5, .int (5 : Int32), .ref 15]) (h' := (xs_H pt ps pg pr (xs_sA s 15 (upd (s.2.1 15) (k1).toNatClampNeg (k0))))) (bc' := 0) (bs' := 0) (fun n g => (And.intro hi_12 (And.intro (fun q => absurd q c_13) (fun _ => g)))) ?_
    refine mm_re (l' := [(0, .ref 9), (1, .int v1), (2, .int v2), (3, .int v3), (5, .int v5), (6, .int v6), (7, .int v7), (8, .int v8), (9, .ref 15)]) (c := [(0, .ref 9), (1, .int v1), (2, .int v2), (3, .int v3), (5, .int v5), (6, .int v6), (7, .int v7), (8, .int v8), (9, .ref 15)]) ?_ rfl rfl
    exact xb_7_lawOf_9_j65 h_11_turnOf h_11_lastOf h_7_hasWord_9 h_7_tongueOf_9 h_11_slopeOf h_3_value_12 (xs_sA s 15 (upd (s.2.1 15) (k1).toNatClampNeg (k0))) (v1) (v2) (v3) (v5) (v6) (v7) (v8) (v5) ((5 : Int32)) _ _ hf hK
noncomputable def xf_7_lawOf_9_j37 (s : xs_S) (v1 : Int32) (v2 : Int32) (v3 : Int32) (v4 : Int32) (v5 : Int32) (v6 : Int32) (v7 : Int32) (v8 : Int32) (k0 : Int32) (k2 : Int32) : Option (Int32 × xs_S) :=
((xf_7_tongueOf_9 s (k0)).bind fun (v_8, s_8) =>
(bif mo_in k2 9 then ((xf_11_slopeOf (v4)).bind fun v_10 =>
(if v6 = (0 : Int32) then
(xf_7_lawOf_9_j57 ((xs_sA s_8 15 (upd (upd (upd (s_8.2.1 15) (k2).toNatClampNeg (v_8)) 2 (v_10)) 3 ((v7 + (1 : Int32)))))) (v1) (v2) (v3) (v5) (v6) (v7) (v8) ((1 : Int32)) ((4 : Int32)))
else
(xf_7_lawOf_9_j57 ((xs_sA s_8 15 (upd (upd (upd (s_8.2.1 15) (k2).toNatClampNeg (v_8)) 2 (v_10)) 3 ((v7 + (1 : Int32)))))) (v1) (v2) (v3) (v5) (v6) (v7) (v8) ((0 : Int32)) ((4 : Int32))))) else none))
set_option maxHeartbeats 4000000 in
theorem xb_7_lawOf_9_j37 {C : mm_C} {Q : mm_R} {pt : Value} {ps : Value} {pg : Value} {pr : Value} (h_11_turnOf : xk_11_turnOf C) (h_11_lastOf : xk_11_lastOf C) (h_7_hasWord_9 : xk_7_hasWord_9 C) (h_7_tongueOf_9 : xk_7_tongueOf_9 C) (h_11_slopeOf : xk_11_slopeOf C) (h_3_value_12 : xk_3_value_12 C) (s : xs_S) (v1 : Int32) (v2 : Int32) (v3 : Int32) (v4 : Int32) (v5 : Int32) (v6 : Int32) (v7 : Int32) (v8 : Int32) (k0 : Int32) (k2 : Int32) (v : Int32) (s2 : xs_S) (hf : xf_7_lawOf_9_j37 s v1 v2 v3 v4 v5 v6 v7 v8 k0 k2 = some (v, s2)) (hK : Q (some (.int v)) (xs_H pt ps pg pr s2)) : mm_go C mm_Mk mm_Fk P_X7_lawOf Q (P_X7_lawOf.drop 37) [(0, .ref 9), (1, .int v1), (2, .int v2), (3, .int v3), (4, .int v4), (5, .int v5), (6, .int v6), (7, .int v7), (8, .int v8), (9, .ref 15)] [.int k0, .ref 9, .int k2, .ref 15] (xs_H pt ps pg pr s) 0 0 := by
  unfold xf_7_lawOf_9_j37 at hf
  obtain ⟨r_8, hr_8, hf⟩ := mo_bind hf
  obtain ⟨v_8, s_8⟩ := r_8
  obtain ⟨hi_9, hf⟩ := mo_if hf
  obtain ⟨v_10, hr_10, hf⟩ := mo_bind hf
  by_cases c_11 : v6 = (0 : Int32)
  · have hf := mo_pos hf c_11
    refine mm_adv 18 (cs' := P_X7_lawOf.drop 57) (l' := [(0, .ref 9), (1, .int v1), (2, .int v2), (3, .int v3), (4, .int v4), (5, .int v5), (6, .int v6), (7, .int v7), (8, .int v8), (9, .ref 15)]) (st' := [.int (1 : Int32), .int (4 : Int32), .ref 15]) (h' := (xs_H pt ps pg pr (xs_sA s_8 15 (upd (upd (upd (s_8.2.1 15) (k2).toNatClampNeg (v_8)) 2 (v_10)) 3 ((v7 + (1 : Int32))))))) (bc' := 0) (bs' := 0) (fun n g => (h_7_tongueOf_9 pt ps pg pr s (k0) v_8 s_8 _ hr_8 (And.intro hi_9 (h_11_slopeOf _ (v4) v_10 _ hr_10 (And.intro (mm_vi rfl) (And.intro (mm_vi rfl) (And.intro (fun _ => g) (fun q => absurd c_11 q)))))))) ?_
    refine mm_re (l' := [(0, .ref 9), (1, .int v1), (2, .int v2), (3, .int v3), (5, .int v5), (6, .int v6), (7, .int v7), (8, .int v8), (9, .ref 15)]) (c := [(0, .ref 9), (1, .int v1), (2, .int v2), (3, .int v3), (5, .int v5), (6, .int v6), (7, .int v7), (8, .int v8), (9, .ref 15)]) ?_ rfl rfl
    exact xb_7_lawOf_9_j57 h_11_turnOf h_11_lastOf h_7_hasWord_9 h_7_tongueOf_9 h_11_slopeOf h_3_value_12 (xs_sA s_8 15 (upd (upd (upd (s_8.2.1 15) (k2).toNatClampNeg (v_8)) 2 (v_10)) 3 ((v7 + (1 : Int32))))) (v1) (v2) (v3) (v5) (v6) (v7) (v8) ((1 : Int32)) ((4 : Int32)) _ _ hf hK
  · have hf := mo_neg hf c_11
    refine mm_adv 19 (cs' := P_X7_lawOf.drop 57) (l' := [(0, .ref 9), (1, .int v1), (2, .int v2), (3, .int v3), (4, .int v4), (5, .int v5), (6, .int v6), (7, .int v7), (8, .int v8), (9, .ref 15)]) (st' := [.int (0 : Int32), .int (4 : Int32), .ref 15]) (h' := (xs_H pt ps pg pr (xs_sA s_8 15 (upd (upd (upd (s_8.2.1 15) (k2).toNatClampNeg (v_8)) 2 (v_10)) 3 ((v7 + (1 : Int32))))))) (bc' := 0) (bs' := 0) (fun n g => (h_7_tongueOf_9 pt ps pg pr s (k0) v_8 s_8 _ hr_8 (And.intro hi_9 (h_11_slopeOf _ (v4) v_10 _ hr_10 (And.intro (mm_vi rfl) (And.intro (mm_vi rfl) (And.intro (fun q => absurd q c_11) (fun _ => g)))))))) ?_
    refine mm_re (l' := [(0, .ref 9), (1, .int v1), (2, .int v2), (3, .int v3), (5, .int v5), (6, .int v6), (7, .int v7), (8, .int v8), (9, .ref 15)]) (c := [(0, .ref 9), (1, .int v1), (2, .int v2), (3, .int v3), (5, .int v5), (6, .int v6), (7, .int v7), (8, .int v8), (9, .ref 15)]) ?_ rfl rfl
    exact xb_7_lawOf_9_j57 h_11_turnOf h_11_lastOf h_7_hasWord_9 h_7_tongueOf_9 h_11_slopeOf h_3_value_12 (xs_sA s_8 15 (upd (upd (upd (s_8.2.1 15) (k2).toNatClampNeg (v_8)) 2 (v_10)) 3 ((v7 + (1 : Int32))))) (v1) (v2) (v3) (v5) (v6) (v7) (v8) ((0 : Int32)) ((4 : Int32)) _ _ hf hK
noncomputable def xf_7_lawOf_9_j28 (s : xs_S) (v1 : Int32) (v2 : Int32) (v3 : Int32) (v4 : Int32) (v5 : Int32) (v6 : Int32) (v7 : Int32) (v8 : Int32) (k0 : Int32) (k1 : Int32) : Option (Int32 × xs_S) :=
(bif mo_in k1 9 then (if v6 = (0 : Int32) then
(xf_7_lawOf_9_j37 ((xs_sA s 15 (upd (s.2.1 15) (k1).toNatClampNeg (k0)))) (v1) (v2) (v3) (v4) (v5) (v6) (v7) (v8) (v3) ((1 : Int32)))
else
(xf_7_lawOf_9_j37 ((xs_sA s 15 (upd (s.2.1 15) (k1).toNatClampNeg (k0)))) (v1) (v2) (v3) (v4) (v5) (v6) (v7) (v8) (v2) ((1 : Int32)))) else none)
set_option maxHeartbeats 4000000 in
theorem xb_7_lawOf_9_j28 {C : mm_C} {Q : mm_R} {pt : Value} {ps : Value} {pg : Value} {pr : Value} (h_11_turnOf : xk_11_turnOf C) (h_11_lastOf : xk_11_lastOf C) (h_7_hasWord_9 : xk_7_hasWord_9 C) (h_7_tongueOf_9 : xk_7_tongueOf_9 C) (h_11_slopeOf : xk_11_slopeOf C) (h_3_value_12 : xk_3_value_12 C) (s : xs_S) (v1 : Int32) (v2 : Int32) (v3 : Int32) (v4 : Int32) (v5 : Int32) (v6 : Int32) (v7 : Int32) (v8 : Int32) (k0 : Int32) (k1 : Int32) (v : Int32) (s2 : xs_S) (hf : xf_7_lawOf_9_j28 s v1 v2 v3 v4 v5 v6 v7 v8 k0 k1 = some (v, s2)) (hK : Q (some (.int v)) (xs_H pt ps pg pr s2)) : mm_go C mm_Mk mm_Fk P_X7_lawOf Q (P_X7_lawOf.drop 28) [(0, .ref 9), (1, .int v1), (2, .int v2), (3, .int v3), (4, .int v4), (5, .int v5), (6, .int v6), (7, .int v7), (8, .int v8), (9, .ref 15)] [.int k0, .int k1, .ref 15] (xs_H pt ps pg pr s) 0 0 := by
  unfold xf_7_lawOf_9_j28 at hf
  obtain ⟨hi_6, hf⟩ := mo_if hf
  by_cases c_7 : v6 = (0 : Int32)
  · have hf := mo_pos hf c_7
    refine mm_adv 7 (cs' := P_X7_lawOf.drop 37) (l' := [(0, .ref 9), (1, .int v1), (2, .int v2), (3, .int v3), (4, .int v4), (5, .int v5), (6, .int v6), (7, .int v7), (8, .int v8), (9, .ref 15)]) (st' := [.int v3, .ref 9, .int (1 : Int32), .ref 15]) (h' := (xs_H pt ps pg pr (xs_sA s 15 (upd (s.2.1 15) (k1).toNatClampNeg (k0))))) (bc' := 0) (bs' := 0) (fun n g => (And.intro hi_6 (And.intro (fun _ => g) (fun q => absurd c_7 q)))) ?_
    refine mm_re (l' := [(0, .ref 9), (1, .int v1), (2, .int v2), (3, .int v3), (4, .int v4), (5, .int v5), (6, .int v6), (7, .int v7), (8, .int v8), (9, .ref 15)]) (c := [(0, .ref 9), (1, .int v1), (2, .int v2), (3, .int v3), (4, .int v4), (5, .int v5), (6, .int v6), (7, .int v7), (8, .int v8), (9, .ref 15)]) ?_ rfl rfl
    exact xb_7_lawOf_9_j37 h_11_turnOf h_11_lastOf h_7_hasWord_9 h_7_tongueOf_9 h_11_slopeOf h_3_value_12 (xs_sA s 15 (upd (s.2.1 15) (k1).toNatClampNeg (k0))) (v1) (v2) (v3) (v4) (v5) (v6) (v7) (v8) (v3) ((1 : Int32)) _ _ hf hK
  · have hf := mo_neg hf c_7
    refine mm_adv 8 (cs' := P_X7_lawOf.drop 37) (l' := [(0, .ref 9), (1, .int v1), (2, .int v2), (3, .int v3), (4, .int v4), (5, .int v5), (6, .int v6), (7, .int v7), (8, .int v8), (9, .ref 15)]) (st' := [.int v2, .ref 9, .int (1 : Int32), .ref 15]) (h' := (xs_H pt ps pg pr (xs_sA s 15 (upd (s.2.1 15) (k1).toNatClampNeg (k0))))) (bc' := 0) (bs' := 0) (fun n g => (And.intro hi_6 (And.intro (fun q => absurd q c_7) (fun _ => g)))) ?_
    refine mm_re (l' := [(0, .ref 9), (1, .int v1), (2, .int v2), (3, .int v3), (4, .int v4), (5, .int v5), (6, .int v6), (7, .int v7), (8, .int v8), (9, .ref 15)]) (c := [(0, .ref 9), (1, .int v1), (2, .int v2), (3, .int v3), (4, .int v4), (5, .int v5), (6, .int v6), (7, .int v7), (8, .int v8), (9, .ref 15)]) ?_ rfl rfl
    exact xb_7_lawOf_9_j37 h_11_turnOf h_11_lastOf h_7_hasWord_9 h_7_tongueOf_9 h_11_slopeOf h_3_value_12 (xs_sA s 15 (upd (s.2.1 15) (k1).toNatClampNeg (k0))) (v1) (v2) (v3) (v4) (v5) (v6) (v7) (v8) (v2) ((1 : Int32)) _ _ hf hK
noncomputable def xf_7_lawOf_9_j6 (s : xs_S) (v1 : Int32) (v2 : Int32) (v3 : Int32) (v4 : Int32) (v5 : Int32) (k0 : Int32) : Option (Int32 × xs_S) :=
((xf_11_lastOf (v4)).bind fun v_3 =>
((xf_7_hasWord_9 s (v5)).bind fun (v_4, s_4) =>
(if v_4 = (0 : Int32) then
(xf_7_lawOf_9_j28 (s_4) (v1) (v2) (v3) (v4) (v5) (k0) (v_3) (v_4) ((0 : Int32)) ((0 : Int32)))
else
((mo_ag 6 (s_4.2.1 11) v5).bind fun x_26 =>
(xf_7_lawOf_9_j28 (s_4) (v1) (v2) (v3) (v4) (v5) (k0) (v_3) (v_4) (x_26) ((0 : Int32)))))))
set_option maxHeartbeats 4000000 in
theorem xb_7_lawOf_9_j6 {C : mm_C} {Q : mm_R} {pt : Value} {ps : Value} {pg : Value} {pr : Value} (h_11_turnOf : xk_11_turnOf C) (h_11_lastOf : xk_11_lastOf C) (h_7_hasWord_9 : xk_7_hasWord_9 C) (h_7_tongueOf_9 : xk_7_tongueOf_9 C) (h_11_slopeOf : xk_11_slopeOf C) (h_3_value_12 : xk_3_value_12 C) (s : xs_S) (v1 : Int32) (v2 : Int32) (v3 : Int32) (v4 : Int32) (v5 : Int32) (k0 : Int32) (v : Int32) (s2 : xs_S) (hf : xf_7_lawOf_9_j6 s v1 v2 v3 v4 v5 k0 = some (v, s2)) (hK : Q (some (.int v)) (xs_H pt ps pg pr s2)) : mm_go C mm_Mk mm_Fk P_X7_lawOf Q (P_X7_lawOf.drop 6) [(0, .ref 9), (1, .int v1), (2, .int v2), (3, .int v3), (4, .int v4), (5, .int v5)] [.int k0] (xs_H pt ps pg pr s) 0 0 := by
  unfold xf_7_lawOf_9_j6 at hf
  obtain ⟨v_3, hr_3, hf⟩ := mo_bind hf
  obtain ⟨r_4, hr_4, hf⟩ := mo_bind hf
  obtain ⟨v_4, s_4⟩ := r_4
  by_cases c_5 : v_4 = (0 : Int32)
  · have hf := mo_pos hf c_5
    refine mm_adv 17 (cs' := P_X7_lawOf.drop 28) (l' := [(9, .ref 15), (8, .int v_4), (7, .int v_3), (6, .int k0), (0, .ref 9), (1, .int v1), (2, .int v2), (3, .int v3), (4, .int v4), (5, .int v5)]) (st' := [.int (0 : Int32), .int (0 : Int32), .ref 15]) (h' := (xs_H pt ps pg pr s_4)) (bc' := 0) (bs' := 0) (fun n g => (h_11_lastOf _ (v4) v_3 _ hr_3 (h_7_hasWord_9 pt ps pg pr s (v5) v_4 s_4 _ hr_4 (And.intro (fun _ => g) (fun q => absurd c_5 q))))) ?_
    refine mm_re (l' := [(0, .ref 9), (1, .int v1), (2, .int v2), (3, .int v3), (4, .int v4), (5, .int v5), (6, .int k0), (7, .int v_3), (8, .int v_4), (9, .ref 15)]) (c := [(0, .ref 9), (1, .int v1), (2, .int v2), (3, .int v3), (4, .int v4), (5, .int v5), (6, .int k0), (7, .int v_3), (8, .int v_4), (9, .ref 15)]) ?_ rfl rfl
    exact xb_7_lawOf_9_j28 h_11_turnOf h_11_lastOf h_7_hasWord_9 h_7_tongueOf_9 h_11_slopeOf h_3_value_12 s_4 (v1) (v2) (v3) (v4) (v5) (k0) (v_3) (v_4) ((0 : Int32)) ((0 : Int32)) _ _ hf hK
  · have hf := mo_neg hf c_5
    obtain ⟨x_26, hx_26, hf⟩ := mo_bind hf
    obtain ⟨hi_26, rfl⟩ := mo_ag_inv hx_26
    refine mm_adv 21 (cs' := P_X7_lawOf.drop 28) (l' := [(9, .ref 15), (8, .int v_4), (7, .int v_3), (6, .int k0), (0, .ref 9), (1, .int v1), (2, .int v2), (3, .int v3), (4, .int v4), (5, .int v5)]) (st' := [.int ((s_4.2.1 11) (v5).toNatClampNeg), .int (0 : Int32), .ref 15]) (h' := (xs_H pt ps pg pr s_4)) (bc' := 0) (bs' := 0) (fun n g => (h_11_lastOf _ (v4) v_3 _ hr_3 (h_7_hasWord_9 pt ps pg pr s (v5) v_4 s_4 _ hr_4 (And.intro (fun q => absurd q c_5) (fun _ => (And.intro hi_26 g)))))) ?_
    refine mm_re (l' := [(0, .ref 9), (1, .int v1), (2, .int v2), (3, .int v3), (4, .int v4), (5, .int v5), (6, .int k0), (7, .int v_3), (8, .int v_4), (9, .ref 15)]) (c := [(0, .ref 9), (1, .int v1), (2, .int v2), (3, .int v3), (4, .int v4), (5, .int v5), (6, .int k0), (7, .int v_3), (8, .int v_4), (9, .ref 15)]) ?_ rfl rfl
    exact xb_7_lawOf_9_j28 h_11_turnOf h_11_lastOf h_7_hasWord_9 h_7_tongueOf_9 h_11_slopeOf h_3_value_12 s_4 (v1) (v2) (v3) (v4) (v5) (k0) (v_3) (v_4) (((s_4.2.1 11) (v5).toNatClampNeg)) ((0 : Int32)) _ _ hf hK
noncomputable def xf_7_lawOf_9 (s : xs_S) (a0 : Int32) (a1 : Int32) (a2 : Int32) (a3 : Int32) (a4 : Int32) : Option (Int32 × xs_S) :=
((xf_11_turnOf (a3)).bind fun v_1 =>
(if v_1 = (0 : Int32) then
(xf_7_lawOf_9_j6 (s) (a0) (a1) (a2) (a3) (a4) ((1 : Int32)))
else
(xf_7_lawOf_9_j6 (s) (a0) (a1) (a2) (a3) (a4) ((0 : Int32)))))
set_option maxHeartbeats 4000000 in
theorem xb_7_lawOf_9 {C : mm_C} {Q : mm_R} {pt : Value} {ps : Value} {pg : Value} {pr : Value} (h_11_turnOf : xk_11_turnOf C) (h_11_lastOf : xk_11_lastOf C) (h_7_hasWord_9 : xk_7_hasWord_9 C) (h_7_tongueOf_9 : xk_7_tongueOf_9 C) (h_11_slopeOf : xk_11_slopeOf C) (h_3_value_12 : xk_3_value_12 C) (s : xs_S) (a0 : Int32) (a1 : Int32) (a2 : Int32) (a3 : Int32) (a4 : Int32) (v : Int32) (s2 : xs_S) (hf : xf_7_lawOf_9 s a0 a1 a2 a3 a4 = some (v, s2)) (hK : Q (some (.int v)) (xs_H pt ps pg pr s2)) : mm_go C mm_Mk mm_Fk P_X7_lawOf Q P_X7_lawOf [(0, .ref 9), (1, .int a0), (2, .int a1), (3, .int a2), (4, .int a3), (5, .int a4)] [] (xs_H pt ps pg pr s) 0 0 := by
  unfold xf_7_lawOf_9 at hf
  obtain ⟨v_1, hr_1, hf⟩ := mo_bind hf
  by_cases c_2 : v_1 = (0 : Int32)
  · have hf := mo_pos hf c_2
    refine mm_adv 5 (cs' := P_X7_lawOf.drop 6) (l' := [(0, .ref 9), (1, .int a0), (2, .int a1), (3, .int a2), (4, .int a3), (5, .int a4)]) (st' := [.int (1 : Int32)]) (h' := (xs_H pt ps pg pr s)) (bc' := 0) (bs' := 0) (fun n g => (h_11_turnOf _ (a3) v_1 _ hr_1 (And.intro (fun q => absurd c_2 q) (fun _ => g)))) ?_
    refine mm_re (l' := [(0, .ref 9), (1, .int a0), (2, .int a1), (3, .int a2), (4, .int a3), (5, .int a4)]) (c := [(0, .ref 9), (1, .int a0), (2, .int a1), (3, .int a2), (4, .int a3), (5, .int a4)]) ?_ rfl rfl
    exact xb_7_lawOf_9_j6 h_11_turnOf h_11_lastOf h_7_hasWord_9 h_7_tongueOf_9 h_11_slopeOf h_3_value_12 s (a0) (a1) (a2) (a3) (a4) ((1 : Int32)) _ _ hf hK
  · have hf := mo_neg hf c_2
    refine mm_adv 4 (cs' := P_X7_lawOf.drop 6) (l' := [(0, .ref 9), (1, .int a0), (2, .int a1), (3, .int a2), (4, .int a3), (5, .int a4)]) (st' := [.int (0 : Int32)]) (h' := (xs_H pt ps pg pr s)) (bc' := 0) (bs' := 0) (fun n g => (h_11_turnOf _ (a3) v_1 _ hr_1 (And.intro (fun _ => g) (fun q => absurd c_2 q)))) ?_
    refine mm_re (l' := [(0, .ref 9), (1, .int a0), (2, .int a1), (3, .int a2), (4, .int a3), (5, .int a4)]) (c := [(0, .ref 9), (1, .int a0), (2, .int a1), (3, .int a2), (4, .int a3), (5, .int a4)]) ?_ rfl rfl
    exact xb_7_lawOf_9_j6 h_11_turnOf h_11_lastOf h_7_hasWord_9 h_7_tongueOf_9 h_11_slopeOf h_3_value_12 s (a0) (a1) (a2) (a3) (a4) ((0 : Int32)) _ _ hf hK
def xk_7_lawOf_9 (C : mm_C) : Prop := ∀ (pt : Value) (ps : Value) (pg : Value) (pr : Value) (s : xs_S) (a0 : Int32) (a1 : Int32) (a2 : Int32) (a3 : Int32) (a4 : Int32) (v : Int32) (s2 : xs_S) (Q : mm_R), xf_7_lawOf_9 s a0 a1 a2 a3 a4 = some (v, s2) → Q (some (.int v)) (xs_H pt ps pg pr s2) → C 193 [.ref 9, .int a0, .int a1, .int a2, .int a3, .int a4] (xs_H pt ps pg pr s) Q
-- 11_within
noncomputable def xf_11_within (a0 : Int32) (a1 : Int32) : Option (Int32) :=
(if (0 : Int32) ≤ a0 then
(if a0 ≤ a1 then
some (a0)
else
some (a1))
else
some ((0 : Int32)))
set_option maxHeartbeats 4000000 in
theorem xb_11_within {C : mm_C} {Q : mm_R}  {h : mm_H} (a0 : Int32) (a1 : Int32) (v : Int32) (hf : xf_11_within a0 a1 = some v) (hK : Q (some (.int v)) h) : mm_go C mm_Mk mm_Fk P_X11_within Q P_X11_within [(0, .int a0), (1, .int a1)] [] h 0 0 := by
  unfold xf_11_within at hf
  by_cases c_1 : (0 : Int32) ≤ a0
  · have hf := mo_pos hf c_1
    by_cases c_2 : a0 ≤ a1
    · have hf := mo_pos hf c_2
      obtain rfl := Option.some.inj hf
      exact ⟨7, (And.intro (fun _ => (And.intro (fun _ => hK) (fun q => absurd c_2 q))) (fun q => absurd c_1 q))⟩
    · have hf := mo_neg hf c_2
      obtain rfl := Option.some.inj hf
      exact ⟨8, (And.intro (fun _ => (And.intro (fun q => absurd q c_2) (fun _ => hK))) (fun q => absurd c_1 q))⟩
  · have hf := mo_neg hf c_1
    obtain rfl := Option.some.inj hf
    exact ⟨4, (And.intro (fun q => absurd q c_1) (fun _ => hK))⟩
def xk_11_within (C : mm_C) : Prop := ∀ (h : mm_H) (a0 : Int32) (a1 : Int32) (v : Int32) (Q : mm_R), xf_11_within a0 a1 = some v → Q (some (.int v)) h → C 275 [.int a0, .int a1] h Q
-- 1_pushed
noncomputable def xf_1_pushed_j25 (v2 : Int32) (k0 : Int32) (k1 : Int32) : Option (Int32) :=
((xf_11_standingOf (k1) (k0) (v2)).bind fun v_7 =>
some (v_7))
set_option maxHeartbeats 4000000 in
theorem xb_1_pushed_j25 {C : mm_C} {Q : mm_R} (h_11_turnOf : xk_11_turnOf C) (h_11_slopeOf : xk_11_slopeOf C) (h_11_within : xk_11_within C) (h_11_standingOf : xk_11_standingOf C) {h : mm_H} (v2 : Int32) (k0 : Int32) (k1 : Int32) (v : Int32) (hf : xf_1_pushed_j25 v2 k0 k1 = some v) (hK : Q (some (.int v)) h) : mm_go C mm_Mk mm_Fk P_X1_pushed Q (P_X1_pushed.drop 25) [(2, .int v2)] [.int k0, .int k1] h 0 0 := by
  unfold xf_1_pushed_j25 at hf
  obtain ⟨v_7, hr_7, hf⟩ := mo_bind hf
  obtain rfl := Option.some.inj hf
  exact ⟨3, (h_11_standingOf _ (k1) (k0) (v2) v_7 _ hr_7 hK)⟩
noncomputable def xf_1_pushed_j15 (v2 : Int32) (v3 : Int32) (k0 : Int32) (k1 : Int32) : Option (Int32) :=
((xf_11_within ((k1 + k0)) ((20 : Int32))).bind fun v_5 =>
(if v3 = (0 : Int32) then
(xf_1_pushed_j25 (v2) ((0 : Int32)) (v_5))
else
(xf_1_pushed_j25 (v2) ((1 : Int32)) (v_5))))
set_option maxHeartbeats 4000000 in
theorem xb_1_pushed_j15 {C : mm_C} {Q : mm_R} (h_11_turnOf : xk_11_turnOf C) (h_11_slopeOf : xk_11_slopeOf C) (h_11_within : xk_11_within C) (h_11_standingOf : xk_11_standingOf C) {h : mm_H} (v2 : Int32) (v3 : Int32) (k0 : Int32) (k1 : Int32) (v : Int32) (hf : xf_1_pushed_j15 v2 v3 k0 k1 = some v) (hK : Q (some (.int v)) h) : mm_go C mm_Mk mm_Fk P_X1_pushed Q (P_X1_pushed.drop 15) [(2, .int v2), (3, .int v3)] [.int k0, .int k1] h 0 0 := by
  unfold xf_1_pushed_j15 at hf
  obtain ⟨v_5, hr_5, hf⟩ := mo_bind hf
  by_cases c_6 : v3 = (0 : Int32)
  · have hf := mo_pos hf c_6
    refine mm_adv 8 (cs' := P_X1_pushed.drop 25) (l' := [(4, .int (k1 + k0)), (2, .int v2), (3, .int v3)]) (st' := [.int (0 : Int32), .int v_5]) (h' := h) (bc' := 0) (bs' := 0) (fun n g => (h_11_within _ ((k1 + k0)) ((20 : Int32)) v_5 _ hr_5 (And.intro (fun _ => g) (fun q => absurd c_6 q)))) ?_
    refine mm_re (l' := [(2, .int v2)]) (c := [(2, .int v2)]) ?_ rfl rfl
    exact xb_1_pushed_j25 h_11_turnOf h_11_slopeOf h_11_within h_11_standingOf (v2) ((0 : Int32)) (v_5) _ hf hK
  · have hf := mo_neg hf c_6
    refine mm_adv 9 (cs' := P_X1_pushed.drop 25) (l' := [(4, .int (k1 + k0)), (2, .int v2), (3, .int v3)]) (st' := [.int (1 : Int32), .int v_5]) (h' := h) (bc' := 0) (bs' := 0) (fun n g => (h_11_within _ ((k1 + k0)) ((20 : Int32)) v_5 _ hr_5 (And.intro (fun q => absurd q c_6) (fun _ => g)))) ?_
    refine mm_re (l' := [(2, .int v2)]) (c := [(2, .int v2)]) ?_ rfl rfl
    exact xb_1_pushed_j25 h_11_turnOf h_11_slopeOf h_11_within h_11_standingOf (v2) ((1 : Int32)) (v_5) _ hf hK
noncomputable def xf_1_pushed_j6 (v0 : Int32) (v1 : Int32) (v2 : Int32) (k0 : Int32) : Option (Int32) :=
((xf_11_slopeOf (v0)).bind fun v_3 =>
(if k0 = (0 : Int32) then
(xf_1_pushed_j15 (v2) (k0) ((-v1)) (v_3))
else
(xf_1_pushed_j15 (v2) (k0) (v1) (v_3))))
set_option maxHeartbeats 4000000 in
theorem xb_1_pushed_j6 {C : mm_C} {Q : mm_R} (h_11_turnOf : xk_11_turnOf C) (h_11_slopeOf : xk_11_slopeOf C) (h_11_within : xk_11_within C) (h_11_standingOf : xk_11_standingOf C) {h : mm_H} (v0 : Int32) (v1 : Int32) (v2 : Int32) (k0 : Int32) (v : Int32) (hf : xf_1_pushed_j6 v0 v1 v2 k0 = some v) (hK : Q (some (.int v)) h) : mm_go C mm_Mk mm_Fk P_X1_pushed Q (P_X1_pushed.drop 6) [(0, .int v0), (1, .int v1), (2, .int v2)] [.int k0] h 0 0 := by
  unfold xf_1_pushed_j6 at hf
  obtain ⟨v_3, hr_3, hf⟩ := mo_bind hf
  by_cases c_4 : k0 = (0 : Int32)
  · have hf := mo_pos hf c_4
    refine mm_adv 7 (cs' := P_X1_pushed.drop 15) (l' := [(3, .int k0), (0, .int v0), (1, .int v1), (2, .int v2)]) (st' := [.int (-v1), .int v_3]) (h' := h) (bc' := 0) (bs' := 0) (fun n g => (h_11_slopeOf _ (v0) v_3 _ hr_3 (And.intro (fun _ => g) (fun q => absurd c_4 q)))) ?_
    refine mm_re (l' := [(2, .int v2), (3, .int k0)]) (c := [(2, .int v2), (3, .int k0)]) ?_ rfl rfl
    exact xb_1_pushed_j15 h_11_turnOf h_11_slopeOf h_11_within h_11_standingOf (v2) (k0) ((-v1)) (v_3) _ hf hK
  · have hf := mo_neg hf c_4
    refine mm_adv 7 (cs' := P_X1_pushed.drop 15) (l' := [(3, .int k0), (0, .int v0), (1, .int v1), (2, .int v2)]) (st' := [.int v1, .int v_3]) (h' := h) (bc' := 0) (bs' := 0) (fun n g => (h_11_slopeOf _ (v0) v_3 _ hr_3 (And.intro (fun q => absurd q c_4) (fun _ => g)))) ?_
    refine mm_re (l' := [(2, .int v2), (3, .int k0)]) (c := [(2, .int v2), (3, .int k0)]) ?_ rfl rfl
    exact xb_1_pushed_j15 h_11_turnOf h_11_slopeOf h_11_within h_11_standingOf (v2) (k0) (v1) (v_3) _ hf hK
noncomputable def xf_1_pushed (a0 : Int32) (a1 : Int32) (a2 : Int32) : Option (Int32) :=
((xf_11_turnOf (a0)).bind fun v_1 =>
(if v_1 = (0 : Int32) then
(xf_1_pushed_j6 (a0) (a1) (a2) ((1 : Int32)))
else
(xf_1_pushed_j6 (a0) (a1) (a2) ((0 : Int32)))))
set_option maxHeartbeats 4000000 in
theorem xb_1_pushed {C : mm_C} {Q : mm_R} (h_11_turnOf : xk_11_turnOf C) (h_11_slopeOf : xk_11_slopeOf C) (h_11_within : xk_11_within C) (h_11_standingOf : xk_11_standingOf C) {h : mm_H} (a0 : Int32) (a1 : Int32) (a2 : Int32) (v : Int32) (hf : xf_1_pushed a0 a1 a2 = some v) (hK : Q (some (.int v)) h) : mm_go C mm_Mk mm_Fk P_X1_pushed Q P_X1_pushed [(0, .int a0), (1, .int a1), (2, .int a2)] [] h 0 0 := by
  unfold xf_1_pushed at hf
  obtain ⟨v_1, hr_1, hf⟩ := mo_bind hf
  by_cases c_2 : v_1 = (0 : Int32)
  · have hf := mo_pos hf c_2
    refine mm_adv 5 (cs' := P_X1_pushed.drop 6) (l' := [(0, .int a0), (1, .int a1), (2, .int a2)]) (st' := [.int (1 : Int32)]) (h' := h) (bc' := 0) (bs' := 0) (fun n g => (h_11_turnOf _ (a0) v_1 _ hr_1 (And.intro (fun q => absurd c_2 q) (fun _ => g)))) ?_
    refine mm_re (l' := [(0, .int a0), (1, .int a1), (2, .int a2)]) (c := [(0, .int a0), (1, .int a1), (2, .int a2)]) ?_ rfl rfl
    exact xb_1_pushed_j6 h_11_turnOf h_11_slopeOf h_11_within h_11_standingOf (a0) (a1) (a2) ((1 : Int32)) _ hf hK
  · have hf := mo_neg hf c_2
    refine mm_adv 4 (cs' := P_X1_pushed.drop 6) (l' := [(0, .int a0), (1, .int a1), (2, .int a2)]) (st' := [.int (0 : Int32)]) (h' := h) (bc' := 0) (bs' := 0) (fun n g => (h_11_turnOf _ (a0) v_1 _ hr_1 (And.intro (fun _ => g) (fun q => absurd c_2 q)))) ?_
    refine mm_re (l' := [(0, .int a0), (1, .int a1), (2, .int a2)]) (c := [(0, .int a0), (1, .int a1), (2, .int a2)]) ?_ rfl rfl
    exact xb_1_pushed_j6 h_11_turnOf h_11_slopeOf h_11_within h_11_standingOf (a0) (a1) (a2) ((0 : Int32)) _ hf hK
def xk_1_pushed (C : mm_C) : Prop := ∀ (h : mm_H) (a0 : Int32) (a1 : Int32) (a2 : Int32) (v : Int32) (Q : mm_R), xf_1_pushed a0 a1 a2 = some v → Q (some (.int v)) h → C 145 [.int a0, .int a1, .int a2] h Q
-- 1_rested
noncomputable def xf_1_rested_j25 (k0 : Int32) (k1 : Int32) : Option (Int32) :=
((xf_11_standingOf (k1) (k0) ((-1 : Int32))).bind fun v_5 =>
some (v_5))
set_option maxHeartbeats 4000000 in
theorem xb_1_rested_j25 {C : mm_C} {Q : mm_R} (h_11_slopeOf : xk_11_slopeOf C) (h_11_turnOf : xk_11_turnOf C) (h_11_standingOf : xk_11_standingOf C) {h : mm_H} (k0 : Int32) (k1 : Int32) (v : Int32) (hf : xf_1_rested_j25 k0 k1 = some v) (hK : Q (some (.int v)) h) : mm_go C mm_Mk mm_Fk P_X1_rested Q (P_X1_rested.drop 25) [] [.int k0, .int k1] h 0 0 := by
  unfold xf_1_rested_j25 at hf
  obtain ⟨v_5, hr_5, hf⟩ := mo_bind hf
  obtain rfl := Option.some.inj hf
  exact ⟨3, (h_11_standingOf _ (k1) (k0) ((-1 : Int32)) v_5 _ hr_5 hK)⟩
noncomputable def xf_1_rested_j17 (v0 : Int32) (k0 : Int32) : Option (Int32) :=
((xf_11_turnOf (v0)).bind fun v_3 =>
(if v_3 = (0 : Int32) then
(xf_1_rested_j25 ((1 : Int32)) (k0))
else
(xf_1_rested_j25 ((0 : Int32)) (k0))))
set_option maxHeartbeats 4000000 in
theorem xb_1_rested_j17 {C : mm_C} {Q : mm_R} (h_11_slopeOf : xk_11_slopeOf C) (h_11_turnOf : xk_11_turnOf C) (h_11_standingOf : xk_11_standingOf C) {h : mm_H} (v0 : Int32) (k0 : Int32) (v : Int32) (hf : xf_1_rested_j17 v0 k0 = some v) (hK : Q (some (.int v)) h) : mm_go C mm_Mk mm_Fk P_X1_rested Q (P_X1_rested.drop 17) [(0, .int v0)] [.int k0] h 0 0 := by
  unfold xf_1_rested_j17 at hf
  obtain ⟨v_3, hr_3, hf⟩ := mo_bind hf
  by_cases c_4 : v_3 = (0 : Int32)
  · have hf := mo_pos hf c_4
    refine mm_adv 7 (cs' := P_X1_rested.drop 25) (l' := [(3, .int k0), (0, .int v0)]) (st' := [.int (1 : Int32), .int k0]) (h' := h) (bc' := 0) (bs' := 0) (fun n g => (h_11_turnOf _ (v0) v_3 _ hr_3 (And.intro (fun q => absurd c_4 q) (fun _ => g)))) ?_
    refine mm_re (l' := []) (c := []) ?_ rfl rfl
    exact xb_1_rested_j25 h_11_slopeOf h_11_turnOf h_11_standingOf ((1 : Int32)) (k0) _ hf hK
  · have hf := mo_neg hf c_4
    refine mm_adv 6 (cs' := P_X1_rested.drop 25) (l' := [(3, .int k0), (0, .int v0)]) (st' := [.int (0 : Int32), .int k0]) (h' := h) (bc' := 0) (bs' := 0) (fun n g => (h_11_turnOf _ (v0) v_3 _ hr_3 (And.intro (fun _ => g) (fun q => absurd c_4 q)))) ?_
    refine mm_re (l' := []) (c := []) ?_ rfl rfl
    exact xb_1_rested_j25 h_11_slopeOf h_11_turnOf h_11_standingOf ((0 : Int32)) (k0) _ hf hK
noncomputable def xf_1_rested (a0 : Int32) (a1 : Int32) : Option (Int32) :=
((xf_11_slopeOf (a0)).bind fun v_1 =>
(if v_1 ≤ (10 : Int32) then
(xf_1_rested_j17 (a0) ((mm_min ((10 : Int32)) ((v_1 + a1)))))
else
(xf_1_rested_j17 (a0) ((mm_max ((10 : Int32)) ((v_1 - a1)))))))
set_option maxHeartbeats 4000000 in
theorem xb_1_rested {C : mm_C} {Q : mm_R} (h_11_slopeOf : xk_11_slopeOf C) (h_11_turnOf : xk_11_turnOf C) (h_11_standingOf : xk_11_standingOf C) {h : mm_H} (a0 : Int32) (a1 : Int32) (v : Int32) (hf : xf_1_rested a0 a1 = some v) (hK : Q (some (.int v)) h) : mm_go C mm_Mk mm_Fk P_X1_rested Q P_X1_rested [(0, .int a0), (1, .int a1)] [] h 0 0 := by
  unfold xf_1_rested at hf
  obtain ⟨v_1, hr_1, hf⟩ := mo_bind hf
  by_cases c_2 : v_1 ≤ (10 : Int32)
  · have hf := mo_pos hf c_2
    refine mm_adv 11 (cs' := P_X1_rested.drop 17) (l' := [(2, .int v_1), (0, .int a0), (1, .int a1)]) (st' := [.int (mm_min ((10 : Int32)) ((v_1 + a1)))]) (h' := h) (bc' := 0) (bs' := 0) (fun n g => (h_11_slopeOf _ (a0) v_1 _ hr_1 (And.intro (fun _ => g) (fun q => absurd c_2 q)))) ?_
    refine mm_re (l' := [(0, .int a0)]) (c := [(0, .int a0)]) ?_ rfl rfl
    exact xb_1_rested_j17 h_11_slopeOf h_11_turnOf h_11_standingOf (a0) ((mm_min ((10 : Int32)) ((v_1 + a1)))) _ hf hK
  · have hf := mo_neg hf c_2
    refine mm_adv 12 (cs' := P_X1_rested.drop 17) (l' := [(2, .int v_1), (0, .int a0), (1, .int a1)]) (st' := [.int (mm_max ((10 : Int32)) ((v_1 - a1)))]) (h' := h) (bc' := 0) (bs' := 0) (fun n g => (h_11_slopeOf _ (a0) v_1 _ hr_1 (And.intro (fun q => absurd q c_2) (fun _ => g)))) ?_
    refine mm_re (l' := [(0, .int a0)]) (c := [(0, .int a0)]) ?_ rfl rfl
    exact xb_1_rested_j17 h_11_slopeOf h_11_turnOf h_11_standingOf (a0) ((mm_max ((10 : Int32)) ((v_1 - a1)))) _ hf hK
def xk_1_rested (C : mm_C) : Prop := ∀ (h : mm_H) (a0 : Int32) (a1 : Int32) (v : Int32) (Q : mm_R), xf_1_rested a0 a1 = some v → Q (some (.int v)) h → C 146 [.int a0, .int a1] h Q
-- 1_open
noncomputable def xf_1_open_j87 (s : xs_S) (v1 : Int32) (v2 : Int32) (v3 : Int32) (v4 : Int32) : Option ((Int32 × xs_S) ⊕ ((xs_S))) :=
some (.inl ((v4 + (1 : Int32)), s))
set_option maxHeartbeats 4000000 in
theorem xb_1_open_j87 {C : mm_C} {Q : mm_R} {pt : Value} {ps : Value} {pr : Value} (h_1_hasPair : xk_1_hasPair C) (h_11_isAwake : xk_11_isAwake C) (h_11_lastOf : xk_11_lastOf C) (h_7_lawOf_9 : xk_7_lawOf_9 C) (h_11_within : xk_11_within C) (h_1_pushed : xk_1_pushed C) (h_1_rested : xk_1_rested C) (s : xs_S) (v1 : Int32) (v2 : Int32) (v3 : Int32) (v4 : Int32) (r : (Int32 × xs_S) ⊕ ((xs_S))) (hf : xf_1_open_j87 s v1 v2 v3 v4 = some r) (hK : mo_sum (mo_c2 (fun y4 sy => mm_go C mm_Mk mm_Fk P_X1_open Q (P_X1_open.drop 35) [(0, .ref 117), (1, .int v1), (2, .int v2), (3, .int v3), (4, .int y4)] [] (xs_H pt ps (.ref 9) pr sy) 0 0))  (fun sy => mm_go C mm_Mk mm_Fk P_X1_open Q (P_X1_open.drop 89) [(0, .ref 117), (1, .int v1), (2, .int v2)] [] (xs_H pt ps (.ref 9) pr sy) 0 0)  r) : mm_go C mm_Mk mm_Fk P_X1_open Q (P_X1_open.drop 87) [(0, .ref 117), (1, .int v1), (2, .int v2), (3, .int v3), (4, .int v4)] [] (xs_H pt ps (.ref 9) pr s) 0 0 := by
  unfold xf_1_open_j87 at hf
  obtain rfl := Option.some.inj hf
  refine mm_adv 2 (cs' := P_X1_open.drop 35) (l' := [(4, .int (v4 + (1 : Int32))), (0, .ref 117), (1, .int v1), (2, .int v2), (3, .int v3)]) (st' := []) (h' := (xs_H pt ps (.ref 9) pr s)) (bc' := 0) (bs' := 0) (fun n g => g) ?_
  exact mm_re (c := [(0, .ref 117), (1, .int v1), (2, .int v2), (3, .int v3), (4, .int (v4 + (1 : Int32)))]) hK rfl rfl
noncomputable def xf_1_open_l35 (v1 : Int32) (v2 : Int32) (v3 : Int32) : (Int32 × xs_S) → Option ((Int32 × xs_S) ⊕ ((xs_S))) := fun (w4, s) =>
(if (s.1 148) ≤ w4 then
some (.inr (s))
else
(if w4 = v3 then
(xf_1_open_j87 (s) (v1) (v2) (v3) (w4))
else
((xf_7_lawOf_9 s ((3 : Int32)) ((s.1 1873)) ((s.1 1874)) (v1) (w4)).bind fun (v_12, s_12) =>
(if (0 : Int32) < v_12 then
(xf_1_open_j87 (s_12) (v1) (v2) (v3) (w4))
else
((xf_7_lawOf_9 s_12 ((0 : Int32)) ((s_12.1 1873)) ((s_12.1 1874)) (v1) (w4)).bind fun (v_14, s_14) =>
((mo_ag 294 (s_14.2.1 118) v1).bind fun x_15 =>
(bif mo_in v1 294 then ((xf_11_within (v_14) ((9 : Int32))).bind fun v_17 =>
((xf_1_pushed (v1) (v_17) (w4)).bind fun v_18 =>
(bif mo_in (v2 + w4) 2058 then (xf_1_open_j87 ((xs_sA (xs_sA s_14 118 (upd (s_14.2.1 118) (v1).toNatClampNeg ((x_15 ||| ((1 : Int32) <<< (w4 &&& 31)))))) 119 (upd (s_14.2.1 119) ((v2 + w4)).toNatClampNeg (v_18)))) (v1) (v2) (v3) (w4)) else none))) else none)))))))
set_option maxHeartbeats 4000000 in
theorem xb_1_open_l35 {C : mm_C} {Q : mm_R} {pt : Value} {ps : Value} {pr : Value} (h_1_hasPair : xk_1_hasPair C) (h_11_isAwake : xk_11_isAwake C) (h_11_lastOf : xk_11_lastOf C) (h_7_lawOf_9 : xk_7_lawOf_9 C) (h_11_within : xk_11_within C) (h_1_pushed : xk_1_pushed C) (h_1_rested : xk_1_rested C) (v1 : Int32) (v2 : Int32) (v3 : Int32) (t : Int32 × xs_S) (x : (xs_S)) (hl : mo_loop (xf_1_open_l35 v1 v2 v3) t = some x) (hK : (fun sy => mm_go C mm_Mk mm_Fk P_X1_open Q (P_X1_open.drop 89) [(0, .ref 117), (1, .int v1), (2, .int v2)] [] (xs_H pt ps (.ref 9) pr sy) 0 0) x) : (mo_c2 (fun y4 sy => mm_go C mm_Mk mm_Fk P_X1_open Q (P_X1_open.drop 35) [(0, .ref 117), (1, .int v1), (2, .int v2), (3, .int v3), (4, .int y4)] [] (xs_H pt ps (.ref 9) pr sy) 0 0)) t := by
  refine mo_loop_go (G := (mo_c2 (fun y4 sy => mm_go C mm_Mk mm_Fk P_X1_open Q (P_X1_open.drop 35) [(0, .ref 117), (1, .int v1), (2, .int v2), (3, .int v3), (4, .int y4)] [] (xs_H pt ps (.ref 9) pr sy) 0 0)) ) (K := (fun sy => mm_go C mm_Mk mm_Fk P_X1_open Q (P_X1_open.drop 89) [(0, .ref 117), (1, .int v1), (2, .int v2)] [] (xs_H pt ps (.ref 9) pr sy) 0 0) ) ?_ t x hl hK
  intro t r hf hK
  obtain ⟨w4, s⟩ := t
  unfold xf_1_open_l35 at hf
  by_cases c_10 : (s.1 148) ≤ w4
  · have hf := mo_pos hf c_10
    obtain rfl := Option.some.inj hf
    refine mm_adv 5 (cs' := P_X1_open.drop 89) (l' := [(0, .ref 117), (1, .int v1), (2, .int v2), (3, .int v3), (4, .int w4)]) (st' := []) (h' := (xs_H pt ps (.ref 9) pr s)) (bc' := 0) (bs' := 0) (fun n g => (And.intro (fun _ => g) (fun q => absurd c_10 q))) ?_
    exact mm_re (c := [(0, .ref 117), (1, .int v1), (2, .int v2)]) hK rfl rfl
  · have hf := mo_neg hf c_10
    by_cases c_11 : w4 = v3
    · have hf := mo_pos hf c_11
      refine mm_adv 8 (cs' := P_X1_open.drop 87) (l' := [(0, .ref 117), (1, .int v1), (2, .int v2), (3, .int v3), (4, .int w4)]) (st' := []) (h' := (xs_H pt ps (.ref 9) pr s)) (bc' := 0) (bs' := 0) (fun n g => (And.intro (fun q => absurd q c_10) (fun _ => (And.intro (fun _ => g) (fun q => absurd c_11 q))))) ?_
      refine mm_re (l' := [(0, .ref 117), (1, .int v1), (2, .int v2), (3, .int v3), (4, .int w4)]) (c := [(0, .ref 117), (1, .int v1), (2, .int v2), (3, .int v3), (4, .int w4)]) ?_ rfl rfl
      exact xb_1_open_j87 h_1_hasPair h_11_isAwake h_11_lastOf h_7_lawOf_9 h_11_within h_1_pushed h_1_rested s (v1) (v2) (v3) (w4) _ hf hK
    · have hf := mo_neg hf c_11
      obtain ⟨r_12, hr_12, hf⟩ := mo_bind hf
      obtain ⟨v_12, s_12⟩ := r_12
      by_cases c_13 : (0 : Int32) < v_12
      · have hf := mo_pos hf c_13
        refine mm_adv 19 (cs' := P_X1_open.drop 87) (l' := [(0, .ref 117), (1, .int v1), (2, .int v2), (3, .int v3), (4, .int w4)]) (st' := []) (h' := (xs_H pt ps (.ref 9) pr s_12)) (bc' := 0) (bs' := 0) (fun n g => (And.intro (fun q => absurd q c_10) (fun _ => (And.intro (fun q => absurd q c_11) (fun _ => (h_7_lawOf_9 pt ps (.ref 9) pr s ((3 : Int32)) ((s.1 1873)) ((s.1 1874)) (v1) (w4) v_12 s_12 _ hr_12 (And.intro (fun _ => g) (fun q => absurd c_13 q)))))))) ?_
        refine mm_re (l' := [(0, .ref 117), (1, .int v1), (2, .int v2), (3, .int v3), (4, .int w4)]) (c := [(0, .ref 117), (1, .int v1), (2, .int v2), (3, .int v3), (4, .int w4)]) ?_ rfl rfl
        exact xb_1_open_j87 h_1_hasPair h_11_isAwake h_11_lastOf h_7_lawOf_9 h_11_within h_1_pushed h_1_rested s_12 (v1) (v2) (v3) (w4) _ hf hK
      · have hf := mo_neg hf c_13
        obtain ⟨r_14, hr_14, hf⟩ := mo_bind hf
        obtain ⟨v_14, s_14⟩ := r_14
        obtain ⟨x_15, hx_15, hf⟩ := mo_bind hf
        obtain ⟨hi_15, rfl⟩ := mo_ag_inv hx_15
        obtain ⟨hi_16, hf⟩ := mo_if hf
        obtain ⟨v_17, hr_17, hf⟩ := mo_bind hf
        obtain ⟨v_18, hr_18, hf⟩ := mo_bind hf
        obtain ⟨hi_19, hf⟩ := mo_if hf
        refine mm_adv 52 (cs' := P_X1_open.drop 87) (l' := [(5, .int v_14), (0, .ref 117), (1, .int v1), (2, .int v2), (3, .int v3), (4, .int w4)]) (st' := []) (h' := (xs_H pt ps (.ref 9) pr (xs_sA (xs_sA s_14 118 (upd (s_14.2.1 118) (v1).toNatClampNeg ((((s_14.2.1 118) (v1).toNatClampNeg) ||| ((1 : Int32) <<< (w4 &&& 31)))))) 119 (upd (s_14.2.1 119) ((v2 + w4)).toNatClampNeg (v_18))))) (bc' := 0) (bs' := 0) (fun n g => (And.intro (fun q => absurd q c_10) (fun _ => (And.intro (fun q => absurd q c_11) (fun _ => (h_7_lawOf_9 pt ps (.ref 9) pr s ((3 : Int32)) ((s.1 1873)) ((s.1 1874)) (v1) (w4) v_12 s_12 _ hr_12 (And.intro (fun q => absurd q c_13) (fun _ => (h_7_lawOf_9 pt ps (.ref 9) pr s_12 ((0 : Int32)) ((s_12.1 1873)) ((s_12.1 1874)) (v1) (w4) v_14 s_14 _ hr_14 (And.intro hi_15 (And.intro hi_16 (h_11_within _ (v_14) ((9 : Int32)) v_17 _ hr_17 (h_1_pushed _ (v1) (v_17) (w4) v_18 _ hr_18 (And.intro hi_19 g)))))))))))))) ?_
        refine mm_re (l' := [(0, .ref 117), (1, .int v1), (2, .int v2), (3, .int v3), (4, .int w4)]) (c := [(0, .ref 117), (1, .int v1), (2, .int v2), (3, .int v3), (4, .int w4)]) ?_ rfl rfl
        exact xb_1_open_j87 h_1_hasPair h_11_isAwake h_11_lastOf h_7_lawOf_9 h_11_within h_1_pushed h_1_rested (xs_sA (xs_sA s_14 118 (upd (s_14.2.1 118) (v1).toNatClampNeg ((((s_14.2.1 118) (v1).toNatClampNeg) ||| ((1 : Int32) <<< (w4 &&& 31)))))) 119 (upd (s_14.2.1 119) ((v2 + w4)).toNatClampNeg (v_18))) (v1) (v2) (v3) (w4) _ hf hK
noncomputable def xf_1_open (s : xs_S) (a0 : Int32) : Option (xs_S) :=
((mo_ag 294 (s.2.1 118) a0).bind fun x_1 =>
(if x_1 = (-1 : Int32) then
(bif mo_in a0 294 then (bif mo_in ((a0 * (7 : Int32)) + (6 : Int32)) 2058 then ((xf_1_hasPair (xs_sA (xs_sA s 118 (upd (s.2.1 118) (a0).toNatClampNeg ((0 : Int32)))) 119 (upd (s.2.1 119) (((a0 * (7 : Int32)) + (6 : Int32))).toNatClampNeg ((-1 : Int32)))) ).bind fun (v_5, s_5) =>
(if v_5 = (0 : Int32) then
some s_5
else
((xf_11_isAwake (a0)).bind fun v_7 =>
(if v_7 = (0 : Int32) then
((xf_11_lastOf (a0)).bind fun v_9 =>
((mo_loop (xf_1_open_l35 (a0) ((a0 * (7 : Int32))) (v_9)) ((0 : Int32), s_5)).bind fun s_20 =>
((xf_7_lawOf_9 s_20 ((2 : Int32)) ((s_20.1 1873)) ((s_20.1 1874)) (a0) ((-1 : Int32))).bind fun (v_21, s_21) =>
((xf_11_within (v_21) ((9 : Int32))).bind fun v_22 =>
((xf_1_rested (a0) (v_22)).bind fun v_23 =>
(bif mo_in ((a0 * (7 : Int32)) + (6 : Int32)) 2058 then some (xs_sA s_21 119 (upd (s_21.2.1 119) (((a0 * (7 : Int32)) + (6 : Int32))).toNatClampNeg (v_23))) else none))))))
else
some s_5)))) else none) else none)
else
some s))
set_option maxHeartbeats 4000000 in
theorem xb_1_open {C : mm_C} {Q : mm_R} {pt : Value} {ps : Value} {pr : Value} (h_1_hasPair : xk_1_hasPair C) (h_11_isAwake : xk_11_isAwake C) (h_11_lastOf : xk_11_lastOf C) (h_7_lawOf_9 : xk_7_lawOf_9 C) (h_11_within : xk_11_within C) (h_1_pushed : xk_1_pushed C) (h_1_rested : xk_1_rested C) (s : xs_S) (a0 : Int32) (s2 : xs_S) (hf : xf_1_open s a0 = some s2) (hK : Q (none) (xs_H pt ps (.ref 9) pr s2)) : mm_go C mm_Mk mm_Fk P_X1_open Q P_X1_open [(0, .ref 117), (1, .int a0)] [] (xs_H pt ps (.ref 9) pr s) 0 0 := by
  unfold xf_1_open at hf
  obtain ⟨x_1, hx_1, hf⟩ := mo_bind hf
  obtain ⟨hi_1, rfl⟩ := mo_ag_inv hx_1
  by_cases c_2 : ((s.2.1 118) (a0).toNatClampNeg) = (-1 : Int32)
  · have hf := mo_pos hf c_2
    obtain ⟨hi_3, hf⟩ := mo_if hf
    obtain ⟨hi_4, hf⟩ := mo_if hf
    obtain ⟨r_5, hr_5, hf⟩ := mo_bind hf
    obtain ⟨v_5, s_5⟩ := r_5
    by_cases c_6 : v_5 = (0 : Int32)
    · have hf := mo_pos hf c_6
      obtain rfl := Option.some.inj hf
      exact ⟨26, (And.intro hi_1 (And.intro (fun _ => (And.intro hi_3 (And.intro hi_4 (h_1_hasPair pt ps pr (xs_sA (xs_sA s 118 (upd (s.2.1 118) (a0).toNatClampNeg ((0 : Int32)))) 119 (upd (s.2.1 119) (((a0 * (7 : Int32)) + (6 : Int32))).toNatClampNeg ((-1 : Int32))))  v_5 s_5 _ hr_5 (And.intro (fun _ => hK) (fun q => absurd c_6 q)))))) (fun q => absurd c_2 q)))⟩
    · have hf := mo_neg hf c_6
      obtain ⟨v_7, hr_7, hf⟩ := mo_bind hf
      by_cases c_8 : v_7 = (0 : Int32)
      · have hf := mo_pos hf c_8
        obtain ⟨v_9, hr_9, hf⟩ := mo_bind hf
        obtain ⟨x_20, hl_20, hf⟩ := mo_bind hf
        refine mm_adv 33 (cs' := P_X1_open.drop 35) (l' := [(4, .int (0 : Int32)), (3, .int v_9), (2, .int (a0 * (7 : Int32))), (0, .ref 117), (1, .int a0)]) (st' := []) (h' := (xs_H pt ps (.ref 9) pr s_5)) (bc' := 0) (bs' := 0) (fun n g => (And.intro hi_1 (And.intro (fun _ => (And.intro hi_3 (And.intro hi_4 (h_1_hasPair pt ps pr (xs_sA (xs_sA s 118 (upd (s.2.1 118) (a0).toNatClampNeg ((0 : Int32)))) 119 (upd (s.2.1 119) (((a0 * (7 : Int32)) + (6 : Int32))).toNatClampNeg ((-1 : Int32))))  v_5 s_5 _ hr_5 (And.intro (fun q => absurd q c_6) (fun _ => (h_11_isAwake _ (a0) v_7 _ hr_7 (And.intro (fun _ => (h_11_lastOf _ (a0) v_9 _ hr_9 g)) (fun q => absurd c_8 q))))))))) (fun q => absurd c_2 q)))) ?_
        refine mm_re (l' := [(0, .ref 117), (1, .int a0), (2, .int (a0 * (7 : Int32))), (3, .int v_9), (4, .int (0 : Int32))]) (c := [(0, .ref 117), (1, .int a0), (2, .int (a0 * (7 : Int32))), (3, .int v_9), (4, .int (0 : Int32))]) ?_ rfl rfl
        refine xb_1_open_l35 h_1_hasPair h_11_isAwake h_11_lastOf h_7_lawOf_9 h_11_within h_1_pushed h_1_rested (a0) ((a0 * (7 : Int32))) (v_9) ((0 : Int32), s_5) x_20 hl_20 ?_
        obtain ⟨s_20, rfl⟩ : ∃ q, q = x_20 := ⟨_, rfl⟩
        obtain ⟨r_21, hr_21, hf⟩ := mo_bind hf
        obtain ⟨v_21, s_21⟩ := r_21
        obtain ⟨v_22, hr_22, hf⟩ := mo_bind hf
        obtain ⟨v_23, hr_23, hf⟩ := mo_bind hf
        obtain ⟨hi_24, hf⟩ := mo_if hf
        obtain rfl := Option.some.inj hf
        exact ⟨23, (h_7_lawOf_9 pt ps (.ref 9) pr s_20 ((2 : Int32)) ((s_20.1 1873)) ((s_20.1 1874)) (a0) ((-1 : Int32)) v_21 s_21 _ hr_21 (h_11_within _ (v_21) ((9 : Int32)) v_22 _ hr_22 (h_1_rested _ (a0) (v_22) v_23 _ hr_23 (And.intro hi_24 hK))))⟩
      · have hf := mo_neg hf c_8
        obtain rfl := Option.some.inj hf
        exact ⟨29, (And.intro hi_1 (And.intro (fun _ => (And.intro hi_3 (And.intro hi_4 (h_1_hasPair pt ps pr (xs_sA (xs_sA s 118 (upd (s.2.1 118) (a0).toNatClampNeg ((0 : Int32)))) 119 (upd (s.2.1 119) (((a0 * (7 : Int32)) + (6 : Int32))).toNatClampNeg ((-1 : Int32))))  v_5 s_5 _ hr_5 (And.intro (fun q => absurd q c_6) (fun _ => (h_11_isAwake _ (a0) v_7 _ hr_7 (And.intro (fun q => absurd q c_8) (fun _ => hK))))))))) (fun q => absurd c_2 q)))⟩
  · have hf := mo_neg hf c_2
    obtain rfl := Option.some.inj hf
    exact ⟨7, (And.intro hi_1 (And.intro (fun q => absurd q c_2) (fun _ => hK)))⟩
def xk_1_open (C : mm_C) : Prop := ∀ (pt : Value) (ps : Value) (pr : Value) (s : xs_S) (a0 : Int32) (s2 : xs_S) (Q : mm_R), xf_1_open s a0 = some s2 → Q (none) (xs_H pt ps (.ref 9) pr s2) → C 138 [.ref 117, .int a0] (xs_H pt ps (.ref 9) pr s) Q
