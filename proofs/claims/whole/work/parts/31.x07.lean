/-! the class, method by method, 7 -/
-- 0_longestAsleep
noncomputable def xf_0_longestAsleep_l11 (v1 : Int32) (v2 : Int32) : (Int32 × xs_S) → Option ((Int32 × xs_S) ⊕ ((xs_S))) := fun (w3, s) =>
(if (s.1 2018) ≤ w3 then
some (.inr (s))
else
((mo_ag 294 (s.2.1 127) w3).bind fun x_5 =>
(bif mo_in x_5 294 then some (.inl ((w3 + (1 : Int32)), (xs_sA s 130 (upd (s.2.1 130) (x_5).toNatClampNeg ((-1 : Int32)))))) else none)))
set_option maxHeartbeats 4000000 in
theorem xb_0_longestAsleep_l11 {C : mm_C} {Q : mm_R} {pt : Value} {ps : Value} {pr : Value} (h_11_isAwake : xk_11_isAwake C) (h_0_spread : xk_0_spread C) (h_0_asleepTurns : xk_0_asleepTurns C) (v1 : Int32) (v2 : Int32) (t : Int32 × xs_S) (x : (xs_S)) (hl : mo_loop (xf_0_longestAsleep_l11 v1 v2) t = some x) (hK : (fun sy => mm_go C mm_Mk mm_Fk P_X0_longestAsleep Q (P_X0_longestAsleep.drop 25) [(0, .ref 126), (1, .int v1), (2, .int v2)] [] (xs_H pt ps (.ref 9) pr sy) 0 0) x) : (mo_c2 (fun y3 sy => mm_go C mm_Mk mm_Fk P_X0_longestAsleep Q (P_X0_longestAsleep.drop 11) [(0, .ref 126), (1, .int v1), (2, .int v2), (3, .int y3)] [] (xs_H pt ps (.ref 9) pr sy) 0 0)) t := by
  refine mo_loop_go (G := (mo_c2 (fun y3 sy => mm_go C mm_Mk mm_Fk P_X0_longestAsleep Q (P_X0_longestAsleep.drop 11) [(0, .ref 126), (1, .int v1), (2, .int v2), (3, .int y3)] [] (xs_H pt ps (.ref 9) pr sy) 0 0)) ) (K := (fun sy => mm_go C mm_Mk mm_Fk P_X0_longestAsleep Q (P_X0_longestAsleep.drop 25) [(0, .ref 126), (1, .int v1), (2, .int v2)] [] (xs_H pt ps (.ref 9) pr sy) 0 0) ) ?_ t x hl hK
  intro t r hf hK
  obtain ⟨w3, s⟩ := t
  unfold xf_0_longestAsleep_l11 at hf
  by_cases c_4 : (s.1 2018) ≤ w3
  · have hf := mo_pos hf c_4
    obtain rfl := Option.some.inj hf
    refine mm_adv 4 (cs' := P_X0_longestAsleep.drop 25) (l' := [(0, .ref 126), (1, .int v1), (2, .int v2), (3, .int w3)]) (st' := []) (h' := (xs_H pt ps (.ref 9) pr s)) (bc' := 0) (bs' := 0) (fun n g => (And.intro (fun _ => g) (fun q => absurd c_4 q))) ?_
    exact mm_re (c := [(0, .ref 126), (1, .int v1), (2, .int v2)]) hK rfl rfl
  · have hf := mo_neg hf c_4
    obtain ⟨x_5, hx_5, hf⟩ := mo_bind hf
    obtain ⟨hi_5, rfl⟩ := mo_ag_inv hx_5
    obtain ⟨hi_6, hf⟩ := mo_if hf
    obtain rfl := Option.some.inj hf
    refine mm_adv 14 (cs' := P_X0_longestAsleep.drop 11) (l' := [(3, .int (w3 + (1 : Int32))), (0, .ref 126), (1, .int v1), (2, .int v2)]) (st' := []) (h' := (xs_H pt ps (.ref 9) pr (xs_sA s 130 (upd (s.2.1 130) (((s.2.1 127) (w3).toNatClampNeg)).toNatClampNeg ((-1 : Int32)))))) (bc' := 0) (bs' := 0) (fun n g => (And.intro (fun q => absurd q c_4) (fun _ => (And.intro hi_5 (And.intro hi_6 g))))) ?_
    exact mm_re (c := [(0, .ref 126), (1, .int v1), (2, .int v2), (3, .int (w3 + (1 : Int32)))]) hK rfl rfl
noncomputable def xf_0_longestAsleep_j73 (s : xs_S) (v1 : Int32) (v2 : Int32) (v3 : Int32) (v4 : Int32) (v5 : Int32) : Option ((Int32 × Int32 × xs_S) ⊕ ((Int32 × xs_S))) :=
some (.inl (v3, (v5 + (-1 : Int32)), s))
set_option maxHeartbeats 4000000 in
theorem xb_0_longestAsleep_j73 {C : mm_C} {Q : mm_R} {pt : Value} {ps : Value} {pr : Value} (h_11_isAwake : xk_11_isAwake C) (h_0_spread : xk_0_spread C) (h_0_asleepTurns : xk_0_asleepTurns C) (s : xs_S) (v1 : Int32) (v2 : Int32) (v3 : Int32) (v4 : Int32) (v5 : Int32) (r : (Int32 × Int32 × xs_S) ⊕ ((Int32 × xs_S))) (hf : xf_0_longestAsleep_j73 s v1 v2 v3 v4 v5 = some r) (hK : mo_sum (mo_c2 (fun y3 => (mo_c2 (fun y5 sy => mm_go C mm_Mk mm_Fk P_X0_longestAsleep Q (P_X0_longestAsleep.drop 41) [(0, .ref 126), (1, .int v1), (2, .int v2), (3, .int y3), (4, .int v4), (5, .int y5)] [] (xs_H pt ps (.ref 9) pr sy) 0 0))))  (mo_c2 (fun y3 sy => mm_go C mm_Mk mm_Fk P_X0_longestAsleep Q (P_X0_longestAsleep.drop 75) [(0, .ref 126), (1, .int v1), (2, .int v2), (3, .int y3), (4, .int v4)] [] (xs_H pt ps (.ref 9) pr sy) 0 0))  r) : mm_go C mm_Mk mm_Fk P_X0_longestAsleep Q (P_X0_longestAsleep.drop 73) [(0, .ref 126), (1, .int v1), (2, .int v2), (3, .int v3), (4, .int v4), (5, .int v5)] [] (xs_H pt ps (.ref 9) pr s) 0 0 := by
  unfold xf_0_longestAsleep_j73 at hf
  obtain rfl := Option.some.inj hf
  refine mm_adv 2 (cs' := P_X0_longestAsleep.drop 41) (l' := [(5, .int (v5 + (-1 : Int32))), (0, .ref 126), (1, .int v1), (2, .int v2), (3, .int v3), (4, .int v4)]) (st' := []) (h' := (xs_H pt ps (.ref 9) pr s)) (bc' := 0) (bs' := 0) (fun n g => g) ?_
  exact mm_re (c := [(0, .ref 126), (1, .int v1), (2, .int v2), (3, .int v3), (4, .int v4), (5, .int (v5 + (-1 : Int32)))]) hK rfl rfl
noncomputable def xf_0_longestAsleep_j71 (s : xs_S) (v1 : Int32) (v2 : Int32) (v4 : Int32) (v5 : Int32) (k0 : Int32) (k1 : Int32) : Option ((Int32 × Int32 × xs_S) ⊕ ((Int32 × xs_S))) :=
(xf_0_longestAsleep_j73 (s) (v1) (v2) ((k1 ||| k0)) (v4) (v5))
set_option maxHeartbeats 4000000 in
theorem xb_0_longestAsleep_j71 {C : mm_C} {Q : mm_R} {pt : Value} {ps : Value} {pr : Value} (h_11_isAwake : xk_11_isAwake C) (h_0_spread : xk_0_spread C) (h_0_asleepTurns : xk_0_asleepTurns C) (s : xs_S) (v1 : Int32) (v2 : Int32) (v4 : Int32) (v5 : Int32) (k0 : Int32) (k1 : Int32) (r : (Int32 × Int32 × xs_S) ⊕ ((Int32 × xs_S))) (hf : xf_0_longestAsleep_j71 s v1 v2 v4 v5 k0 k1 = some r) (hK : mo_sum (mo_c2 (fun y3 => (mo_c2 (fun y5 sy => mm_go C mm_Mk mm_Fk P_X0_longestAsleep Q (P_X0_longestAsleep.drop 41) [(0, .ref 126), (1, .int v1), (2, .int v2), (3, .int y3), (4, .int v4), (5, .int y5)] [] (xs_H pt ps (.ref 9) pr sy) 0 0))))  (mo_c2 (fun y3 sy => mm_go C mm_Mk mm_Fk P_X0_longestAsleep Q (P_X0_longestAsleep.drop 75) [(0, .ref 126), (1, .int v1), (2, .int v2), (3, .int y3), (4, .int v4)] [] (xs_H pt ps (.ref 9) pr sy) 0 0))  r) : mm_go C mm_Mk mm_Fk P_X0_longestAsleep Q (P_X0_longestAsleep.drop 71) [(0, .ref 126), (1, .int v1), (2, .int v2), (4, .int v4), (5, .int v5)] [.int k0, .int k1] (xs_H pt ps (.ref 9) pr s) 0 0 := by
  unfold xf_0_longestAsleep_j71 at hf
  refine mm_adv 2 (cs' := P_X0_longestAsleep.drop 73) (l' := [(3, .int (k1 ||| k0)), (0, .ref 126), (1, .int v1), (2, .int v2), (4, .int v4), (5, .int v5)]) (st' := []) (h' := (xs_H pt ps (.ref 9) pr s)) (bc' := 0) (bs' := 0) (fun n g => g) ?_
  refine mm_re (l' := [(0, .ref 126), (1, .int v1), (2, .int v2), (3, .int (k1 ||| k0)), (4, .int v4), (5, .int v5)]) (c := [(0, .ref 126), (1, .int v1), (2, .int v2), (3, .int (k1 ||| k0)), (4, .int v4), (5, .int v5)]) ?_ rfl rfl
  exact xb_0_longestAsleep_j73 h_11_isAwake h_0_spread h_0_asleepTurns s (v1) (v2) ((k1 ||| k0)) (v4) (v5) _ hf hK
noncomputable def xf_0_longestAsleep_l41 (v1 : Int32) (v2 : Int32) (v4 : Int32) : (Int32 × Int32 × xs_S) → Option ((Int32 × Int32 × xs_S) ⊕ ((Int32 × xs_S))) := fun (w3, w5, s) =>
(if w5 < (0 : Int32) then
some (.inr (w3, s))
else
((mo_ag 294 (s.2.1 127) w5).bind fun x_11 =>
((mo_ag 294 (s.2.1 130) x_11).bind fun x_12 =>
(if x_12 = (-1 : Int32) then
((xf_0_asleepTurns s (x_11)).bind fun (v_14, s_14) =>
(bif mo_in x_11 294 then ((mo_ag 294 (upd (s_14.2.1 130) (x_11).toNatClampNeg (v_14)) x_11).bind fun x_16 =>
(if x_16 = (-1 : Int32) then
(xf_0_longestAsleep_j71 ((xs_sA s_14 130 (upd (s_14.2.1 130) (x_11).toNatClampNeg (v_14)))) (v1) (v2) (v4) (w5) ((0 : Int32)) (w3))
else
(xf_0_longestAsleep_j71 ((xs_sA s_14 130 (upd (s_14.2.1 130) (x_11).toNatClampNeg (v_14)))) (v1) (v2) (v4) (w5) ((1 : Int32)) (w3)))) else none))
else
(xf_0_longestAsleep_j73 (s) (v1) (v2) (w3) (v4) (w5))))))
set_option maxHeartbeats 4000000 in
theorem xb_0_longestAsleep_l41 {C : mm_C} {Q : mm_R} {pt : Value} {ps : Value} {pr : Value} (h_11_isAwake : xk_11_isAwake C) (h_0_spread : xk_0_spread C) (h_0_asleepTurns : xk_0_asleepTurns C) (v1 : Int32) (v2 : Int32) (v4 : Int32) (t : Int32 × Int32 × xs_S) (x : (Int32 × xs_S)) (hl : mo_loop (xf_0_longestAsleep_l41 v1 v2 v4) t = some x) (hK : (mo_c2 (fun y3 sy => mm_go C mm_Mk mm_Fk P_X0_longestAsleep Q (P_X0_longestAsleep.drop 75) [(0, .ref 126), (1, .int v1), (2, .int v2), (3, .int y3), (4, .int v4)] [] (xs_H pt ps (.ref 9) pr sy) 0 0)) x) : (mo_c2 (fun y3 => (mo_c2 (fun y5 sy => mm_go C mm_Mk mm_Fk P_X0_longestAsleep Q (P_X0_longestAsleep.drop 41) [(0, .ref 126), (1, .int v1), (2, .int v2), (3, .int y3), (4, .int v4), (5, .int y5)] [] (xs_H pt ps (.ref 9) pr sy) 0 0)))) t := by
  refine mo_loop_go (G := (mo_c2 (fun y3 => (mo_c2 (fun y5 sy => mm_go C mm_Mk mm_Fk P_X0_longestAsleep Q (P_X0_longestAsleep.drop 41) [(0, .ref 126), (1, .int v1), (2, .int v2), (3, .int y3), (4, .int v4), (5, .int y5)] [] (xs_H pt ps (.ref 9) pr sy) 0 0)))) ) (K := (mo_c2 (fun y3 sy => mm_go C mm_Mk mm_Fk P_X0_longestAsleep Q (P_X0_longestAsleep.drop 75) [(0, .ref 126), (1, .int v1), (2, .int v2), (3, .int y3), (4, .int v4)] [] (xs_H pt ps (.ref 9) pr sy) 0 0)) ) ?_ t x hl hK
  intro t r hf hK
  obtain ⟨w3, w5, s⟩ := t
  unfold xf_0_longestAsleep_l41 at hf
  by_cases c_10 : w5 < (0 : Int32)
  · have hf := mo_pos hf c_10
    obtain rfl := Option.some.inj hf
    refine mm_adv 2 (cs' := P_X0_longestAsleep.drop 75) (l' := [(0, .ref 126), (1, .int v1), (2, .int v2), (3, .int w3), (4, .int v4), (5, .int w5)]) (st' := []) (h' := (xs_H pt ps (.ref 9) pr s)) (bc' := 0) (bs' := 0) (fun n g => (And.intro (fun _ => g) (fun q => absurd c_10 q))) ?_
    exact mm_re (c := [(0, .ref 126), (1, .int v1), (2, .int v2), (3, .int w3), (4, .int v4)]) hK rfl rfl
  · have hf := mo_neg hf c_10
    obtain ⟨x_11, hx_11, hf⟩ := mo_bind hf
    obtain ⟨hi_11, rfl⟩ := mo_ag_inv hx_11
    obtain ⟨x_12, hx_12, hf⟩ := mo_bind hf
    obtain ⟨hi_12, rfl⟩ := mo_ag_inv hx_12
    by_cases c_13 : ((s.2.1 130) (((s.2.1 127) (w5).toNatClampNeg)).toNatClampNeg) = (-1 : Int32)
    · have hf := mo_pos hf c_13
      obtain ⟨r_14, hr_14, hf⟩ := mo_bind hf
      obtain ⟨v_14, s_14⟩ := r_14
      obtain ⟨hi_15, hf⟩ := mo_if hf
      obtain ⟨x_16, hx_16, hf⟩ := mo_bind hf
      obtain ⟨hi_16, rfl⟩ := mo_ag_inv hx_16
      by_cases c_17 : ((upd (s_14.2.1 130) (((s.2.1 127) (w5).toNatClampNeg)).toNatClampNeg (v_14)) (((s.2.1 127) (w5).toNatClampNeg)).toNatClampNeg) = (-1 : Int32)
      · have hf := mo_pos hf c_17
        refine mm_adv 28 (cs' := P_X0_longestAsleep.drop 71) (l' := [(6, .int ((s.2.1 127) (w5).toNatClampNeg)), (0, .ref 126), (1, .int v1), (2, .int v2), (3, .int w3), (4, .int v4), (5, .int w5)]) (st' := [.int (0 : Int32), .int w3]) (h' := (xs_H pt ps (.ref 9) pr (xs_sA s_14 130 (upd (s_14.2.1 130) (((s.2.1 127) (w5).toNatClampNeg)).toNatClampNeg (v_14))))) (bc' := 0) (bs' := 0) (fun n g => (And.intro (fun q => absurd q c_10) (fun _ => (And.intro hi_11 (And.intro hi_12 (And.intro (fun q => absurd c_13 q) (fun _ => (h_0_asleepTurns pt ps (.ref 9) pr s (((s.2.1 127) (w5).toNatClampNeg)) v_14 s_14 _ hr_14 (And.intro hi_15 (And.intro hi_16 (And.intro (fun _ => g) (fun q => absurd c_17 q)))))))))))) ?_
        refine mm_re (l' := [(0, .ref 126), (1, .int v1), (2, .int v2), (4, .int v4), (5, .int w5)]) (c := [(0, .ref 126), (1, .int v1), (2, .int v2), (4, .int v4), (5, .int w5)]) ?_ rfl rfl
        exact xb_0_longestAsleep_j71 h_11_isAwake h_0_spread h_0_asleepTurns (xs_sA s_14 130 (upd (s_14.2.1 130) (((s.2.1 127) (w5).toNatClampNeg)).toNatClampNeg (v_14))) (v1) (v2) (v4) (w5) ((0 : Int32)) (w3) _ hf hK
      · have hf := mo_neg hf c_17
        refine mm_adv 29 (cs' := P_X0_longestAsleep.drop 71) (l' := [(6, .int ((s.2.1 127) (w5).toNatClampNeg)), (0, .ref 126), (1, .int v1), (2, .int v2), (3, .int w3), (4, .int v4), (5, .int w5)]) (st' := [.int (1 : Int32), .int w3]) (h' := (xs_H pt ps (.ref 9) pr (xs_sA s_14 130 (upd (s_14.2.1 130) (((s.2.1 127) (w5).toNatClampNeg)).toNatClampNeg (v_14))))) (bc' := 0) (bs' := 0) (fun n g => (And.intro (fun q => absurd q c_10) (fun _ => (And.intro hi_11 (And.intro hi_12 (And.intro (fun q => absurd c_13 q) (fun _ => (h_0_asleepTurns pt ps (.ref 9) pr s (((s.2.1 127) (w5).toNatClampNeg)) v_14 s_14 _ hr_14 (And.intro hi_15 (And.intro hi_16 (And.intro (fun q => absurd q c_17) (fun _ => g)))))))))))) ?_
        refine mm_re (l' := [(0, .ref 126), (1, .int v1), (2, .int v2), (4, .int v4), (5, .int w5)]) (c := [(0, .ref 126), (1, .int v1), (2, .int v2), (4, .int v4), (5, .int w5)]) ?_ rfl rfl
        exact xb_0_longestAsleep_j71 h_11_isAwake h_0_spread h_0_asleepTurns (xs_sA s_14 130 (upd (s_14.2.1 130) (((s.2.1 127) (w5).toNatClampNeg)).toNatClampNeg (v_14))) (v1) (v2) (v4) (w5) ((1 : Int32)) (w3) _ hf hK
    · have hf := mo_neg hf c_13
      refine mm_adv 13 (cs' := P_X0_longestAsleep.drop 73) (l' := [(6, .int ((s.2.1 127) (w5).toNatClampNeg)), (0, .ref 126), (1, .int v1), (2, .int v2), (3, .int w3), (4, .int v4), (5, .int w5)]) (st' := []) (h' := (xs_H pt ps (.ref 9) pr s)) (bc' := 0) (bs' := 0) (fun n g => (And.intro (fun q => absurd q c_10) (fun _ => (And.intro hi_11 (And.intro hi_12 (And.intro (fun _ => g) (fun q => absurd c_13 q))))))) ?_
      refine mm_re (l' := [(0, .ref 126), (1, .int v1), (2, .int v2), (3, .int w3), (4, .int v4), (5, .int w5)]) (c := [(0, .ref 126), (1, .int v1), (2, .int v2), (3, .int w3), (4, .int v4), (5, .int w5)]) ?_ rfl rfl
      exact xb_0_longestAsleep_j73 h_11_isAwake h_0_spread h_0_asleepTurns s (v1) (v2) (w3) (v4) (w5) _ hf hK
noncomputable def xf_0_longestAsleep_l29 (v1 : Int32) (v2 : Int32) : (Int32 × Int32 × xs_S) → Option ((Int32 × Int32 × xs_S) ⊕ ((xs_S))) := fun (w3, w4, s) =>
(if (294 : Int32) ≤ w4 then
some (.inr (s))
else
(if w3 = (0 : Int32) then
some (.inr (s))
else
((mo_loop (xf_0_longestAsleep_l41 (v1) (v2) (w4)) ((0 : Int32), ((s.1 2018) - (1 : Int32)), s)).bind fun (e3_18, s_18) =>
some (.inl (e3_18, (w4 + (1 : Int32)), s_18)))))
set_option maxHeartbeats 4000000 in
theorem xb_0_longestAsleep_l29 {C : mm_C} {Q : mm_R} {pt : Value} {ps : Value} {pr : Value} (h_11_isAwake : xk_11_isAwake C) (h_0_spread : xk_0_spread C) (h_0_asleepTurns : xk_0_asleepTurns C) (v1 : Int32) (v2 : Int32) (t : Int32 × Int32 × xs_S) (x : (xs_S)) (hl : mo_loop (xf_0_longestAsleep_l29 v1 v2) t = some x) (hK : (fun sy => mm_go C mm_Mk mm_Fk P_X0_longestAsleep Q (P_X0_longestAsleep.drop 77) [(0, .ref 126), (1, .int v1), (2, .int v2)] [] (xs_H pt ps (.ref 9) pr sy) 0 0) x) : (mo_c2 (fun y3 => (mo_c2 (fun y4 sy => mm_go C mm_Mk mm_Fk P_X0_longestAsleep Q (P_X0_longestAsleep.drop 29) [(0, .ref 126), (1, .int v1), (2, .int v2), (3, .int y3), (4, .int y4)] [] (xs_H pt ps (.ref 9) pr sy) 0 0)))) t := by
  refine mo_loop_go (G := (mo_c2 (fun y3 => (mo_c2 (fun y4 sy => mm_go C mm_Mk mm_Fk P_X0_longestAsleep Q (P_X0_longestAsleep.drop 29) [(0, .ref 126), (1, .int v1), (2, .int v2), (3, .int y3), (4, .int y4)] [] (xs_H pt ps (.ref 9) pr sy) 0 0)))) ) (K := (fun sy => mm_go C mm_Mk mm_Fk P_X0_longestAsleep Q (P_X0_longestAsleep.drop 77) [(0, .ref 126), (1, .int v1), (2, .int v2)] [] (xs_H pt ps (.ref 9) pr sy) 0 0) ) ?_ t x hl hK
  intro t r hf hK
  obtain ⟨w3, w4, s⟩ := t
  unfold xf_0_longestAsleep_l29 at hf
  by_cases c_8 : (294 : Int32) ≤ w4
  · have hf := mo_pos hf c_8
    obtain rfl := Option.some.inj hf
    refine mm_adv 3 (cs' := P_X0_longestAsleep.drop 77) (l' := [(0, .ref 126), (1, .int v1), (2, .int v2), (3, .int w3), (4, .int w4)]) (st' := []) (h' := (xs_H pt ps (.ref 9) pr s)) (bc' := 0) (bs' := 0) (fun n g => (And.intro (fun _ => g) (fun q => absurd c_8 q))) ?_
    exact mm_re (c := [(0, .ref 126), (1, .int v1), (2, .int v2)]) hK rfl rfl
  · have hf := mo_neg hf c_8
    by_cases c_9 : w3 = (0 : Int32)
    · have hf := mo_pos hf c_9
      obtain rfl := Option.some.inj hf
      refine mm_adv 5 (cs' := P_X0_longestAsleep.drop 77) (l' := [(0, .ref 126), (1, .int v1), (2, .int v2), (3, .int w3), (4, .int w4)]) (st' := []) (h' := (xs_H pt ps (.ref 9) pr s)) (bc' := 0) (bs' := 0) (fun n g => (And.intro (fun q => absurd q c_8) (fun _ => (And.intro (fun _ => g) (fun q => absurd c_9 q))))) ?_
      exact mm_re (c := [(0, .ref 126), (1, .int v1), (2, .int v2)]) hK rfl rfl
    · have hf := mo_neg hf c_9
      obtain ⟨x_18, hl_18, hf⟩ := mo_bind hf
      refine mm_adv 12 (cs' := P_X0_longestAsleep.drop 41) (l' := [(5, .int ((s.1 2018) - (1 : Int32))), (3, .int (0 : Int32)), (0, .ref 126), (1, .int v1), (2, .int v2), (4, .int w4)]) (st' := []) (h' := (xs_H pt ps (.ref 9) pr s)) (bc' := 0) (bs' := 0) (fun n g => (And.intro (fun q => absurd q c_8) (fun _ => (And.intro (fun q => absurd q c_9) (fun _ => g))))) ?_
      refine mm_re (l' := [(0, .ref 126), (1, .int v1), (2, .int v2), (3, .int (0 : Int32)), (4, .int w4), (5, .int ((s.1 2018) - (1 : Int32)))]) (c := [(0, .ref 126), (1, .int v1), (2, .int v2), (3, .int (0 : Int32)), (4, .int w4), (5, .int ((s.1 2018) - (1 : Int32)))]) ?_ rfl rfl
      refine xb_0_longestAsleep_l41 h_11_isAwake h_0_spread h_0_asleepTurns (v1) (v2) (w4) ((0 : Int32), ((s.1 2018) - (1 : Int32)), s) x_18 hl_18 ?_
      obtain ⟨e3_18, s_18⟩ := x_18
      obtain rfl := Option.some.inj hf
      refine mm_adv 2 (cs' := P_X0_longestAsleep.drop 29) (l' := [(4, .int (w4 + (1 : Int32))), (0, .ref 126), (1, .int v1), (2, .int v2), (3, .int e3_18)]) (st' := []) (h' := (xs_H pt ps (.ref 9) pr s_18)) (bc' := 0) (bs' := 0) (fun n g => g) ?_
      exact mm_re (c := [(0, .ref 126), (1, .int v1), (2, .int v2), (3, .int e3_18), (4, .int (w4 + (1 : Int32)))]) hK rfl rfl
noncomputable def xf_0_longestAsleep_j77 (s : xs_S) (v1 : Int32) (v2 : Int32) : Option (Int32 × xs_S) :=
((mo_ag 294 (s.2.1 130) v1).bind fun x_20 =>
(if x_20 = (-1 : Int32) then
some (v2, s)
else
((mo_ag 294 (s.2.1 130) v1).bind fun x_22 =>
some ((mm_min (v2) (x_22)), s))))
set_option maxHeartbeats 4000000 in
theorem xb_0_longestAsleep_j77 {C : mm_C} {Q : mm_R} {pt : Value} {ps : Value} {pr : Value} (h_11_isAwake : xk_11_isAwake C) (h_0_spread : xk_0_spread C) (h_0_asleepTurns : xk_0_asleepTurns C) (s : xs_S) (v1 : Int32) (v2 : Int32) (v : Int32) (s2 : xs_S) (hf : xf_0_longestAsleep_j77 s v1 v2 = some (v, s2)) (hK : Q (some (.int v)) (xs_H pt ps (.ref 9) pr s2)) : mm_go C mm_Mk mm_Fk P_X0_longestAsleep Q (P_X0_longestAsleep.drop 77) [(0, .ref 126), (1, .int v1), (2, .int v2)] [] (xs_H pt ps (.ref 9) pr s) 0 0 := by
  unfold xf_0_longestAsleep_j77 at hf
  obtain ⟨x_20, hx_20, hf⟩ := mo_bind hf
  obtain ⟨hi_20, rfl⟩ := mo_ag_inv hx_20
  by_cases c_21 : ((s.2.1 130) (v1).toNatClampNeg) = (-1 : Int32)
  · have hf := mo_pos hf c_21
    obtain ⟨rfl, rfl⟩ := mo_pair hf
    exact ⟨9, (And.intro hi_20 (And.intro (fun q => absurd c_21 q) (fun _ => hK)))⟩
  · have hf := mo_neg hf c_21
    obtain ⟨x_22, hx_22, hf⟩ := mo_bind hf
    obtain ⟨hi_22, rfl⟩ := mo_ag_inv hx_22
    obtain ⟨rfl, rfl⟩ := mo_pair hf
    exact ⟨13, (And.intro hi_20 (And.intro (fun _ => (And.intro hi_22 hK)) (fun q => absurd c_21 q)))⟩
noncomputable def xf_0_longestAsleep (s : xs_S) (a0 : Int32) (a1 : Int32) : Option (Int32 × xs_S) :=
((xf_11_isAwake (a0)).bind fun v_1 =>
(if v_1 = (0 : Int32) then
((xf_0_spread s (a0) ((0 : Int32))).bind fun s_3 =>
((mo_loop (xf_0_longestAsleep_l11 (a0) (a1)) ((0 : Int32), s_3)).bind fun s_7 =>
((mo_loop (xf_0_longestAsleep_l29 (a0) (a1)) ((1 : Int32), (0 : Int32), s_7)).bind fun s_19 =>
(xf_0_longestAsleep_j77 (s_19) (a0) (a1)))))
else
some ((0 : Int32), s)))
set_option maxHeartbeats 4000000 in
theorem xb_0_longestAsleep {C : mm_C} {Q : mm_R} {pt : Value} {ps : Value} {pr : Value} (h_11_isAwake : xk_11_isAwake C) (h_0_spread : xk_0_spread C) (h_0_asleepTurns : xk_0_asleepTurns C) (s : xs_S) (a0 : Int32) (a1 : Int32) (v : Int32) (s2 : xs_S) (hf : xf_0_longestAsleep s a0 a1 = some (v, s2)) (hK : Q (some (.int v)) (xs_H pt ps (.ref 9) pr s2)) : mm_go C mm_Mk mm_Fk P_X0_longestAsleep Q P_X0_longestAsleep [(0, .ref 126), (1, .int a0), (2, .int a1)] [] (xs_H pt ps (.ref 9) pr s) 0 0 := by
  unfold xf_0_longestAsleep at hf
  obtain ⟨v_1, hr_1, hf⟩ := mo_bind hf
  by_cases c_2 : v_1 = (0 : Int32)
  · have hf := mo_pos hf c_2
    obtain ⟨s_3, hr_3, hf⟩ := mo_bind hf
    obtain ⟨x_7, hl_7, hf⟩ := mo_bind hf
    refine mm_adv 9 (cs' := P_X0_longestAsleep.drop 11) (l' := [(3, .int (0 : Int32)), (0, .ref 126), (1, .int a0), (2, .int a1)]) (st' := []) (h' := (xs_H pt ps (.ref 9) pr s_3)) (bc' := 0) (bs' := 0) (fun n g => (h_11_isAwake _ (a0) v_1 _ hr_1 (And.intro (fun _ => (h_0_spread pt ps pr s (a0) ((0 : Int32)) s_3 _ hr_3 g)) (fun q => absurd c_2 q)))) ?_
    refine mm_re (l' := [(0, .ref 126), (1, .int a0), (2, .int a1), (3, .int (0 : Int32))]) (c := [(0, .ref 126), (1, .int a0), (2, .int a1), (3, .int (0 : Int32))]) ?_ rfl rfl
    refine xb_0_longestAsleep_l11 h_11_isAwake h_0_spread h_0_asleepTurns (a0) (a1) ((0 : Int32), s_3) x_7 hl_7 ?_
    obtain ⟨s_7, rfl⟩ : ∃ q, q = x_7 := ⟨_, rfl⟩
    obtain ⟨x_19, hl_19, hf⟩ := mo_bind hf
    refine mm_adv 4 (cs' := P_X0_longestAsleep.drop 29) (l' := [(4, .int (0 : Int32)), (3, .int (1 : Int32)), (0, .ref 126), (1, .int a0), (2, .int a1)]) (st' := []) (h' := (xs_H pt ps (.ref 9) pr s_7)) (bc' := 0) (bs' := 0) (fun n g => g) ?_
    refine mm_re (l' := [(0, .ref 126), (1, .int a0), (2, .int a1), (3, .int (1 : Int32)), (4, .int (0 : Int32))]) (c := [(0, .ref 126), (1, .int a0), (2, .int a1), (3, .int (1 : Int32)), (4, .int (0 : Int32))]) ?_ rfl rfl
    refine xb_0_longestAsleep_l29 h_11_isAwake h_0_spread h_0_asleepTurns (a0) (a1) ((1 : Int32), (0 : Int32), s_7) x_19 hl_19 ?_
    obtain ⟨s_19, rfl⟩ : ∃ q, q = x_19 := ⟨_, rfl⟩
    refine mm_re (l' := [(0, .ref 126), (1, .int a0), (2, .int a1)]) (c := [(0, .ref 126), (1, .int a0), (2, .int a1)]) ?_ rfl rfl
    exact xb_0_longestAsleep_j77 h_11_isAwake h_0_spread h_0_asleepTurns s_19 (a0) (a1) _ _ hf hK
  · have hf := mo_neg hf c_2
    obtain ⟨rfl, rfl⟩ := mo_pair hf
    exact ⟨5, (h_11_isAwake _ (a0) v_1 _ hr_1 (And.intro (fun q => absurd q c_2) (fun _ => hK)))⟩
def xk_0_longestAsleep (C : mm_C) : Prop := ∀ (pt : Value) (ps : Value) (pr : Value) (s : xs_S) (a0 : Int32) (a1 : Int32) (v : Int32) (s2 : xs_S) (Q : mm_R), xf_0_longestAsleep s a0 a1 = some (v, s2) → Q (some (.int v)) (xs_H pt ps (.ref 9) pr s2) → C 129 [.ref 126, .int a0, .int a1] (xs_H pt ps (.ref 9) pr s) Q
-- 11_together
noncomputable def xf_11_together (s : xs_S)  : Option (Int32 × xs_S) :=
((xf_0_longestAsleep s ((s.1 400)) ((200 : Int32))).bind fun (v_1, s_1) =>
some (v_1, s_1))
set_option maxHeartbeats 4000000 in
theorem xb_11_together {C : mm_C} {Q : mm_R} {pt : Value} {ps : Value} {pr : Value} (h_0_longestAsleep : xk_0_longestAsleep C) (s : xs_S)  (v : Int32) (s2 : xs_S) (hf : xf_11_together s = some (v, s2)) (hK : Q (some (.int v)) (xs_H pt ps (.ref 9) pr s2)) : mm_go C mm_Mk mm_Fk P_X11_together Q P_X11_together [(0, .ref 0)] [] (xs_H pt ps (.ref 9) pr s) 0 0 := by
  unfold xf_11_together at hf
  obtain ⟨r_1, hr_1, hf⟩ := mo_bind hf
  obtain ⟨v_1, s_1⟩ := r_1
  obtain ⟨rfl, rfl⟩ := mo_pair hf
  exact ⟨8, (h_0_longestAsleep pt ps pr s ((s.1 400)) ((200 : Int32)) v_1 s_1 _ hr_1 hK)⟩
def xk_11_together (C : mm_C) : Prop := ∀ (pt : Value) (ps : Value) (pr : Value) (s : xs_S)  (v : Int32) (s2 : xs_S) (Q : mm_R), xf_11_together s = some (v, s2) → Q (some (.int v)) (xs_H pt ps (.ref 9) pr s2) → C 240 [.ref 0] (xs_H pt ps (.ref 9) pr s) Q
-- 11_leanOf
noncomputable def xf_11_leanOf (a0 : Int32) : Option (Int32) :=
((xf_11_slopeOf (a0)).bind fun v_1 =>
some ((mm_abs ((v_1 - (10 : Int32))))))
set_option maxHeartbeats 4000000 in
theorem xb_11_leanOf {C : mm_C} {Q : mm_R} (h_11_slopeOf : xk_11_slopeOf C) {h : mm_H} (a0 : Int32) (v : Int32) (hf : xf_11_leanOf a0 = some v) (hK : Q (some (.int v)) h) : mm_go C mm_Mk mm_Fk P_X11_leanOf Q P_X11_leanOf [(0, .int a0)] [] h 0 0 := by
  unfold xf_11_leanOf at hf
  obtain ⟨v_1, hr_1, hf⟩ := mo_bind hf
  obtain rfl := Option.some.inj hf
  exact ⟨6, (h_11_slopeOf _ (a0) v_1 _ hr_1 hK)⟩
def xk_11_leanOf (C : mm_C) : Prop := ∀ (h : mm_H) (a0 : Int32) (v : Int32) (Q : mm_R), xf_11_leanOf a0 = some v → Q (some (.int v)) h → C 274 [.int a0] h Q
-- 0_shortestRing
noncomputable def xf_0_shortestRing_l12 (v1 : Int32) (v2 : Int32) : (Int32 × xs_S) → Option ((Int32 × xs_S) ⊕ ((xs_S) ⊕ (xs_S))) := fun (w3, s) =>
(if (7 : Int32) ≤ w3 then
some (.inr (.inr (s)))
else
((mo_ag 294 (s.2.1 127) v2).bind fun x_4 =>
((xf_1_after s (x_4) (w3) ((0 : Int32))).bind fun (v_5, s_5) =>
(if v_5 = v1 then
some (.inr (.inl (s_5)))
else
some (.inl ((w3 + (1 : Int32)), s_5))))))
set_option maxHeartbeats 4000000 in
theorem xb_0_shortestRing_l12 {C : mm_C} {Q : mm_R} {pt : Value} {ps : Value} {pr : Value} (h_0_spread : xk_0_spread C) (h_1_after : xk_1_after C) (v1 : Int32) (v2 : Int32) (t : Int32 × xs_S) (x : (xs_S) ⊕ (xs_S)) (hl : mo_loop (xf_0_shortestRing_l12 v1 v2) t = some x) (hK : (mo_sum (fun sy => mm_go C mm_Mk mm_Fk P_X0_shortestRing Q (P_X0_shortestRing.drop 26) [(0, .ref 126), (2, .int v2)] [] (xs_H pt ps (.ref 9) pr sy) 0 0) (fun sy => mm_go C mm_Mk mm_Fk P_X0_shortestRing Q (P_X0_shortestRing.drop 38) [(0, .ref 126), (1, .int v1), (2, .int v2)] [] (xs_H pt ps (.ref 9) pr sy) 0 0)) x) : (mo_c2 (fun y3 sy => mm_go C mm_Mk mm_Fk P_X0_shortestRing Q (P_X0_shortestRing.drop 12) [(0, .ref 126), (1, .int v1), (2, .int v2), (3, .int y3)] [] (xs_H pt ps (.ref 9) pr sy) 0 0)) t := by
  refine mo_loop_go (G := (mo_c2 (fun y3 sy => mm_go C mm_Mk mm_Fk P_X0_shortestRing Q (P_X0_shortestRing.drop 12) [(0, .ref 126), (1, .int v1), (2, .int v2), (3, .int y3)] [] (xs_H pt ps (.ref 9) pr sy) 0 0)) ) (K := (mo_sum (fun sy => mm_go C mm_Mk mm_Fk P_X0_shortestRing Q (P_X0_shortestRing.drop 26) [(0, .ref 126), (2, .int v2)] [] (xs_H pt ps (.ref 9) pr sy) 0 0) (fun sy => mm_go C mm_Mk mm_Fk P_X0_shortestRing Q (P_X0_shortestRing.drop 38) [(0, .ref 126), (1, .int v1), (2, .int v2)] [] (xs_H pt ps (.ref 9) pr sy) 0 0)) ) ?_ t x hl hK
  intro t r hf hK
  obtain ⟨w3, s⟩ := t
  unfold xf_0_shortestRing_l12 at hf
  by_cases c_3 : (7 : Int32) ≤ w3
  · have hf := mo_pos hf c_3
    obtain rfl := Option.some.inj hf
    refine mm_adv 3 (cs' := P_X0_shortestRing.drop 38) (l' := [(0, .ref 126), (1, .int v1), (2, .int v2), (3, .int w3)]) (st' := []) (h' := (xs_H pt ps (.ref 9) pr s)) (bc' := 0) (bs' := 0) (fun n g => (And.intro (fun _ => g) (fun q => absurd c_3 q))) ?_
    exact mm_re (c := [(0, .ref 126), (1, .int v1), (2, .int v2)]) hK rfl rfl
  · have hf := mo_neg hf c_3
    obtain ⟨x_4, hx_4, hf⟩ := mo_bind hf
    obtain ⟨hi_4, rfl⟩ := mo_ag_inv hx_4
    obtain ⟨r_5, hr_5, hf⟩ := mo_bind hf
    obtain ⟨v_5, s_5⟩ := r_5
    by_cases c_6 : v_5 = v1
    · have hf := mo_pos hf c_6
      obtain rfl := Option.some.inj hf
      refine mm_adv 14 (cs' := P_X0_shortestRing.drop 26) (l' := [(0, .ref 126), (1, .int v1), (2, .int v2), (3, .int w3)]) (st' := []) (h' := (xs_H pt ps (.ref 9) pr s_5)) (bc' := 0) (bs' := 0) (fun n g => (And.intro (fun q => absurd q c_3) (fun _ => (And.intro hi_4 (h_1_after pt ps (.ref 9) pr s (((s.2.1 127) (v2).toNatClampNeg)) (w3) ((0 : Int32)) v_5 s_5 _ hr_5 (And.intro (fun q => absurd c_6 q) (fun _ => g))))))) ?_
      exact mm_re (c := [(0, .ref 126), (2, .int v2)]) hK rfl rfl
    · have hf := mo_neg hf c_6
      obtain rfl := Option.some.inj hf
      refine mm_adv 16 (cs' := P_X0_shortestRing.drop 12) (l' := [(3, .int (w3 + (1 : Int32))), (0, .ref 126), (1, .int v1), (2, .int v2)]) (st' := []) (h' := (xs_H pt ps (.ref 9) pr s_5)) (bc' := 0) (bs' := 0) (fun n g => (And.intro (fun q => absurd q c_3) (fun _ => (And.intro hi_4 (h_1_after pt ps (.ref 9) pr s (((s.2.1 127) (v2).toNatClampNeg)) (w3) ((0 : Int32)) v_5 s_5 _ hr_5 (And.intro (fun _ => g) (fun q => absurd c_6 q))))))) ?_
      exact mm_re (c := [(0, .ref 126), (1, .int v1), (2, .int v2), (3, .int (w3 + (1 : Int32)))]) hK rfl rfl
noncomputable def xf_0_shortestRing_l6 (v1 : Int32) : (Int32 × xs_S) → Option ((Int32 × xs_S) ⊕ ((Int32 × xs_S) ⊕ (xs_S))) := fun (w2, s) =>
(if (s.1 2018) ≤ w2 then
some (.inr (.inr (s)))
else
((mo_loop (xf_0_shortestRing_l12 (v1) (w2)) ((0 : Int32), s)).bind fun x_7 =>
match x_7 with
| (.inl s_7) => some (.inr (.inl (w2, s_7)))
| (.inr s_7) => some (.inl ((w2 + (1 : Int32)), s_7))
))
set_option maxHeartbeats 4000000 in
theorem xb_0_shortestRing_l6 {C : mm_C} {Q : mm_R} {pt : Value} {ps : Value} {pr : Value} (h_0_spread : xk_0_spread C) (h_1_after : xk_1_after C) (v1 : Int32) (t : Int32 × xs_S) (x : (Int32 × xs_S) ⊕ (xs_S)) (hl : mo_loop (xf_0_shortestRing_l6 v1) t = some x) (hK : (mo_sum (mo_c2 (fun y2 sy => mm_go C mm_Mk mm_Fk P_X0_shortestRing Q (P_X0_shortestRing.drop 26) [(0, .ref 126), (2, .int y2)] [] (xs_H pt ps (.ref 9) pr sy) 0 0)) (fun sy => mm_go C mm_Mk mm_Fk P_X0_shortestRing Q (P_X0_shortestRing.drop 40) [] [] (xs_H pt ps (.ref 9) pr sy) 0 0)) x) : (mo_c2 (fun y2 sy => mm_go C mm_Mk mm_Fk P_X0_shortestRing Q (P_X0_shortestRing.drop 6) [(0, .ref 126), (1, .int v1), (2, .int y2)] [] (xs_H pt ps (.ref 9) pr sy) 0 0)) t := by
  refine mo_loop_go (G := (mo_c2 (fun y2 sy => mm_go C mm_Mk mm_Fk P_X0_shortestRing Q (P_X0_shortestRing.drop 6) [(0, .ref 126), (1, .int v1), (2, .int y2)] [] (xs_H pt ps (.ref 9) pr sy) 0 0)) ) (K := (mo_sum (mo_c2 (fun y2 sy => mm_go C mm_Mk mm_Fk P_X0_shortestRing Q (P_X0_shortestRing.drop 26) [(0, .ref 126), (2, .int y2)] [] (xs_H pt ps (.ref 9) pr sy) 0 0)) (fun sy => mm_go C mm_Mk mm_Fk P_X0_shortestRing Q (P_X0_shortestRing.drop 40) [] [] (xs_H pt ps (.ref 9) pr sy) 0 0)) ) ?_ t x hl hK
  intro t r hf hK
  obtain ⟨w2, s⟩ := t
  unfold xf_0_shortestRing_l6 at hf
  by_cases c_2 : (s.1 2018) ≤ w2
  · have hf := mo_pos hf c_2
    obtain rfl := Option.some.inj hf
    refine mm_adv 4 (cs' := P_X0_shortestRing.drop 40) (l' := [(0, .ref 126), (1, .int v1), (2, .int w2)]) (st' := []) (h' := (xs_H pt ps (.ref 9) pr s)) (bc' := 0) (bs' := 0) (fun n g => (And.intro (fun _ => g) (fun q => absurd c_2 q))) ?_
    exact mm_re (c := []) hK rfl rfl
  · have hf := mo_neg hf c_2
    obtain ⟨x_7, hl_7, hf⟩ := mo_bind hf
    refine mm_adv 6 (cs' := P_X0_shortestRing.drop 12) (l' := [(3, .int (0 : Int32)), (0, .ref 126), (1, .int v1), (2, .int w2)]) (st' := []) (h' := (xs_H pt ps (.ref 9) pr s)) (bc' := 0) (bs' := 0) (fun n g => (And.intro (fun q => absurd q c_2) (fun _ => g))) ?_
    refine mm_re (l' := [(0, .ref 126), (1, .int v1), (2, .int w2), (3, .int (0 : Int32))]) (c := [(0, .ref 126), (1, .int v1), (2, .int w2), (3, .int (0 : Int32))]) ?_ rfl rfl
    refine xb_0_shortestRing_l12 h_0_spread h_1_after (v1) (w2) ((0 : Int32), s) x_7 hl_7 ?_
    cases x_7 with
    | inl y_7 =>
      obtain ⟨s_7, rfl⟩ : ∃ q, q = y_7 := ⟨_, rfl⟩
      obtain rfl := Option.some.inj hf
      exact mm_re (c := [(0, .ref 126), (2, .int w2)]) hK rfl rfl
    | inr z_7_0 =>
      obtain ⟨s_7, rfl⟩ : ∃ q, q = z_7_0 := ⟨_, rfl⟩
      obtain rfl := Option.some.inj hf
      refine mm_adv 2 (cs' := P_X0_shortestRing.drop 6) (l' := [(2, .int (w2 + (1 : Int32))), (0, .ref 126), (1, .int v1)]) (st' := []) (h' := (xs_H pt ps (.ref 9) pr s_7)) (bc' := 0) (bs' := 0) (fun n g => g) ?_
      exact mm_re (c := [(0, .ref 126), (1, .int v1), (2, .int (w2 + (1 : Int32)))]) hK rfl rfl
noncomputable def xf_0_shortestRing (s : xs_S) (a0 : Int32) : Option (Int32 × xs_S) :=
((xf_0_spread s (a0) ((0 : Int32))).bind fun s_1 =>
((mo_loop (xf_0_shortestRing_l6 (a0)) ((0 : Int32), s_1)).bind fun x_8 =>
match x_8 with
| (.inl (e2_8, s_8)) => ((mo_ag 294 (s_8.2.1 127) e2_8).bind fun x_9 =>
((mo_ag 294 (s_8.2.1 128) x_9).bind fun x_10 =>
some ((x_10 + (1 : Int32)), s_8)))
| (.inr s_8) => some ((-2 : Int32), s_8)
))
set_option maxHeartbeats 4000000 in
theorem xb_0_shortestRing {C : mm_C} {Q : mm_R} {pt : Value} {ps : Value} {pr : Value} (h_0_spread : xk_0_spread C) (h_1_after : xk_1_after C) (s : xs_S) (a0 : Int32) (v : Int32) (s2 : xs_S) (hf : xf_0_shortestRing s a0 = some (v, s2)) (hK : Q (some (.int v)) (xs_H pt ps (.ref 9) pr s2)) : mm_go C mm_Mk mm_Fk P_X0_shortestRing Q P_X0_shortestRing [(0, .ref 126), (1, .int a0)] [] (xs_H pt ps (.ref 9) pr s) 0 0 := by
  unfold xf_0_shortestRing at hf
  obtain ⟨s_1, hr_1, hf⟩ := mo_bind hf
  obtain ⟨x_8, hl_8, hf⟩ := mo_bind hf
  refine mm_adv 6 (cs' := P_X0_shortestRing.drop 6) (l' := [(2, .int (0 : Int32)), (0, .ref 126), (1, .int a0)]) (st' := []) (h' := (xs_H pt ps (.ref 9) pr s_1)) (bc' := 0) (bs' := 0) (fun n g => (h_0_spread pt ps pr s (a0) ((0 : Int32)) s_1 _ hr_1 g)) ?_
  refine mm_re (l' := [(0, .ref 126), (1, .int a0), (2, .int (0 : Int32))]) (c := [(0, .ref 126), (1, .int a0), (2, .int (0 : Int32))]) ?_ rfl rfl
  refine xb_0_shortestRing_l6 h_0_spread h_1_after (a0) ((0 : Int32), s_1) x_8 hl_8 ?_
  cases x_8 with
  | inl y_8 =>
    obtain ⟨e2_8, s_8⟩ := y_8
    obtain ⟨x_9, hx_9, hf⟩ := mo_bind hf
    obtain ⟨hi_9, rfl⟩ := mo_ag_inv hx_9
    obtain ⟨x_10, hx_10, hf⟩ := mo_bind hf
    obtain ⟨hi_10, rfl⟩ := mo_ag_inv hx_10
    obtain ⟨rfl, rfl⟩ := mo_pair hf
    exact ⟨10, (And.intro hi_9 (And.intro hi_10 hK))⟩
  | inr z_8_0 =>
    obtain ⟨s_8, rfl⟩ : ∃ q, q = z_8_0 := ⟨_, rfl⟩
    obtain ⟨rfl, rfl⟩ := mo_pair hf
    exact ⟨2, hK⟩
def xk_0_shortestRing (C : mm_C) : Prop := ∀ (pt : Value) (ps : Value) (pr : Value) (s : xs_S) (a0 : Int32) (v : Int32) (s2 : xs_S) (Q : mm_R), xf_0_shortestRing s a0 = some (v, s2) → Q (some (.int v)) (xs_H pt ps (.ref 9) pr s2) → C 128 [.ref 126, .int a0] (xs_H pt ps (.ref 9) pr s) Q
-- 11_ring
noncomputable def xf_11_ring (s : xs_S)  : Option (Int32 × xs_S) :=
((xf_0_shortestRing s ((s.1 400))).bind fun (v_1, s_1) =>
some (v_1, s_1))
set_option maxHeartbeats 4000000 in
theorem xb_11_ring {C : mm_C} {Q : mm_R} {pt : Value} {ps : Value} {pr : Value} (h_0_shortestRing : xk_0_shortestRing C) (s : xs_S)  (v : Int32) (s2 : xs_S) (hf : xf_11_ring s = some (v, s2)) (hK : Q (some (.int v)) (xs_H pt ps (.ref 9) pr s2)) : mm_go C mm_Mk mm_Fk P_X11_ring Q P_X11_ring [(0, .ref 0)] [] (xs_H pt ps (.ref 9) pr s) 0 0 := by
  unfold xf_11_ring at hf
  obtain ⟨r_1, hr_1, hf⟩ := mo_bind hf
  obtain ⟨v_1, s_1⟩ := r_1
  obtain ⟨rfl, rfl⟩ := mo_pair hf
  exact ⟨7, (h_0_shortestRing pt ps pr s ((s.1 400)) v_1 s_1 _ hr_1 hK)⟩
def xk_11_ring (C : mm_C) : Prop := ∀ (pt : Value) (ps : Value) (pr : Value) (s : xs_S)  (v : Int32) (s2 : xs_S) (Q : mm_R), xf_11_ring s = some (v, s2) → Q (some (.int v)) (xs_H pt ps (.ref 9) pr s2) → C 244 [.ref 0] (xs_H pt ps (.ref 9) pr s) Q
-- 11_reach
noncomputable def xf_11_reach (s : xs_S)  : Option (Int32 × xs_S) :=
((xf_0_spread s ((s.1 400)) ((0 : Int32))).bind fun s_1 =>
some ((s_1.1 2018), s_1))
set_option maxHeartbeats 4000000 in
theorem xb_11_reach {C : mm_C} {Q : mm_R} {pt : Value} {ps : Value} {pr : Value} (h_0_spread : xk_0_spread C) (s : xs_S)  (v : Int32) (s2 : xs_S) (hf : xf_11_reach s = some (v, s2)) (hK : Q (some (.int v)) (xs_H pt ps (.ref 9) pr s2)) : mm_go C mm_Mk mm_Fk P_X11_reach Q P_X11_reach [(0, .ref 0)] [] (xs_H pt ps (.ref 9) pr s) 0 0 := by
  unfold xf_11_reach at hf
  obtain ⟨s_1, hr_1, hf⟩ := mo_bind hf
  obtain ⟨rfl, rfl⟩ := mo_pair hf
  exact ⟨11, (h_0_spread pt ps pr s ((s.1 400)) ((0 : Int32)) s_1 _ hr_1 hK)⟩
def xk_11_reach (C : mm_C) : Prop := ∀ (pt : Value) (ps : Value) (pr : Value) (s : xs_S)  (v : Int32) (s2 : xs_S) (Q : mm_R), xf_11_reach s = some (v, s2) → Q (some (.int v)) (xs_H pt ps (.ref 9) pr s2) → C 245 [.ref 0] (xs_H pt ps (.ref 9) pr s) Q
-- 0_slopeBits
noncomputable def xf_0_slopeBits_l4  : (Int32 × Int32 × xs_S) → Option ((Int32 × Int32 × xs_S) ⊕ ((Int32 × xs_S))) := fun (w1, w2, s) =>
(if (s.1 2018) ≤ w2 then
some (.inr (w1, s))
else
((mo_ag 294 (s.2.1 127) w2).bind fun x_2 =>
((xf_11_slopeOf (x_2)).bind fun v_3 =>
some (.inl ((w1 ||| ((1 : Int32) <<< (v_3 &&& 31))), (w2 + (1 : Int32)), s)))))
set_option maxHeartbeats 4000000 in
theorem xb_0_slopeBits_l4 {C : mm_C} {Q : mm_R} {pt : Value} {ps : Value} {pg : Value} {pr : Value} (h_11_slopeOf : xk_11_slopeOf C)  (t : Int32 × Int32 × xs_S) (x : (Int32 × xs_S)) (hl : mo_loop (xf_0_slopeBits_l4 ) t = some x) (hK : (mo_c2 (fun y1 sy => mm_go C mm_Mk mm_Fk P_X0_slopeBits Q (P_X0_slopeBits.drop 20) [(1, .int y1)] [] (xs_H pt ps pg pr sy) 0 0)) x) : (mo_c2 (fun y1 => (mo_c2 (fun y2 sy => mm_go C mm_Mk mm_Fk P_X0_slopeBits Q (P_X0_slopeBits.drop 4) [(0, .ref 126), (1, .int y1), (2, .int y2)] [] (xs_H pt ps pg pr sy) 0 0)))) t := by
  refine mo_loop_go (G := (mo_c2 (fun y1 => (mo_c2 (fun y2 sy => mm_go C mm_Mk mm_Fk P_X0_slopeBits Q (P_X0_slopeBits.drop 4) [(0, .ref 126), (1, .int y1), (2, .int y2)] [] (xs_H pt ps pg pr sy) 0 0)))) ) (K := (mo_c2 (fun y1 sy => mm_go C mm_Mk mm_Fk P_X0_slopeBits Q (P_X0_slopeBits.drop 20) [(1, .int y1)] [] (xs_H pt ps pg pr sy) 0 0)) ) ?_ t x hl hK
  intro t r hf hK
  obtain ⟨w1, w2, s⟩ := t
  unfold xf_0_slopeBits_l4 at hf
  by_cases c_1 : (s.1 2018) ≤ w2
  · have hf := mo_pos hf c_1
    obtain rfl := Option.some.inj hf
    refine mm_adv 4 (cs' := P_X0_slopeBits.drop 20) (l' := [(0, .ref 126), (1, .int w1), (2, .int w2)]) (st' := []) (h' := (xs_H pt ps pg pr s)) (bc' := 0) (bs' := 0) (fun n g => (And.intro (fun _ => g) (fun q => absurd c_1 q))) ?_
    exact mm_re (c := [(1, .int w1)]) hK rfl rfl
  · have hf := mo_neg hf c_1
    obtain ⟨x_2, hx_2, hf⟩ := mo_bind hf
    obtain ⟨hi_2, rfl⟩ := mo_ag_inv hx_2
    obtain ⟨v_3, hr_3, hf⟩ := mo_bind hf
    obtain rfl := Option.some.inj hf
    refine mm_adv 16 (cs' := P_X0_slopeBits.drop 4) (l' := [(2, .int (w2 + (1 : Int32))), (1, .int (w1 ||| ((1 : Int32) <<< (v_3 &&& 31)))), (0, .ref 126)]) (st' := []) (h' := (xs_H pt ps pg pr s)) (bc' := 0) (bs' := 0) (fun n g => (And.intro (fun q => absurd q c_1) (fun _ => (And.intro hi_2 (h_11_slopeOf _ (((s.2.1 127) (w2).toNatClampNeg)) v_3 _ hr_3 g))))) ?_
    exact mm_re (c := [(0, .ref 126), (1, .int (w1 ||| ((1 : Int32) <<< (v_3 &&& 31)))), (2, .int (w2 + (1 : Int32)))]) hK rfl rfl
noncomputable def xf_0_slopeBits (s : xs_S)  : Option (Int32 × xs_S) :=
((mo_loop (xf_0_slopeBits_l4 ) ((0 : Int32), (0 : Int32), s)).bind fun (e1_4, s_4) =>
some (e1_4, s_4))
set_option maxHeartbeats 4000000 in
theorem xb_0_slopeBits {C : mm_C} {Q : mm_R} {pt : Value} {ps : Value} {pg : Value} {pr : Value} (h_11_slopeOf : xk_11_slopeOf C) (s : xs_S)  (v : Int32) (s2 : xs_S) (hf : xf_0_slopeBits s = some (v, s2)) (hK : Q (some (.int v)) (xs_H pt ps pg pr s2)) : mm_go C mm_Mk mm_Fk P_X0_slopeBits Q P_X0_slopeBits [(0, .ref 126)] [] (xs_H pt ps pg pr s) 0 0 := by
  unfold xf_0_slopeBits at hf
  obtain ⟨x_4, hl_4, hf⟩ := mo_bind hf
  refine mm_adv 4 (cs' := P_X0_slopeBits.drop 4) (l' := [(2, .int (0 : Int32)), (1, .int (0 : Int32)), (0, .ref 126)]) (st' := []) (h' := (xs_H pt ps pg pr s)) (bc' := 0) (bs' := 0) (fun n g => g) ?_
  refine mm_re (l' := [(0, .ref 126), (1, .int (0 : Int32)), (2, .int (0 : Int32))]) (c := [(0, .ref 126), (1, .int (0 : Int32)), (2, .int (0 : Int32))]) ?_ rfl rfl
  refine xb_0_slopeBits_l4 h_11_slopeOf  ((0 : Int32), (0 : Int32), s) x_4 hl_4 ?_
  obtain ⟨e1_4, s_4⟩ := x_4
  obtain ⟨rfl, rfl⟩ := mo_pair hf
  exact ⟨2, hK⟩
def xk_0_slopeBits (C : mm_C) : Prop := ∀ (pt : Value) (ps : Value) (pg : Value) (pr : Value) (s : xs_S)  (v : Int32) (s2 : xs_S) (Q : mm_R), xf_0_slopeBits s = some (v, s2) → Q (some (.int v)) (xs_H pt ps pg pr s2) → C 127 [.ref 126] (xs_H pt ps pg pr s) Q
-- 11_slopes
noncomputable def xf_11_slopes (s : xs_S)  : Option (Int32 × xs_S) :=
((xf_0_spread s ((s.1 400)) ((0 : Int32))).bind fun s_1 =>
((xf_0_slopeBits s_1 ).bind fun (v_2, s_2) =>
some (v_2, s_2)))
set_option maxHeartbeats 4000000 in
theorem xb_11_slopes {C : mm_C} {Q : mm_R} {pt : Value} {ps : Value} {pr : Value} (h_0_spread : xk_0_spread C) (h_0_slopeBits : xk_0_slopeBits C) (s : xs_S)  (v : Int32) (s2 : xs_S) (hf : xf_11_slopes s = some (v, s2)) (hK : Q (some (.int v)) (xs_H pt ps (.ref 9) pr s2)) : mm_go C mm_Mk mm_Fk P_X11_slopes Q P_X11_slopes [(0, .ref 0)] [] (xs_H pt ps (.ref 9) pr s) 0 0 := by
  unfold xf_11_slopes at hf
  obtain ⟨s_1, hr_1, hf⟩ := mo_bind hf
  obtain ⟨r_2, hr_2, hf⟩ := mo_bind hf
  obtain ⟨v_2, s_2⟩ := r_2
  obtain ⟨rfl, rfl⟩ := mo_pair hf
  exact ⟨11, (h_0_spread pt ps pr s ((s.1 400)) ((0 : Int32)) s_1 _ hr_1 (h_0_slopeBits pt ps (.ref 9) pr s_1  v_2 s_2 _ hr_2 hK))⟩
def xk_11_slopes (C : mm_C) : Prop := ∀ (pt : Value) (ps : Value) (pr : Value) (s : xs_S)  (v : Int32) (s2 : xs_S) (Q : mm_R), xf_11_slopes s = some (v, s2) → Q (some (.int v)) (xs_H pt ps (.ref 9) pr s2) → C 246 [.ref 0] (xs_H pt ps (.ref 9) pr s) Q
-- 11_hangs
noncomputable def xf_11_hangs_j34 (s : xs_S) (v1 : Int32) (v2 : Int32) (v3 : Int32) : Option ((Int32 × Int32 × xs_S) ⊕ ((Int32 × xs_S))) :=
some (.inl (v2, (v3 + (1 : Int32)), s))
set_option maxHeartbeats 4000000 in
theorem xb_11_hangs_j34 {C : mm_C} {Q : mm_R} {ps : Value} {pr : Value} (h_0_foresee : xk_0_foresee C) (s : xs_S) (v1 : Int32) (v2 : Int32) (v3 : Int32) (r : (Int32 × Int32 × xs_S) ⊕ ((Int32 × xs_S))) (hf : xf_11_hangs_j34 s v1 v2 v3 = some r) (hK : mo_sum (mo_c2 (fun y2 => (mo_c2 (fun y3 sy => mm_go C mm_Mk mm_Fk P_X11_hangs Q (P_X11_hangs.drop 12) [(0, .ref 0), (1, .int v1), (2, .int y2), (3, .int y3)] [] (xs_H (.ref 9) ps (.ref 9) pr sy) 0 0))))  (mo_c2 (fun y2 sy => mm_go C mm_Mk mm_Fk P_X11_hangs Q (P_X11_hangs.drop 36) [(2, .int y2)] [] (xs_H (.ref 9) ps (.ref 9) pr sy) 0 0))  r) : mm_go C mm_Mk mm_Fk P_X11_hangs Q (P_X11_hangs.drop 34) [(0, .ref 0), (1, .int v1), (2, .int v2), (3, .int v3)] [] (xs_H (.ref 9) ps (.ref 9) pr s) 0 0 := by
  unfold xf_11_hangs_j34 at hf
  obtain rfl := Option.some.inj hf
  refine mm_adv 2 (cs' := P_X11_hangs.drop 12) (l' := [(3, .int (v3 + (1 : Int32))), (0, .ref 0), (1, .int v1), (2, .int v2)]) (st' := []) (h' := (xs_H (.ref 9) ps (.ref 9) pr s)) (bc' := 0) (bs' := 0) (fun n g => g) ?_
  exact mm_re (c := [(0, .ref 0), (1, .int v1), (2, .int v2), (3, .int (v3 + (1 : Int32)))]) hK rfl rfl
noncomputable def xf_11_hangs_l12 (v1 : Int32) : (Int32 × Int32 × xs_S) → Option ((Int32 × Int32 × xs_S) ⊕ ((Int32 × xs_S))) := fun (w2, w3, s) =>
(if (s.1 148) ≤ w3 then
some (.inr (w2, s))
else
((xf_0_foresee s ((s.1 400)) (((1 : Int32) <<< (w3 &&& 31)))).bind fun (v_3, s_3) =>
(if v_3 = v1 then
(xf_11_hangs_j34 (s_3) (v1) (w2) (w3))
else
(xf_11_hangs_j34 (s_3) (v1) ((w2 ||| ((1 : Int32) <<< (w3 &&& 31)))) (w3)))))
set_option maxHeartbeats 4000000 in
theorem xb_11_hangs_l12 {C : mm_C} {Q : mm_R} {ps : Value} {pr : Value} (h_0_foresee : xk_0_foresee C) (v1 : Int32) (t : Int32 × Int32 × xs_S) (x : (Int32 × xs_S)) (hl : mo_loop (xf_11_hangs_l12 v1) t = some x) (hK : (mo_c2 (fun y2 sy => mm_go C mm_Mk mm_Fk P_X11_hangs Q (P_X11_hangs.drop 36) [(2, .int y2)] [] (xs_H (.ref 9) ps (.ref 9) pr sy) 0 0)) x) : (mo_c2 (fun y2 => (mo_c2 (fun y3 sy => mm_go C mm_Mk mm_Fk P_X11_hangs Q (P_X11_hangs.drop 12) [(0, .ref 0), (1, .int v1), (2, .int y2), (3, .int y3)] [] (xs_H (.ref 9) ps (.ref 9) pr sy) 0 0)))) t := by
  refine mo_loop_go (G := (mo_c2 (fun y2 => (mo_c2 (fun y3 sy => mm_go C mm_Mk mm_Fk P_X11_hangs Q (P_X11_hangs.drop 12) [(0, .ref 0), (1, .int v1), (2, .int y2), (3, .int y3)] [] (xs_H (.ref 9) ps (.ref 9) pr sy) 0 0)))) ) (K := (mo_c2 (fun y2 sy => mm_go C mm_Mk mm_Fk P_X11_hangs Q (P_X11_hangs.drop 36) [(2, .int y2)] [] (xs_H (.ref 9) ps (.ref 9) pr sy) 0 0)) ) ?_ t x hl hK
  intro t r hf hK
  obtain ⟨w2, w3, s⟩ := t
  unfold xf_11_hangs_l12 at hf
  by_cases c_2 : (s.1 148) ≤ w3
  · have hf := mo_pos hf c_2
    obtain rfl := Option.some.inj hf
    refine mm_adv 5 (cs' := P_X11_hangs.drop 36) (l' := [(0, .ref 0), (1, .int v1), (2, .int w2), (3, .int w3)]) (st' := []) (h' := (xs_H (.ref 9) ps (.ref 9) pr s)) (bc' := 0) (bs' := 0) (fun n g => (And.intro (fun _ => g) (fun q => absurd c_2 q))) ?_
    exact mm_re (c := [(2, .int w2)]) hK rfl rfl
  · have hf := mo_neg hf c_2
    obtain ⟨r_3, hr_3, hf⟩ := mo_bind hf
    obtain ⟨v_3, s_3⟩ := r_3
    by_cases c_4 : v_3 = v1
    · have hf := mo_pos hf c_4
      refine mm_adv 16 (cs' := P_X11_hangs.drop 34) (l' := [(0, .ref 0), (1, .int v1), (2, .int w2), (3, .int w3)]) (st' := []) (h' := (xs_H (.ref 9) ps (.ref 9) pr s_3)) (bc' := 0) (bs' := 0) (fun n g => (And.intro (fun q => absurd q c_2) (fun _ => (h_0_foresee (.ref 9) ps pr s ((s.1 400)) (((1 : Int32) <<< (w3 &&& 31))) v_3 s_3 _ hr_3 (And.intro (fun _ => g) (fun q => absurd c_4 q)))))) ?_
      refine mm_re (l' := [(0, .ref 0), (1, .int v1), (2, .int w2), (3, .int w3)]) (c := [(0, .ref 0), (1, .int v1), (2, .int w2), (3, .int w3)]) ?_ rfl rfl
      exact xb_11_hangs_j34 h_0_foresee s_3 (v1) (w2) (w3) _ hf hK
    · have hf := mo_neg hf c_4
      refine mm_adv 22 (cs' := P_X11_hangs.drop 34) (l' := [(2, .int (w2 ||| ((1 : Int32) <<< (w3 &&& 31)))), (0, .ref 0), (1, .int v1), (3, .int w3)]) (st' := []) (h' := (xs_H (.ref 9) ps (.ref 9) pr s_3)) (bc' := 0) (bs' := 0) (fun n g => (And.intro (fun q => absurd q c_2) (fun _ => (h_0_foresee (.ref 9) ps pr s ((s.1 400)) (((1 : Int32) <<< (w3 &&& 31))) v_3 s_3 _ hr_3 (And.intro (fun q => absurd q c_4) (fun _ => g)))))) ?_
      refine mm_re (l' := [(0, .ref 0), (1, .int v1), (2, .int (w2 ||| ((1 : Int32) <<< (w3 &&& 31)))), (3, .int w3)]) (c := [(0, .ref 0), (1, .int v1), (2, .int (w2 ||| ((1 : Int32) <<< (w3 &&& 31)))), (3, .int w3)]) ?_ rfl rfl
      exact xb_11_hangs_j34 h_0_foresee s_3 (v1) ((w2 ||| ((1 : Int32) <<< (w3 &&& 31)))) (w3) _ hf hK
noncomputable def xf_11_hangs (s : xs_S)  : Option (Int32 × xs_S) :=
((xf_0_foresee s ((s.1 400)) ((0 : Int32))).bind fun (v_1, s_1) =>
((mo_loop (xf_11_hangs_l12 (v_1)) ((0 : Int32), (0 : Int32), s_1)).bind fun (e2_5, s_5) =>
some (e2_5, s_5)))
set_option maxHeartbeats 4000000 in
theorem xb_11_hangs {C : mm_C} {Q : mm_R} {ps : Value} {pr : Value} (h_0_foresee : xk_0_foresee C) (s : xs_S)  (v : Int32) (s2 : xs_S) (hf : xf_11_hangs s = some (v, s2)) (hK : Q (some (.int v)) (xs_H (.ref 9) ps (.ref 9) pr s2)) : mm_go C mm_Mk mm_Fk P_X11_hangs Q P_X11_hangs [(0, .ref 0)] [] (xs_H (.ref 9) ps (.ref 9) pr s) 0 0 := by
  unfold xf_11_hangs at hf
  obtain ⟨r_1, hr_1, hf⟩ := mo_bind hf
  obtain ⟨v_1, s_1⟩ := r_1
  obtain ⟨x_5, hl_5, hf⟩ := mo_bind hf
  refine mm_adv 12 (cs' := P_X11_hangs.drop 12) (l' := [(3, .int (0 : Int32)), (2, .int (0 : Int32)), (1, .int v_1), (0, .ref 0)]) (st' := []) (h' := (xs_H (.ref 9) ps (.ref 9) pr s_1)) (bc' := 0) (bs' := 0) (fun n g => (h_0_foresee (.ref 9) ps pr s ((s.1 400)) ((0 : Int32)) v_1 s_1 _ hr_1 g)) ?_
  refine mm_re (l' := [(0, .ref 0), (1, .int v_1), (2, .int (0 : Int32)), (3, .int (0 : Int32))]) (c := [(0, .ref 0), (1, .int v_1), (2, .int (0 : Int32)), (3, .int (0 : Int32))]) ?_ rfl rfl
  refine xb_11_hangs_l12 h_0_foresee (v_1) ((0 : Int32), (0 : Int32), s_1) x_5 hl_5 ?_
  obtain ⟨e2_5, s_5⟩ := x_5
  obtain ⟨rfl, rfl⟩ := mo_pair hf
  exact ⟨2, hK⟩
def xk_11_hangs (C : mm_C) : Prop := ∀ (ps : Value) (pr : Value) (s : xs_S)  (v : Int32) (s2 : xs_S) (Q : mm_R), xf_11_hangs s = some (v, s2) → Q (some (.int v)) (xs_H (.ref 9) ps (.ref 9) pr s2) → C 247 [.ref 0] (xs_H (.ref 9) ps (.ref 9) pr s) Q
-- 11_scale
noncomputable def xf_11_scale (s : xs_S) (a0 : Int32) : Option (Int32 × xs_S) :=
((xf_7_hasWord_9 s (a0)).bind fun (v_1, s_1) =>
(if v_1 = (0 : Int32) then
some ((-1 : Int32), s_1)
else
((xf_1_open s_1 ((s_1.1 400))).bind fun s_3 =>
((xf_1_after s_3 ((s_3.1 400)) (a0) ((0 : Int32))).bind fun (v_4, s_4) =>
(if v_4 = (-1 : Int32) then
some ((-2 : Int32), s_4)
else
((xf_0_foresee s_4 (v_4) ((0 : Int32))).bind fun (v_6, s_6) =>
some (v_6, s_6)))))))
set_option maxHeartbeats 4000000 in
theorem xb_11_scale {C : mm_C} {Q : mm_R} {ps : Value} {pr : Value} (h_7_hasWord_9 : xk_7_hasWord_9 C) (h_1_open : xk_1_open C) (h_1_after : xk_1_after C) (h_0_foresee : xk_0_foresee C) (s : xs_S) (a0 : Int32) (v : Int32) (s2 : xs_S) (hf : xf_11_scale s a0 = some (v, s2)) (hK : Q (some (.int v)) (xs_H (.ref 9) ps (.ref 9) pr s2)) : mm_go C mm_Mk mm_Fk P_X11_scale Q P_X11_scale [(0, .ref 0), (1, .int a0)] [] (xs_H (.ref 9) ps (.ref 9) pr s) 0 0 := by
  unfold xf_11_scale at hf
  obtain ⟨r_1, hr_1, hf⟩ := mo_bind hf
  obtain ⟨v_1, s_1⟩ := r_1
  by_cases c_2 : v_1 = (0 : Int32)
  · have hf := mo_pos hf c_2
    obtain ⟨rfl, rfl⟩ := mo_pair hf
    exact ⟨7, (h_7_hasWord_9 (.ref 9) ps (.ref 9) pr s (a0) v_1 s_1 _ hr_1 (And.intro (fun q => absurd c_2 q) (fun _ => hK)))⟩
  · have hf := mo_neg hf c_2
    obtain ⟨s_3, hr_3, hf⟩ := mo_bind hf
    obtain ⟨r_4, hr_4, hf⟩ := mo_bind hf
    obtain ⟨v_4, s_4⟩ := r_4
    by_cases c_5 : v_4 = (-1 : Int32)
    · have hf := mo_pos hf c_5
      obtain ⟨rfl, rfl⟩ := mo_pair hf
      exact ⟨26, (h_7_hasWord_9 (.ref 9) ps (.ref 9) pr s (a0) v_1 s_1 _ hr_1 (And.intro (fun _ => (h_1_open (.ref 9) ps pr s_1 ((s_1.1 400)) s_3 _ hr_3 (h_1_after (.ref 9) ps (.ref 9) pr s_3 ((s_3.1 400)) (a0) ((0 : Int32)) v_4 s_4 _ hr_4 (And.intro (fun q => absurd c_5 q) (fun _ => hK))))) (fun q => absurd c_2 q)))⟩
    · have hf := mo_neg hf c_5
      obtain ⟨r_6, hr_6, hf⟩ := mo_bind hf
      obtain ⟨v_6, s_6⟩ := r_6
      obtain ⟨rfl, rfl⟩ := mo_pair hf
      exact ⟨29, (h_7_hasWord_9 (.ref 9) ps (.ref 9) pr s (a0) v_1 s_1 _ hr_1 (And.intro (fun _ => (h_1_open (.ref 9) ps pr s_1 ((s_1.1 400)) s_3 _ hr_3 (h_1_after (.ref 9) ps (.ref 9) pr s_3 ((s_3.1 400)) (a0) ((0 : Int32)) v_4 s_4 _ hr_4 (And.intro (fun _ => (h_0_foresee (.ref 9) ps pr s_4 (v_4) ((0 : Int32)) v_6 s_6 _ hr_6 hK)) (fun q => absurd c_5 q))))) (fun q => absurd c_2 q)))⟩
def xk_11_scale (C : mm_C) : Prop := ∀ (ps : Value) (pr : Value) (s : xs_S) (a0 : Int32) (v : Int32) (s2 : xs_S) (Q : mm_R), xf_11_scale s a0 = some (v, s2) → Q (some (.int v)) (xs_H (.ref 9) ps (.ref 9) pr s2) → C 248 [.ref 0, .int a0] (xs_H (.ref 9) ps (.ref 9) pr s) Q
-- 1_lay_9
noncomputable def xf_1_lay_9_j12 (s : xs_S) (v2 : Int32) (v3 : Int32) : Option (xs_S) :=
((xf_7_fill_53178_118 (xs_sI (xs_sI (xs_sI s 1873 (v2)) 1874 (v3)) 1875 (((s.1 1875) + (1 : Int32)))) ((-1 : Int32))).bind fun s_3 =>
some s_3)
set_option maxHeartbeats 4000000 in
theorem xb_1_lay_9_j12 {C : mm_C} {Q : mm_R} {pt : Value} {ps : Value} {pr : Value} (h_7_fill_53178_118 : xk_7_fill_53178_118 C) (s : xs_S) (v2 : Int32) (v3 : Int32) (s2 : xs_S) (hf : xf_1_lay_9_j12 s v2 v3 = some s2) (hK : Q (none) (xs_H pt ps (.ref 9) pr s2)) : mm_go C mm_Mk mm_Fk P_X1_lay Q (P_X1_lay.drop 12) [(0, .ref 117), (1, .ref 9), (2, .int v2), (3, .int v3)] [] (xs_H pt ps (.ref 9) pr s) 0 0 := by
  unfold xf_1_lay_9_j12 at hf
  obtain ⟨s_3, hr_3, hf⟩ := mo_bind hf
  obtain rfl := Option.some.inj hf
  exact ⟨20, (And.intro trivial (And.intro trivial (And.intro trivial (And.intro trivial (h_7_fill_53178_118 pt ps (.ref 9) pr (xs_sI (xs_sI (xs_sI s 1873 (v2)) 1874 (v3)) 1875 (((s.1 1875) + (1 : Int32)))) ((-1 : Int32)) s_3 _ hr_3 hK)))))⟩
noncomputable def xf_1_lay_9 (s : xs_S) (a1 : Int32) (a2 : Int32) : Option (xs_S) :=
(if (s.1 1873) = a1 then
(if (s.1 1874) = a2 then
some s
else
(xf_1_lay_9_j12 (s) (a1) (a2)))
else
(xf_1_lay_9_j12 (s) (a1) (a2)))
set_option maxHeartbeats 4000000 in
theorem xb_1_lay_9 {C : mm_C} {Q : mm_R} {pt : Value} {ps : Value} {pr : Value} (h_7_fill_53178_118 : xk_7_fill_53178_118 C) (s : xs_S) (a1 : Int32) (a2 : Int32) (s2 : xs_S) (hf : xf_1_lay_9 s a1 a2 = some s2) (hK : Q (none) (xs_H pt ps (.ref 9) pr s2)) : mm_go C mm_Mk mm_Fk P_X1_lay Q P_X1_lay [(0, .ref 117), (1, .ref 9), (2, .int a1), (3, .int a2)] [] (xs_H pt ps (.ref 9) pr s) 0 0 := by
  unfold xf_1_lay_9 at hf
  by_cases c_1 : (s.1 1873) = a1
  · have hf := mo_pos hf c_1
    by_cases c_2 : (s.1 1874) = a2
    · have hf := mo_pos hf c_2
      obtain rfl := Option.some.inj hf
      exact ⟨12, (And.intro (fun q => absurd c_1 q) (fun _ => (And.intro (fun q => absurd c_2 q) (fun _ => hK))))⟩
    · have hf := mo_neg hf c_2
      refine mm_adv 11 (cs' := P_X1_lay.drop 12) (l' := [(0, .ref 117), (1, .ref 9), (2, .int a1), (3, .int a2)]) (st' := []) (h' := (xs_H pt ps (.ref 9) pr s)) (bc' := 0) (bs' := 0) (fun n g => (And.intro (fun q => absurd c_1 q) (fun _ => (And.intro (fun _ => g) (fun q => absurd c_2 q))))) ?_
      refine mm_re (l' := [(0, .ref 117), (1, .ref 9), (2, .int a1), (3, .int a2)]) (c := [(0, .ref 117), (1, .ref 9), (2, .int a1), (3, .int a2)]) ?_ rfl rfl
      exact xb_1_lay_9_j12 h_7_fill_53178_118 s (a1) (a2) _ hf hK
  · have hf := mo_neg hf c_1
    refine mm_adv 7 (cs' := P_X1_lay.drop 12) (l' := [(0, .ref 117), (1, .ref 9), (2, .int a1), (3, .int a2)]) (st' := []) (h' := (xs_H pt ps (.ref 9) pr s)) (bc' := 0) (bs' := 0) (fun n g => (And.intro (fun _ => g) (fun q => absurd c_1 q))) ?_
    refine mm_re (l' := [(0, .ref 117), (1, .ref 9), (2, .int a1), (3, .int a2)]) (c := [(0, .ref 117), (1, .ref 9), (2, .int a1), (3, .int a2)]) ?_ rfl rfl
    exact xb_1_lay_9_j12 h_7_fill_53178_118 s (a1) (a2) _ hf hK
def xk_1_lay_9 (C : mm_C) : Prop := ∀ (pt : Value) (ps : Value) (pr : Value) (s : xs_S) (a1 : Int32) (a2 : Int32) (s2 : xs_S) (Q : mm_R), xf_1_lay_9 s a1 a2 = some s2 → Q (none) (xs_H pt ps (.ref 9) pr s2) → C 137 [.ref 117, .ref 9, .int a1, .int a2] (xs_H pt ps (.ref 9) pr s) Q
