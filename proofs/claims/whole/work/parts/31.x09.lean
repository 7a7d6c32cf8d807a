/-! the class, method by method, 9 -/
-- 11_undo
noncomputable def xf_11_undo (s : xs_S)  : Option (Int32 × xs_S) :=
((xf_5_takeBack_25 s ).bind fun (v_1, s_1) =>
(if v_1 = (0 : Int32) then
some ((0 : Int32), s_1)
else
((xf_1_lay_9 s_1 ((s_1.1 401)) ((s_1.1 402))).bind fun s_3 =>
some ((1 : Int32), s_3))))
set_option maxHeartbeats 4000000 in
theorem xb_11_undo {C : mm_C} {Q : mm_R} {ps : Value} {pr : Value} (h_5_takeBack_25 : xk_5_takeBack_25 C) (h_1_lay_9 : xk_1_lay_9 C) (s : xs_S)  (v : Int32) (s2 : xs_S) (hf : xf_11_undo s = some (v, s2)) (hK : Q (some (.int v)) (xs_H (.ref 9) ps (.ref 9) pr s2)) : mm_go C mm_Mk mm_Fk P_X11_undo Q P_X11_undo [(0, .ref 0)] [] (xs_H (.ref 9) ps (.ref 9) pr s) 0 0 := by
  unfold xf_11_undo at hf
  obtain ⟨r_1, hr_1, hf⟩ := mo_bind hf
  obtain ⟨v_1, s_1⟩ := r_1
  by_cases c_2 : v_1 = (0 : Int32)
  · have hf := mo_pos hf c_2
    obtain ⟨rfl, rfl⟩ := mo_pair hf
    exact ⟨8, (h_5_takeBack_25 (.ref 9) ps (.ref 9) pr s  v_1 s_1 _ hr_1 (And.intro (fun q => absurd c_2 q) (fun _ => (And.intro rfl hK))))⟩
  · have hf := mo_neg hf c_2
    obtain ⟨s_3, hr_3, hf⟩ := mo_bind hf
    obtain ⟨rfl, rfl⟩ := mo_pair hf
    exact ⟨19, (h_5_takeBack_25 (.ref 9) ps (.ref 9) pr s  v_1 s_1 _ hr_1 (And.intro (fun _ => (h_1_lay_9 (.ref 9) ps pr s_1 ((s_1.1 401)) ((s_1.1 402)) s_3 _ hr_3 (And.intro rfl hK))) (fun q => absurd c_2 q)))⟩
def xk_11_undo (C : mm_C) : Prop := ∀ (ps : Value) (pr : Value) (s : xs_S)  (v : Int32) (s2 : xs_S) (Q : mm_R), xf_11_undo s = some (v, s2) → Q (some (.int v)) (xs_H (.ref 9) ps (.ref 9) pr s2) → C 236 [.ref 0] (xs_H (.ref 9) ps (.ref 9) pr s) Q
-- 7_fill_53178_128
noncomputable def xf_7_fill_53178_128_l5 (v1 : Int32) (v3 : Int32) : (Int32 × xs_S) → Option ((Int32 × xs_S) ⊕ ((xs_S))) := fun (w2, s) =>
(if v3 ≤ w2 then
some (.inr (s))
else
(bif mo_in w2 294 then some (.inl ((w2 + (1 : Int32)), (xs_sA s 128 (upd (s.2.1 128) (w2).toNatClampNeg (v1))))) else none))
set_option maxHeartbeats 4000000 in
theorem xb_7_fill_53178_128_l5 {C : mm_C} {Q : mm_R} {pt : Value} {ps : Value} {pg : Value} {pr : Value}  (v1 : Int32) (v3 : Int32) (t : Int32 × xs_S) (x : (xs_S)) (hl : mo_loop (xf_7_fill_53178_128_l5 v1 v3) t = some x) (hK : (fun sy => mm_go C mm_Mk mm_Fk P_J7_fill_53178 Q (P_J7_fill_53178.drop 14) [] [] (xs_H pt ps pg pr sy) 0 0) x) : (mo_c2 (fun y2 sy => mm_go C mm_Mk mm_Fk P_J7_fill_53178 Q (P_J7_fill_53178.drop 5) [(0, .ref 128), (1, .int v1), (2, .int y2), (3, .int v3)] [] (xs_H pt ps pg pr sy) 0 0)) t := by
  refine mo_loop_go (G := (mo_c2 (fun y2 sy => mm_go C mm_Mk mm_Fk P_J7_fill_53178 Q (P_J7_fill_53178.drop 5) [(0, .ref 128), (1, .int v1), (2, .int y2), (3, .int v3)] [] (xs_H pt ps pg pr sy) 0 0)) ) (K := (fun sy => mm_go C mm_Mk mm_Fk P_J7_fill_53178 Q (P_J7_fill_53178.drop 14) [] [] (xs_H pt ps pg pr sy) 0 0) ) ?_ t x hl hK
  intro t r hf hK
  obtain ⟨w2, s⟩ := t
  unfold xf_7_fill_53178_128_l5 at hf
  by_cases c_1 : v3 ≤ w2
  · have hf := mo_pos hf c_1
    obtain rfl := Option.some.inj hf
    refine mm_adv 3 (cs' := P_J7_fill_53178.drop 14) (l' := [(0, .ref 128), (1, .int v1), (2, .int w2), (3, .int v3)]) (st' := []) (h' := (xs_H pt ps pg pr s)) (bc' := 0) (bs' := 0) (fun n g => (And.intro (fun _ => g) (fun q => absurd c_1 q))) ?_
    exact mm_re (c := []) hK rfl rfl
  · have hf := mo_neg hf c_1
    obtain ⟨hi_2, hf⟩ := mo_if hf
    obtain rfl := Option.some.inj hf
    refine mm_adv 9 (cs' := P_J7_fill_53178.drop 5) (l' := [(2, .int (w2 + (1 : Int32))), (0, .ref 128), (1, .int v1), (3, .int v3)]) (st' := []) (h' := (xs_H pt ps pg pr (xs_sA s 128 (upd (s.2.1 128) (w2).toNatClampNeg (v1))))) (bc' := 0) (bs' := 0) (fun n g => (And.intro (fun q => absurd q c_1) (fun _ => (And.intro hi_2 g)))) ?_
    exact mm_re (c := [(0, .ref 128), (1, .int v1), (2, .int (w2 + (1 : Int32))), (3, .int v3)]) hK rfl rfl
noncomputable def xf_7_fill_53178_128 (s : xs_S) (a1 : Int32) : Option (xs_S) :=
((mo_loop (xf_7_fill_53178_128_l5 (a1) ((Int32.ofNat 294))) ((0 : Int32), s)).bind fun s_3 =>
some s_3)
set_option maxHeartbeats 4000000 in
theorem xb_7_fill_53178_128 {C : mm_C} {Q : mm_R} {pt : Value} {ps : Value} {pg : Value} {pr : Value}  (s : xs_S) (a1 : Int32) (s2 : xs_S) (hf : xf_7_fill_53178_128 s a1 = some s2) (hK : Q (none) (xs_H pt ps pg pr s2)) : mm_go C mm_Mk mm_Fk P_J7_fill_53178 Q P_J7_fill_53178 [(0, .ref 128), (1, .int a1)] [] (xs_H pt ps pg pr s) 0 0 := by
  unfold xf_7_fill_53178_128 at hf
  obtain ⟨x_3, hl_3, hf⟩ := mo_bind hf
  refine mm_adv 5 (cs' := P_J7_fill_53178.drop 5) (l' := [(3, .int (Int32.ofNat 294)), (2, .int (0 : Int32)), (0, .ref 128), (1, .int a1)]) (st' := []) (h' := (xs_H pt ps pg pr s)) (bc' := 0) (bs' := 0) (fun n g => g) ?_
  refine mm_re (l' := [(0, .ref 128), (1, .int a1), (2, .int (0 : Int32)), (3, .int (Int32.ofNat 294))]) (c := [(0, .ref 128), (1, .int a1), (2, .int (0 : Int32)), (3, .int (Int32.ofNat 294))]) ?_ rfl rfl
  refine xb_7_fill_53178_128_l5  (a1) ((Int32.ofNat 294)) ((0 : Int32), s) x_3 hl_3 ?_
  obtain ⟨s_3, rfl⟩ : ∃ q, q = x_3 := ⟨_, rfl⟩
  obtain rfl := Option.some.inj hf
  exact ⟨1, hK⟩
def xk_7_fill_53178_128 (C : mm_C) : Prop := ∀ (pt : Value) (ps : Value) (pg : Value) (pr : Value) (s : xs_S) (a1 : Int32) (s2 : xs_S) (Q : mm_R), xf_7_fill_53178_128 s a1 = some s2 → Q (none) (xs_H pt ps pg pr s2) → C 123 [.ref 128, .int a1] (xs_H pt ps pg pr s) Q
-- 0_spread
noncomputable def xf_0_spread_j93 (s : xs_S) (v2 : Int32) (v3 : Int32) (v4 : Int32) (v5 : Int32) : Option ((Int32 × xs_S) ⊕ ((xs_S))) :=
some (.inl ((v5 + (1 : Int32)), s))
set_option maxHeartbeats 4000000 in
theorem xb_0_spread_j93 {C : mm_C} {Q : mm_R} {pt : Value} {ps : Value} {pr : Value} (h_7_fill_53178_128 : xk_7_fill_53178_128 C) (h_1_open : xk_1_open C) (h_1_after : xk_1_after C) (s : xs_S) (v2 : Int32) (v3 : Int32) (v4 : Int32) (v5 : Int32) (r : (Int32 × xs_S) ⊕ ((xs_S))) (hf : xf_0_spread_j93 s v2 v3 v4 v5 = some r) (hK : mo_sum (mo_c2 (fun y5 sy => mm_go C mm_Mk mm_Fk P_X0_spread Q (P_X0_spread.drop 48) [(0, .ref 126), (2, .int v2), (3, .int v3), (4, .int v4), (5, .int y5)] [] (xs_H pt ps (.ref 9) pr sy) 0 0))  (fun sy => mm_go C mm_Mk mm_Fk P_X0_spread Q (P_X0_spread.drop 95) [(0, .ref 126), (2, .int v2), (3, .int v3)] [] (xs_H pt ps (.ref 9) pr sy) 0 0)  r) : mm_go C mm_Mk mm_Fk P_X0_spread Q (P_X0_spread.drop 93) [(0, .ref 126), (2, .int v2), (3, .int v3), (4, .int v4), (5, .int v5)] [] (xs_H pt ps (.ref 9) pr s) 0 0 := by
  unfold xf_0_spread_j93 at hf
  obtain rfl := Option.some.inj hf
  refine mm_adv 2 (cs' := P_X0_spread.drop 48) (l' := [(5, .int (v5 + (1 : Int32))), (0, .ref 126), (2, .int v2), (3, .int v3), (4, .int v4)]) (st' := []) (h' := (xs_H pt ps (.ref 9) pr s)) (bc' := 0) (bs' := 0) (fun n g => g) ?_
  exact mm_re (c := [(0, .ref 126), (2, .int v2), (3, .int v3), (4, .int v4), (5, .int (v5 + (1 : Int32)))]) hK rfl rfl
noncomputable def xf_0_spread_l48 (v2 : Int32) (v3 : Int32) (v4 : Int32) : (Int32 × xs_S) → Option ((Int32 × xs_S) ⊕ ((xs_S))) := fun (w5, s) =>
(if (7 : Int32) ≤ w5 then
some (.inr (s))
else
((xf_1_after s (v4) (w5) (v2)).bind fun (v_8, s_8) =>
(if v_8 = (-1 : Int32) then
(xf_0_spread_j93 (s_8) (v2) (v3) (v4) (w5))
else
((mo_ag 294 (s_8.2.1 128) v_8).bind fun x_10 =>
(if x_10 = (-1 : Int32) then
(if (294 : Int32) ≤ (s_8.1 2018) then
(xf_0_spread_j93 (s_8) (v2) (v3) (v4) (w5))
else
((mo_ag 294 (s_8.2.1 128) v4).bind fun x_13 =>
(bif mo_in v_8 294 then (bif mo_in (s_8.1 2018) 294 then (xf_0_spread_j93 ((xs_sA (xs_sA (xs_sI s_8 2018 (((s_8.1 2018) + (1 : Int32)))) 127 (upd (s_8.2.1 127) ((s_8.1 2018)).toNatClampNeg (v_8))) 128 (upd (s_8.2.1 128) (v_8).toNatClampNeg ((x_13 + (1 : Int32)))))) (v2) (v3) (v4) (w5)) else none) else none)))
else
(xf_0_spread_j93 (s_8) (v2) (v3) (v4) (w5)))))))
set_option maxHeartbeats 4000000 in
theorem xb_0_spread_l48 {C : mm_C} {Q : mm_R} {pt : Value} {ps : Value} {pr : Value} (h_7_fill_53178_128 : xk_7_fill_53178_128 C) (h_1_open : xk_1_open C) (h_1_after : xk_1_after C) (v2 : Int32) (v3 : Int32) (v4 : Int32) (t : Int32 × xs_S) (x : (xs_S)) (hl : mo_loop (xf_0_spread_l48 v2 v3 v4) t = some x) (hK : (fun sy => mm_go C mm_Mk mm_Fk P_X0_spread Q (P_X0_spread.drop 95) [(0, .ref 126), (2, .int v2), (3, .int v3)] [] (xs_H pt ps (.ref 9) pr sy) 0 0) x) : (mo_c2 (fun y5 sy => mm_go C mm_Mk mm_Fk P_X0_spread Q (P_X0_spread.drop 48) [(0, .ref 126), (2, .int v2), (3, .int v3), (4, .int v4), (5, .int y5)] [] (xs_H pt ps (.ref 9) pr sy) 0 0)) t := by
  refine mo_loop_go (G := (mo_c2 (fun y5 sy => mm_go C mm_Mk mm_Fk P_X0_spread Q (P_X0_spread.drop 48) [(0, .ref 126), (2, .int v2), (3, .int v3), (4, .int v4), (5, .int y5)] [] (xs_H pt ps (.ref 9) pr sy) 0 0)) ) (K := (fun sy => mm_go C mm_Mk mm_Fk P_X0_spread Q (P_X0_spread.drop 95) [(0, .ref 126), (2, .int v2), (3, .int v3)] [] (xs_H pt ps (.ref 9) pr sy) 0 0) ) ?_ t x hl hK
  intro t r hf hK
  obtain ⟨w5, s⟩ := t
  unfold xf_0_spread_l48 at hf
  by_cases c_7 : (7 : Int32) ≤ w5
  · have hf := mo_pos hf c_7
    obtain rfl := Option.some.inj hf
    refine mm_adv 3 (cs' := P_X0_spread.drop 95) (l' := [(0, .ref 126), (2, .int v2), (3, .int v3), (4, .int v4), (5, .int w5)]) (st' := []) (h' := (xs_H pt ps (.ref 9) pr s)) (bc' := 0) (bs' := 0) (fun n g => (And.intro (fun _ => g) (fun q => absurd c_7 q))) ?_
    exact mm_re (c := [(0, .ref 126), (2, .int v2), (3, .int v3)]) hK rfl rfl
  · have hf := mo_neg hf c_7
    obtain ⟨r_8, hr_8, hf⟩ := mo_bind hf
    obtain ⟨v_8, s_8⟩ := r_8
    by_cases c_9 : v_8 = (-1 : Int32)
    · have hf := mo_pos hf c_9
      refine mm_adv 13 (cs' := P_X0_spread.drop 93) (l' := [(6, .int v_8), (0, .ref 126), (2, .int v2), (3, .int v3), (4, .int v4), (5, .int w5)]) (st' := []) (h' := (xs_H pt ps (.ref 9) pr s_8)) (bc' := 0) (bs' := 0) (fun n g => (And.intro (fun q => absurd q c_7) (fun _ => (h_1_after pt ps (.ref 9) pr s (v4) (w5) (v2) v_8 s_8 _ hr_8 (And.intro (fun _ => g) (fun q => absurd c_9 q)))))) ?_
      refine mm_re (l' := [(0, .ref 126), (2, .int v2), (3, .int v3), (4, .int v4), (5, .int w5)]) (c := [(0, .ref 126), (2, .int v2), (3, .int v3), (4, .int v4), (5, .int w5)]) ?_ rfl rfl
      exact xb_0_spread_j93 h_7_fill_53178_128 h_1_open h_1_after s_8 (v2) (v3) (v4) (w5) _ hf hK
    · have hf := mo_neg hf c_9
      obtain ⟨x_10, hx_10, hf⟩ := mo_bind hf
      obtain ⟨hi_10, rfl⟩ := mo_ag_inv hx_10
      by_cases c_11 : ((s_8.2.1 128) (v_8).toNatClampNeg) = (-1 : Int32)
      · have hf := mo_pos hf c_11
        by_cases c_12 : (294 : Int32) ≤ (s_8.1 2018)
        · have hf := mo_pos hf c_12
          refine mm_adv 23 (cs' := P_X0_spread.drop 93) (l' := [(6, .int v_8), (0, .ref 126), (2, .int v2), (3, .int v3), (4, .int v4), (5, .int w5)]) (st' := []) (h' := (xs_H pt ps (.ref 9) pr s_8)) (bc' := 0) (bs' := 0) (fun n g => (And.intro (fun q => absurd q c_7) (fun _ => (h_1_after pt ps (.ref 9) pr s (v4) (w5) (v2) v_8 s_8 _ hr_8 (And.intro (fun q => absurd q c_9) (fun _ => (And.intro hi_10 (And.intro (fun q => absurd c_11 q) (fun _ => (And.intro (fun _ => g) (fun q => absurd c_12 q))))))))))) ?_
          refine mm_re (l' := [(0, .ref 126), (2, .int v2), (3, .int v3), (4, .int v4), (5, .int w5)]) (c := [(0, .ref 126), (2, .int v2), (3, .int v3), (4, .int v4), (5, .int w5)]) ?_ rfl rfl
          exact xb_0_spread_j93 h_7_fill_53178_128 h_1_open h_1_after s_8 (v2) (v3) (v4) (w5) _ hf hK
        · have hf := mo_neg hf c_12
          obtain ⟨x_13, hx_13, hf⟩ := mo_bind hf
          obtain ⟨hi_13, rfl⟩ := mo_ag_inv hx_13
          obtain ⟨hi_14, hf⟩ := mo_if hf
          obtain ⟨hi_15, hf⟩ := mo_if hf
          refine mm_adv 45 (cs' := P_X0_spread.drop 93) (l' := [(6, .int v_8), (0, .ref 126), (2, .int v2), (3, .int v3), (4, .int v4), (5, .int w5)]) (st' := []) (h' := (xs_H pt ps (.ref 9) pr (xs_sA (xs_sA (xs_sI s_8 2018 (((s_8.1 2018) + (1 : Int32)))) 127 (upd (s_8.2.1 127) ((s_8.1 2018)).toNatClampNeg (v_8))) 128 (upd (s_8.2.1 128) (v_8).toNatClampNeg ((((s_8.2.1 128) (v4).toNatClampNeg) + (1 : Int32))))))) (bc' := 0) (bs' := 0) (fun n g => (And.intro (fun q => absurd q c_7) (fun _ => (h_1_after pt ps (.ref 9) pr s (v4) (w5) (v2) v_8 s_8 _ hr_8 (And.intro (fun q => absurd q c_9) (fun _ => (And.intro hi_10 (And.intro (fun q => absurd c_11 q) (fun _ => (And.intro (fun q => absurd q c_12) (fun _ => (And.intro hi_13 (And.intro hi_14 (And.intro hi_15 (And.intro trivial g))))))))))))))) ?_
          refine mm_re (l' := [(0, .ref 126), (2, .int v2), (3, .int v3), (4, .int v4), (5, .int w5)]) (c := [(0, .ref 126), (2, .int v2), (3, .int v3), (4, .int v4), (5, .int w5)]) ?_ rfl rfl
          exact xb_0_spread_j93 h_7_fill_53178_128 h_1_open h_1_after (xs_sA (xs_sA (xs_sI s_8 2018 (((s_8.1 2018) + (1 : Int32)))) 127 (upd (s_8.2.1 127) ((s_8.1 2018)).toNatClampNeg (v_8))) 128 (upd (s_8.2.1 128) (v_8).toNatClampNeg ((((s_8.2.1 128) (v4).toNatClampNeg) + (1 : Int32))))) (v2) (v3) (v4) (w5) _ hf hK
      · have hf := mo_neg hf c_11
        refine mm_adv 19 (cs' := P_X0_spread.drop 93) (l' := [(6, .int v_8), (0, .ref 126), (2, .int v2), (3, .int v3), (4, .int v4), (5, .int w5)]) (st' := []) (h' := (xs_H pt ps (.ref 9) pr s_8)) (bc' := 0) (bs' := 0) (fun n g => (And.intro (fun q => absurd q c_7) (fun _ => (h_1_after pt ps (.ref 9) pr s (v4) (w5) (v2) v_8 s_8 _ hr_8 (And.intro (fun q => absurd q c_9) (fun _ => (And.intro hi_10 (And.intro (fun _ => g) (fun q => absurd c_11 q))))))))) ?_
        refine mm_re (l' := [(0, .ref 126), (2, .int v2), (3, .int v3), (4, .int v4), (5, .int w5)]) (c := [(0, .ref 126), (2, .int v2), (3, .int v3), (4, .int v4), (5, .int w5)]) ?_ rfl rfl
        exact xb_0_spread_j93 h_7_fill_53178_128 h_1_open h_1_after s_8 (v2) (v3) (v4) (w5) _ hf hK
noncomputable def xf_0_spread_l30 (v2 : Int32) : (Int32 × xs_S) → Option ((Int32 × xs_S) ⊕ ((xs_S))) := fun (w3, s) =>
(if (s.1 2018) ≤ w3 then
some (.inr (s))
else
(if (294 : Int32) ≤ w3 then
some (.inr (s))
else
((mo_ag 294 (s.2.1 127) w3).bind fun x_5 =>
((xf_1_open s (x_5)).bind fun s_6 =>
((mo_loop (xf_0_spread_l48 (v2) (w3) (x_5)) ((0 : Int32), s_6)).bind fun s_16 =>
some (.inl ((w3 + (1 : Int32)), s_16)))))))
set_option maxHeartbeats 4000000 in
theorem xb_0_spread_l30 {C : mm_C} {Q : mm_R} {pt : Value} {ps : Value} {pr : Value} (h_7_fill_53178_128 : xk_7_fill_53178_128 C) (h_1_open : xk_1_open C) (h_1_after : xk_1_after C) (v2 : Int32) (t : Int32 × xs_S) (x : (xs_S)) (hl : mo_loop (xf_0_spread_l30 v2) t = some x) (hK : (fun sy => mm_go C mm_Mk mm_Fk P_X0_spread Q (P_X0_spread.drop 97) [] [] (xs_H pt ps (.ref 9) pr sy) 0 0) x) : (mo_c2 (fun y3 sy => mm_go C mm_Mk mm_Fk P_X0_spread Q (P_X0_spread.drop 30) [(0, .ref 126), (2, .int v2), (3, .int y3)] [] (xs_H pt ps (.ref 9) pr sy) 0 0)) t := by
  refine mo_loop_go (G := (mo_c2 (fun y3 sy => mm_go C mm_Mk mm_Fk P_X0_spread Q (P_X0_spread.drop 30) [(0, .ref 126), (2, .int v2), (3, .int y3)] [] (xs_H pt ps (.ref 9) pr sy) 0 0)) ) (K := (fun sy => mm_go C mm_Mk mm_Fk P_X0_spread Q (P_X0_spread.drop 97) [] [] (xs_H pt ps (.ref 9) pr sy) 0 0) ) ?_ t x hl hK
  intro t r hf hK
  obtain ⟨w3, s⟩ := t
  unfold xf_0_spread_l30 at hf
  by_cases c_3 : (s.1 2018) ≤ w3
  · have hf := mo_pos hf c_3
    obtain rfl := Option.some.inj hf
    refine mm_adv 4 (cs' := P_X0_spread.drop 97) (l' := [(0, .ref 126), (2, .int v2), (3, .int w3)]) (st' := []) (h' := (xs_H pt ps (.ref 9) pr s)) (bc' := 0) (bs' := 0) (fun n g => (And.intro (fun _ => g) (fun q => absurd c_3 q))) ?_
    exact mm_re (c := []) hK rfl rfl
  · have hf := mo_neg hf c_3
    by_cases c_4 : (294 : Int32) ≤ w3
    · have hf := mo_pos hf c_4
      obtain rfl := Option.some.inj hf
      refine mm_adv 7 (cs' := P_X0_spread.drop 97) (l' := [(0, .ref 126), (2, .int v2), (3, .int w3)]) (st' := []) (h' := (xs_H pt ps (.ref 9) pr s)) (bc' := 0) (bs' := 0) (fun n g => (And.intro (fun q => absurd q c_3) (fun _ => (And.intro (fun _ => g) (fun q => absurd c_4 q))))) ?_
      exact mm_re (c := []) hK rfl rfl
    · have hf := mo_neg hf c_4
      obtain ⟨x_5, hx_5, hf⟩ := mo_bind hf
      obtain ⟨hi_5, rfl⟩ := mo_ag_inv hx_5
      obtain ⟨s_6, hr_6, hf⟩ := mo_bind hf
      obtain ⟨x_16, hl_16, hf⟩ := mo_bind hf
      refine mm_adv 18 (cs' := P_X0_spread.drop 48) (l' := [(5, .int (0 : Int32)), (4, .int ((s.2.1 127) (w3).toNatClampNeg)), (0, .ref 126), (2, .int v2), (3, .int w3)]) (st' := []) (h' := (xs_H pt ps (.ref 9) pr s_6)) (bc' := 0) (bs' := 0) (fun n g => (And.intro (fun q => absurd q c_3) (fun _ => (And.intro (fun q => absurd q c_4) (fun _ => (And.intro hi_5 (h_1_open pt ps pr s (((s.2.1 127) (w3).toNatClampNeg)) s_6 _ hr_6 g))))))) ?_
      refine mm_re (l' := [(0, .ref 126), (2, .int v2), (3, .int w3), (4, .int ((s.2.1 127) (w3).toNatClampNeg)), (5, .int (0 : Int32))]) (c := [(0, .ref 126), (2, .int v2), (3, .int w3), (4, .int ((s.2.1 127) (w3).toNatClampNeg)), (5, .int (0 : Int32))]) ?_ rfl rfl
      refine xb_0_spread_l48 h_7_fill_53178_128 h_1_open h_1_after (v2) (w3) (((s.2.1 127) (w3).toNatClampNeg)) ((0 : Int32), s_6) x_16 hl_16 ?_
      obtain ⟨s_16, rfl⟩ : ∃ q, q = x_16 := ⟨_, rfl⟩
      obtain rfl := Option.some.inj hf
      refine mm_adv 2 (cs' := P_X0_spread.drop 30) (l' := [(3, .int (w3 + (1 : Int32))), (0, .ref 126), (2, .int v2)]) (st' := []) (h' := (xs_H pt ps (.ref 9) pr s_16)) (bc' := 0) (bs' := 0) (fun n g => g) ?_
      exact mm_re (c := [(0, .ref 126), (2, .int v2), (3, .int (w3 + (1 : Int32)))]) hK rfl rfl
noncomputable def xf_0_spread (s : xs_S) (a0 : Int32) (a1 : Int32) : Option (xs_S) :=
((xf_7_fill_53178_128 (xs_sI (xs_sI (xs_sI s 2022 (a1)) 2023 ((s.1 1875))) 2024 ((0 : Int32))) ((-1 : Int32))).bind fun s_1 =>
(bif mo_in a0 294 then ((mo_loop (xf_0_spread_l30 (a1)) ((0 : Int32), (xs_sA (xs_sA (xs_sI s_1 2018 ((1 : Int32))) 127 (upd (s_1.2.1 127) 0 (a0))) 128 (upd (s_1.2.1 128) (a0).toNatClampNeg ((0 : Int32)))))).bind fun s_17 =>
some s_17) else none))
set_option maxHeartbeats 4000000 in
theorem xb_0_spread {C : mm_C} {Q : mm_R} {pt : Value} {ps : Value} {pr : Value} (h_7_fill_53178_128 : xk_7_fill_53178_128 C) (h_1_open : xk_1_open C) (h_1_after : xk_1_after C) (s : xs_S) (a0 : Int32) (a1 : Int32) (s2 : xs_S) (hf : xf_0_spread s a0 a1 = some s2) (hK : Q (none) (xs_H pt ps (.ref 9) pr s2)) : mm_go C mm_Mk mm_Fk P_X0_spread Q P_X0_spread [(0, .ref 126), (1, .int a0), (2, .int a1)] [] (xs_H pt ps (.ref 9) pr s) 0 0 := by
  unfold xf_0_spread at hf
  obtain ⟨s_1, hr_1, hf⟩ := mo_bind hf
  obtain ⟨hi_2, hf⟩ := mo_if hf
  obtain ⟨x_17, hl_17, hf⟩ := mo_bind hf
  refine mm_adv 30 (cs' := P_X0_spread.drop 30) (l' := [(3, .int (0 : Int32)), (0, .ref 126), (1, .int a0), (2, .int a1)]) (st' := []) (h' := (xs_H pt ps (.ref 9) pr (xs_sA (xs_sA (xs_sI s_1 2018 ((1 : Int32))) 127 (upd (s_1.2.1 127) 0 (a0))) 128 (upd (s_1.2.1 128) (a0).toNatClampNeg ((0 : Int32)))))) (bc' := 0) (bs' := 0) (fun n g => (And.intro rfl (And.intro trivial (And.intro trivial (h_7_fill_53178_128 pt ps (.ref 9) pr (xs_sI (xs_sI (xs_sI s 2022 (a1)) 2023 ((s.1 1875))) 2024 ((0 : Int32))) ((-1 : Int32)) s_1 _ hr_1 (And.intro (mm_vi rfl) (And.intro trivial (And.intro hi_2 g)))))))) ?_
  refine mm_re (l' := [(0, .ref 126), (2, .int a1), (3, .int (0 : Int32))]) (c := [(0, .ref 126), (2, .int a1), (3, .int (0 : Int32))]) ?_ rfl rfl
  refine xb_0_spread_l30 h_7_fill_53178_128 h_1_open h_1_after (a1) ((0 : Int32), (xs_sA (xs_sA (xs_sI s_1 2018 ((1 : Int32))) 127 (upd (s_1.2.1 127) 0 (a0))) 128 (upd (s_1.2.1 128) (a0).toNatClampNeg ((0 : Int32))))) x_17 hl_17 ?_
  obtain ⟨s_17, rfl⟩ : ∃ q, q = x_17 := ⟨_, rfl⟩
  obtain rfl := Option.some.inj hf
  exact ⟨1, hK⟩
def xk_0_spread (C : mm_C) : Prop := ∀ (pt : Value) (ps : Value) (pr : Value) (s : xs_S) (a0 : Int32) (a1 : Int32) (s2 : xs_S) (Q : mm_R), xf_0_spread s a0 a1 = some s2 → Q (none) (xs_H pt ps (.ref 9) pr s2) → C 126 [.ref 126, .int a0, .int a1] (xs_H pt ps (.ref 9) pr s) Q
-- 0_decide
noncomputable def xf_0_decide_j62 (s : xs_S) (v1 : Int32) (v2 : Int32) (v3 : Int32) (v4 : Int32) (v5 : Int32) (v6 : Int32) : Option ((Int32 × Int32 × Int32 × xs_S) ⊕ ((Int32 × xs_S) ⊕ (Int32 × Int32 × xs_S))) :=
some (.inl (v4, v5, (v6 + (1 : Int32)), s))
set_option maxHeartbeats 4000000 in
theorem xb_0_decide_j62 {C : mm_C} {Q : mm_R} {pt : Value} {ps : Value} {pg : Value} {pr : Value} (h_11_turnOf : xk_11_turnOf C) (h_1_after : xk_1_after C) (s : xs_S) (v1 : Int32) (v2 : Int32) (v3 : Int32) (v4 : Int32) (v5 : Int32) (v6 : Int32) (r : (Int32 × Int32 × Int32 × xs_S) ⊕ ((Int32 × xs_S) ⊕ (Int32 × Int32 × xs_S))) (hf : xf_0_decide_j62 s v1 v2 v3 v4 v5 v6 = some r) (hK : mo_sum (mo_c2 (fun y4 => (mo_c2 (fun y5 => (mo_c2 (fun y6 sy => mm_go C mm_Mk mm_Fk P_X0_decide Q (P_X0_decide.drop 15) [(0, .ref 126), (1, .int v1), (2, .int v2), (3, .int v3), (4, .int y4), (5, .int y5), (6, .int y6)] [] (xs_H pt ps pg pr sy) 0 0))))))  (mo_sum (mo_c2 (fun y5 sy => mm_go C mm_Mk mm_Fk P_X0_decide Q (P_X0_decide.drop 55) [(0, .ref 126), (1, .int v1), (2, .int v2), (3, .int v3), (5, .int y5)] [] (xs_H pt ps pg pr sy) 0 0)) (mo_c2 (fun y4 => (mo_c2 (fun y5 sy => mm_go C mm_Mk mm_Fk P_X0_decide Q (P_X0_decide.drop 64) [(0, .ref 126), (1, .int v1), (2, .int v2), (4, .int y4), (5, .int y5)] [] (xs_H pt ps pg pr sy) 0 0)))))  r) : mm_go C mm_Mk mm_Fk P_X0_decide Q (P_X0_decide.drop 62) [(0, .ref 126), (1, .int v1), (2, .int v2), (3, .int v3), (4, .int v4), (5, .int v5), (6, .int v6)] [] (xs_H pt ps pg pr s) 0 0 := by
  unfold xf_0_decide_j62 at hf
  obtain rfl := Option.some.inj hf
  refine mm_adv 2 (cs' := P_X0_decide.drop 15) (l' := [(6, .int (v6 + (1 : Int32))), (0, .ref 126), (1, .int v1), (2, .int v2), (3, .int v3), (4, .int v4), (5, .int v5)]) (st' := []) (h' := (xs_H pt ps pg pr s)) (bc' := 0) (bs' := 0) (fun n g => g) ?_
  exact mm_re (c := [(0, .ref 126), (1, .int v1), (2, .int v2), (3, .int v3), (4, .int v4), (5, .int v5), (6, .int (v6 + (1 : Int32)))]) hK rfl rfl
noncomputable def xf_0_decide_j58 (s : xs_S) (v1 : Int32) (v2 : Int32) (v3 : Int32) (v4 : Int32) (v5 : Int32) (v6 : Int32) (v8 : Int32) : Option ((Int32 × Int32 × Int32 × xs_S) ⊕ ((Int32 × xs_S) ⊕ (Int32 × Int32 × xs_S))) :=
(if v8 = (0 : Int32) then
(xf_0_decide_j62 (s) (v1) (v2) (v3) (v4) (v5) (v6))
else
(xf_0_decide_j62 (s) (v1) (v2) (v3) ((0 : Int32)) (v5) (v6)))
set_option maxHeartbeats 4000000 in
theorem xb_0_decide_j58 {C : mm_C} {Q : mm_R} {pt : Value} {ps : Value} {pg : Value} {pr : Value} (h_11_turnOf : xk_11_turnOf C) (h_1_after : xk_1_after C) (s : xs_S) (v1 : Int32) (v2 : Int32) (v3 : Int32) (v4 : Int32) (v5 : Int32) (v6 : Int32) (v8 : Int32) (r : (Int32 × Int32 × Int32 × xs_S) ⊕ ((Int32 × xs_S) ⊕ (Int32 × Int32 × xs_S))) (hf : xf_0_decide_j58 s v1 v2 v3 v4 v5 v6 v8 = some r) (hK : mo_sum (mo_c2 (fun y4 => (mo_c2 (fun y5 => (mo_c2 (fun y6 sy => mm_go C mm_Mk mm_Fk P_X0_decide Q (P_X0_decide.drop 15) [(0, .ref 126), (1, .int v1), (2, .int v2), (3, .int v3), (4, .int y4), (5, .int y5), (6, .int y6)] [] (xs_H pt ps pg pr sy) 0 0))))))  (mo_sum (mo_c2 (fun y5 sy => mm_go C mm_Mk mm_Fk P_X0_decide Q (P_X0_decide.drop 55) [(0, .ref 126), (1, .int v1), (2, .int v2), (3, .int v3), (5, .int y5)] [] (xs_H pt ps pg pr sy) 0 0)) (mo_c2 (fun y4 => (mo_c2 (fun y5 sy => mm_go C mm_Mk mm_Fk P_X0_decide Q (P_X0_decide.drop 64) [(0, .ref 126), (1, .int v1), (2, .int v2), (4, .int y4), (5, .int y5)] [] (xs_H pt ps pg pr sy) 0 0)))))  r) : mm_go C mm_Mk mm_Fk P_X0_decide Q (P_X0_decide.drop 58) [(0, .ref 126), (1, .int v1), (2, .int v2), (3, .int v3), (4, .int v4), (5, .int v5), (6, .int v6), (8, .int v8)] [] (xs_H pt ps pg pr s) 0 0 := by
  unfold xf_0_decide_j58 at hf
  by_cases c_11 : v8 = (0 : Int32)
  · have hf := mo_pos hf c_11
    refine mm_adv 2 (cs' := P_X0_decide.drop 62) (l' := [(0, .ref 126), (1, .int v1), (2, .int v2), (3, .int v3), (4, .int v4), (5, .int v5), (6, .int v6), (8, .int v8)]) (st' := []) (h' := (xs_H pt ps pg pr s)) (bc' := 0) (bs' := 0) (fun n g => (And.intro (fun _ => g) (fun q => absurd c_11 q))) ?_
    refine mm_re (l' := [(0, .ref 126), (1, .int v1), (2, .int v2), (3, .int v3), (4, .int v4), (5, .int v5), (6, .int v6)]) (c := [(0, .ref 126), (1, .int v1), (2, .int v2), (3, .int v3), (4, .int v4), (5, .int v5), (6, .int v6)]) ?_ rfl rfl
    exact xb_0_decide_j62 h_11_turnOf h_1_after s (v1) (v2) (v3) (v4) (v5) (v6) _ hf hK
  · have hf := mo_neg hf c_11
    refine mm_adv 4 (cs' := P_X0_decide.drop 62) (l' := [(4, .int (0 : Int32)), (0, .ref 126), (1, .int v1), (2, .int v2), (3, .int v3), (5, .int v5), (6, .int v6), (8, .int v8)]) (st' := []) (h' := (xs_H pt ps pg pr s)) (bc' := 0) (bs' := 0) (fun n g => (And.intro (fun q => absurd q c_11) (fun _ => g))) ?_
    refine mm_re (l' := [(0, .ref 126), (1, .int v1), (2, .int v2), (3, .int v3), (4, .int (0 : Int32)), (5, .int v5), (6, .int v6)]) (c := [(0, .ref 126), (1, .int v1), (2, .int v2), (3, .int v3), (4, .int (0 : Int32)), (5, .int v5), (6, .int v6)]) ?_ rfl rfl
    exact xb_0_decide_j62 h_11_turnOf h_1_after s (v1) (v2) (v3) ((0 : Int32)) (v5) (v6) _ hf hK
noncomputable def xf_0_decide_j46 (s : xs_S) (v1 : Int32) (v2 : Int32) (v3 : Int32) (v4 : Int32) (v5 : Int32) (v6 : Int32) (v7 : Int32) (k0 : Int32) : Option ((Int32 × Int32 × Int32 × xs_S) ⊕ ((Int32 × xs_S) ⊕ (Int32 × Int32 × xs_S))) :=
(if k0 = (0 : Int32) then
((mo_ag 294 (s.2.1 129) v7).bind fun x_9 =>
(if x_9 = v3 then
some (.inr (.inl (v5, s)))
else
(xf_0_decide_j58 (s) (v1) (v2) (v3) (v4) (v5) (v6) (k0))))
else
(xf_0_decide_j58 (s) (v1) (v2) (v3) (v4) (v5) (v6) (k0)))
set_option maxHeartbeats 4000000 in
theorem xb_0_decide_j46 {C : mm_C} {Q : mm_R} {pt : Value} {ps : Value} {pg : Value} {pr : Value} (h_11_turnOf : xk_11_turnOf C) (h_1_after : xk_1_after C) (s : xs_S) (v1 : Int32) (v2 : Int32) (v3 : Int32) (v4 : Int32) (v5 : Int32) (v6 : Int32) (v7 : Int32) (k0 : Int32) (r : (Int32 × Int32 × Int32 × xs_S) ⊕ ((Int32 × xs_S) ⊕ (Int32 × Int32 × xs_S))) (hf : xf_0_decide_j46 s v1 v2 v3 v4 v5 v6 v7 k0 = some r) (hK : mo_sum (mo_c2 (fun y4 => (mo_c2 (fun y5 => (mo_c2 (fun y6 sy => mm_go C mm_Mk mm_Fk P_X0_decide Q (P_X0_decide.drop 15) [(0, .ref 126), (1, .int v1), (2, .int v2), (3, .int v3), (4, .int y4), (5, .int y5), (6, .int y6)] [] (xs_H pt ps pg pr sy) 0 0))))))  (mo_sum (mo_c2 (fun y5 sy => mm_go C mm_Mk mm_Fk P_X0_decide Q (P_X0_decide.drop 55) [(0, .ref 126), (1, .int v1), (2, .int v2), (3, .int v3), (5, .int y5)] [] (xs_H pt ps pg pr sy) 0 0)) (mo_c2 (fun y4 => (mo_c2 (fun y5 sy => mm_go C mm_Mk mm_Fk P_X0_decide Q (P_X0_decide.drop 64) [(0, .ref 126), (1, .int v1), (2, .int v2), (4, .int y4), (5, .int y5)] [] (xs_H pt ps pg pr sy) 0 0)))))  r) : mm_go C mm_Mk mm_Fk P_X0_decide Q (P_X0_decide.drop 46) [(0, .ref 126), (1, .int v1), (2, .int v2), (3, .int v3), (4, .int v4), (5, .int v5), (6, .int v6), (7, .int v7)] [.int k0] (xs_H pt ps pg pr s) 0 0 := by
  unfold xf_0_decide_j46 at hf
  by_cases c_8 : k0 = (0 : Int32)
  · have hf := mo_pos hf c_8
    obtain ⟨x_9, hx_9, hf⟩ := mo_bind hf
    obtain ⟨hi_9, rfl⟩ := mo_ag_inv hx_9
    by_cases c_10 : ((s.2.1 129) (v7).toNatClampNeg) = v3
    · have hf := mo_pos hf c_10
      obtain rfl := Option.some.inj hf
      refine mm_adv 9 (cs' := P_X0_decide.drop 55) (l' := [(8, .int k0), (0, .ref 126), (1, .int v1), (2, .int v2), (3, .int v3), (4, .int v4), (5, .int v5), (6, .int v6), (7, .int v7)]) (st' := []) (h' := (xs_H pt ps pg pr s)) (bc' := 0) (bs' := 0) (fun n g => (And.intro (fun q => absurd c_8 q) (fun _ => (And.intro hi_9 (And.intro (fun q => absurd c_10 q) (fun _ => g)))))) ?_
      exact mm_re (c := [(0, .ref 126), (1, .int v1), (2, .int v2), (3, .int v3), (5, .int v5)]) hK rfl rfl
    · have hf := mo_neg hf c_10
      refine mm_adv 9 (cs' := P_X0_decide.drop 58) (l' := [(8, .int k0), (0, .ref 126), (1, .int v1), (2, .int v2), (3, .int v3), (4, .int v4), (5, .int v5), (6, .int v6), (7, .int v7)]) (st' := []) (h' := (xs_H pt ps pg pr s)) (bc' := 0) (bs' := 0) (fun n g => (And.intro (fun q => absurd c_8 q) (fun _ => (And.intro hi_9 (And.intro (fun _ => g) (fun q => absurd c_10 q)))))) ?_
      refine mm_re (l' := [(0, .ref 126), (1, .int v1), (2, .int v2), (3, .int v3), (4, .int v4), (5, .int v5), (6, .int v6), (8, .int k0)]) (c := [(0, .ref 126), (1, .int v1), (2, .int v2), (3, .int v3), (4, .int v4), (5, .int v5), (6, .int v6), (8, .int k0)]) ?_ rfl rfl
      exact xb_0_decide_j58 h_11_turnOf h_1_after s (v1) (v2) (v3) (v4) (v5) (v6) (k0) _ hf hK
  · have hf := mo_neg hf c_8
    refine mm_adv 3 (cs' := P_X0_decide.drop 58) (l' := [(8, .int k0), (0, .ref 126), (1, .int v1), (2, .int v2), (3, .int v3), (4, .int v4), (5, .int v5), (6, .int v6), (7, .int v7)]) (st' := []) (h' := (xs_H pt ps pg pr s)) (bc' := 0) (bs' := 0) (fun n g => (And.intro (fun _ => g) (fun q => absurd c_8 q))) ?_
    refine mm_re (l' := [(0, .ref 126), (1, .int v1), (2, .int v2), (3, .int v3), (4, .int v4), (5, .int v5), (6, .int v6), (8, .int k0)]) (c := [(0, .ref 126), (1, .int v1), (2, .int v2), (3, .int v3), (4, .int v4), (5, .int v5), (6, .int v6), (8, .int k0)]) ?_ rfl rfl
    exact xb_0_decide_j58 h_11_turnOf h_1_after s (v1) (v2) (v3) (v4) (v5) (v6) (k0) _ hf hK
noncomputable def xf_0_decide_j43 (s : xs_S) (v1 : Int32) (v2 : Int32) (v3 : Int32) (v4 : Int32) (v5 : Int32) (v6 : Int32) (v7 : Int32) : Option ((Int32 × Int32 × Int32 × xs_S) ⊕ ((Int32 × xs_S) ⊕ (Int32 × Int32 × xs_S))) :=
(xf_0_decide_j46 (s) (v1) (v2) (v3) (v4) (v5) (v6) (v7) ((1 : Int32)))
set_option maxHeartbeats 4000000 in
theorem xb_0_decide_j43 {C : mm_C} {Q : mm_R} {pt : Value} {ps : Value} {pg : Value} {pr : Value} (h_11_turnOf : xk_11_turnOf C) (h_1_after : xk_1_after C) (s : xs_S) (v1 : Int32) (v2 : Int32) (v3 : Int32) (v4 : Int32) (v5 : Int32) (v6 : Int32) (v7 : Int32) (r : (Int32 × Int32 × Int32 × xs_S) ⊕ ((Int32 × xs_S) ⊕ (Int32 × Int32 × xs_S))) (hf : xf_0_decide_j43 s v1 v2 v3 v4 v5 v6 v7 = some r) (hK : mo_sum (mo_c2 (fun y4 => (mo_c2 (fun y5 => (mo_c2 (fun y6 sy => mm_go C mm_Mk mm_Fk P_X0_decide Q (P_X0_decide.drop 15) [(0, .ref 126), (1, .int v1), (2, .int v2), (3, .int v3), (4, .int y4), (5, .int y5), (6, .int y6)] [] (xs_H pt ps pg pr sy) 0 0))))))  (mo_sum (mo_c2 (fun y5 sy => mm_go C mm_Mk mm_Fk P_X0_decide Q (P_X0_decide.drop 55) [(0, .ref 126), (1, .int v1), (2, .int v2), (3, .int v3), (5, .int y5)] [] (xs_H pt ps pg pr sy) 0 0)) (mo_c2 (fun y4 => (mo_c2 (fun y5 sy => mm_go C mm_Mk mm_Fk P_X0_decide Q (P_X0_decide.drop 64) [(0, .ref 126), (1, .int v1), (2, .int v2), (4, .int y4), (5, .int y5)] [] (xs_H pt ps pg pr sy) 0 0)))))  r) : mm_go C mm_Mk mm_Fk P_X0_decide Q (P_X0_decide.drop 43) [(0, .ref 126), (1, .int v1), (2, .int v2), (3, .int v3), (4, .int v4), (5, .int v5), (6, .int v6), (7, .int v7)] [] (xs_H pt ps pg pr s) 0 0 := by
  unfold xf_0_decide_j43 at hf
  refine mm_adv 2 (cs' := P_X0_decide.drop 46) (l' := [(0, .ref 126), (1, .int v1), (2, .int v2), (3, .int v3), (4, .int v4), (5, .int v5), (6, .int v6), (7, .int v7)]) (st' := [.int (1 : Int32)]) (h' := (xs_H pt ps pg pr s)) (bc' := 0) (bs' := 0) (fun n g => g) ?_
  refine mm_re (l' := [(0, .ref 126), (1, .int v1), (2, .int v2), (3, .int v3), (4, .int v4), (5, .int v5), (6, .int v6), (7, .int v7)]) (c := [(0, .ref 126), (1, .int v1), (2, .int v2), (3, .int v3), (4, .int v4), (5, .int v5), (6, .int v6), (7, .int v7)]) ?_ rfl rfl
  exact xb_0_decide_j46 h_11_turnOf h_1_after s (v1) (v2) (v3) (v4) (v5) (v6) (v7) ((1 : Int32)) _ hf hK
noncomputable def xf_0_decide_l15 (v1 : Int32) (v2 : Int32) (v3 : Int32) : (Int32 × Int32 × Int32 × xs_S) → Option ((Int32 × Int32 × Int32 × xs_S) ⊕ ((Int32 × xs_S) ⊕ (Int32 × Int32 × xs_S))) := fun (w4, w5, w6, s) =>
(if (7 : Int32) ≤ w6 then
some (.inr (.inr (w4, w5, s)))
else
((xf_1_after s (v1) (w6) ((s.1 2022))).bind fun (v_4, s_4) =>
(if v_4 = (-1 : Int32) then
(xf_0_decide_j62 (s_4) (v1) (v2) (v3) (w4) (w5) (w6))
else
((mo_ag 294 (s_4.2.1 129) v_4).bind fun x_6 =>
(if x_6 = (0 : Int32) then
(xf_0_decide_j43 (s_4) (v1) (v2) (v3) (w4) ((1 : Int32)) (w6) (v_4))
else
((mo_ag 294 (s_4.2.1 130) v_4).bind fun x_12 =>
(if x_12 < v2 then
(xf_0_decide_j46 (s_4) (v1) (v2) (v3) (w4) ((1 : Int32)) (w6) (v_4) ((0 : Int32)))
else
(xf_0_decide_j43 (s_4) (v1) (v2) (v3) (w4) ((1 : Int32)) (w6) (v_4)))))))))
set_option maxHeartbeats 4000000 in
theorem xb_0_decide_l15 {C : mm_C} {Q : mm_R} {pt : Value} {ps : Value} {pg : Value} {pr : Value} (h_11_turnOf : xk_11_turnOf C) (h_1_after : xk_1_after C) (v1 : Int32) (v2 : Int32) (v3 : Int32) (t : Int32 × Int32 × Int32 × xs_S) (x : (Int32 × xs_S) ⊕ (Int32 × Int32 × xs_S)) (hl : mo_loop (xf_0_decide_l15 v1 v2 v3) t = some x) (hK : (mo_sum (mo_c2 (fun y5 sy => mm_go C mm_Mk mm_Fk P_X0_decide Q (P_X0_decide.drop 55) [(0, .ref 126), (1, .int v1), (2, .int v2), (3, .int v3), (5, .int y5)] [] (xs_H pt ps pg pr sy) 0 0)) (mo_c2 (fun y4 => (mo_c2 (fun y5 sy => mm_go C mm_Mk mm_Fk P_X0_decide Q (P_X0_decide.drop 64) [(0, .ref 126), (1, .int v1), (2, .int v2), (4, .int y4), (5, .int y5)] [] (xs_H pt ps pg pr sy) 0 0))))) x) : (mo_c2 (fun y4 => (mo_c2 (fun y5 => (mo_c2 (fun y6 sy => mm_go C mm_Mk mm_Fk P_X0_decide Q (P_X0_decide.drop 15) [(0, .ref 126), (1, .int v1), (2, .int v2), (3, .int v3), (4, .int y4), (5, .int y5), (6, .int y6)] [] (xs_H pt ps pg pr sy) 0 0)))))) t := by
  refine mo_loop_go (G := (mo_c2 (fun y4 => (mo_c2 (fun y5 => (mo_c2 (fun y6 sy => mm_go C mm_Mk mm_Fk P_X0_decide Q (P_X0_decide.drop 15) [(0, .ref 126), (1, .int v1), (2, .int v2), (3, .int v3), (4, .int y4), (5, .int y5), (6, .int y6)] [] (xs_H pt ps pg pr sy) 0 0)))))) ) (K := (mo_sum (mo_c2 (fun y5 sy => mm_go C mm_Mk mm_Fk P_X0_decide Q (P_X0_decide.drop 55) [(0, .ref 126), (1, .int v1), (2, .int v2), (3, .int v3), (5, .int y5)] [] (xs_H pt ps pg pr sy) 0 0)) (mo_c2 (fun y4 => (mo_c2 (fun y5 sy => mm_go C mm_Mk mm_Fk P_X0_decide Q (P_X0_decide.drop 64) [(0, .ref 126), (1, .int v1), (2, .int v2), (4, .int y4), (5, .int y5)] [] (xs_H pt ps pg pr sy) 0 0))))) ) ?_ t x hl hK
  intro t r hf hK
  obtain ⟨w4, w5, w6, s⟩ := t
  unfold xf_0_decide_l15 at hf
  by_cases c_3 : (7 : Int32) ≤ w6
  · have hf := mo_pos hf c_3
    obtain rfl := Option.some.inj hf
    refine mm_adv 3 (cs' := P_X0_decide.drop 64) (l' := [(0, .ref 126), (1, .int v1), (2, .int v2), (3, .int v3), (4, .int w4), (5, .int w5), (6, .int w6)]) (st' := []) (h' := (xs_H pt ps pg pr s)) (bc' := 0) (bs' := 0) (fun n g => (And.intro (fun _ => g) (fun q => absurd c_3 q))) ?_
    exact mm_re (c := [(0, .ref 126), (1, .int v1), (2, .int v2), (4, .int w4), (5, .int w5)]) hK rfl rfl
  · have hf := mo_neg hf c_3
    obtain ⟨r_4, hr_4, hf⟩ := mo_bind hf
    obtain ⟨v_4, s_4⟩ := r_4
    by_cases c_5 : v_4 = (-1 : Int32)
    · have hf := mo_pos hf c_5
      refine mm_adv 15 (cs' := P_X0_decide.drop 62) (l' := [(7, .int v_4), (0, .ref 126), (1, .int v1), (2, .int v2), (3, .int v3), (4, .int w4), (5, .int w5), (6, .int w6)]) (st' := []) (h' := (xs_H pt ps pg pr s_4)) (bc' := 0) (bs' := 0) (fun n g => (And.intro (fun q => absurd q c_3) (fun _ => (h_1_after pt ps pg pr s (v1) (w6) ((s.1 2022)) v_4 s_4 _ hr_4 (And.intro (fun q => absurd c_5 q) (fun _ => g)))))) ?_
      refine mm_re (l' := [(0, .ref 126), (1, .int v1), (2, .int v2), (3, .int v3), (4, .int w4), (5, .int w5), (6, .int w6)]) (c := [(0, .ref 126), (1, .int v1), (2, .int v2), (3, .int v3), (4, .int w4), (5, .int w5), (6, .int w6)]) ?_ rfl rfl
      exact xb_0_decide_j62 h_11_turnOf h_1_after s_4 (v1) (v2) (v3) (w4) (w5) (w6) _ hf hK
    · have hf := mo_neg hf c_5
      obtain ⟨x_6, hx_6, hf⟩ := mo_bind hf
      obtain ⟨hi_6, rfl⟩ := mo_ag_inv hx_6
      by_cases c_7 : ((s_4.2.1 129) (v_4).toNatClampNeg) = (0 : Int32)
      · have hf := mo_pos hf c_7
        refine mm_adv 21 (cs' := P_X0_decide.drop 43) (l' := [(5, .int (1 : Int32)), (7, .int v_4), (0, .ref 126), (1, .int v1), (2, .int v2), (3, .int v3), (4, .int w4), (6, .int w6)]) (st' := []) (h' := (xs_H pt ps pg pr s_4)) (bc' := 0) (bs' := 0) (fun n g => (And.intro (fun q => absurd q c_3) (fun _ => (h_1_after pt ps pg pr s (v1) (w6) ((s.1 2022)) v_4 s_4 _ hr_4 (And.intro (fun _ => (And.intro hi_6 (And.intro (fun _ => g) (fun q => absurd c_7 q)))) (fun q => absurd c_5 q)))))) ?_
        refine mm_re (l' := [(0, .ref 126), (1, .int v1), (2, .int v2), (3, .int v3), (4, .int w4), (5, .int (1 : Int32)), (6, .int w6), (7, .int v_4)]) (c := [(0, .ref 126), (1, .int v1), (2, .int v2), (3, .int v3), (4, .int w4), (5, .int (1 : Int32)), (6, .int w6), (7, .int v_4)]) ?_ rfl rfl
        exact xb_0_decide_j43 h_11_turnOf h_1_after s_4 (v1) (v2) (v3) (w4) ((1 : Int32)) (w6) (v_4) _ hf hK
      · have hf := mo_neg hf c_7
        obtain ⟨x_12, hx_12, hf⟩ := mo_bind hf
        obtain ⟨hi_12, rfl⟩ := mo_ag_inv hx_12
        by_cases c_13 : ((s_4.2.1 130) (v_4).toNatClampNeg) < v2
        · have hf := mo_pos hf c_13
          refine mm_adv 28 (cs' := P_X0_decide.drop 46) (l' := [(5, .int (1 : Int32)), (7, .int v_4), (0, .ref 126), (1, .int v1), (2, .int v2), (3, .int v3), (4, .int w4), (6, .int w6)]) (st' := [.int (0 : Int32)]) (h' := (xs_H pt ps pg pr s_4)) (bc' := 0) (bs' := 0) (fun n g => (And.intro (fun q => absurd q c_3) (fun _ => (h_1_after pt ps pg pr s (v1) (w6) ((s.1 2022)) v_4 s_4 _ hr_4 (And.intro (fun _ => (And.intro hi_6 (And.intro (fun q => absurd q c_7) (fun _ => (And.intro hi_12 (And.intro (fun _ => g) (fun q => absurd c_13 q))))))) (fun q => absurd c_5 q)))))) ?_
          refine mm_re (l' := [(0, .ref 126), (1, .int v1), (2, .int v2), (3, .int v3), (4, .int w4), (5, .int (1 : Int32)), (6, .int w6), (7, .int v_4)]) (c := [(0, .ref 126), (1, .int v1), (2, .int v2), (3, .int v3), (4, .int w4), (5, .int (1 : Int32)), (6, .int w6), (7, .int v_4)]) ?_ rfl rfl
          exact xb_0_decide_j46 h_11_turnOf h_1_after s_4 (v1) (v2) (v3) (w4) ((1 : Int32)) (w6) (v_4) ((0 : Int32)) _ hf hK
        · have hf := mo_neg hf c_13
          refine mm_adv 27 (cs' := P_X0_decide.drop 43) (l' := [(5, .int (1 : Int32)), (7, .int v_4), (0, .ref 126), (1, .int v1), (2, .int v2), (3, .int v3), (4, .int w4), (6, .int w6)]) (st' := []) (h' := (xs_H pt ps pg pr s_4)) (bc' := 0) (bs' := 0) (fun n g => (And.intro (fun q => absurd q c_3) (fun _ => (h_1_after pt ps pg pr s (v1) (w6) ((s.1 2022)) v_4 s_4 _ hr_4 (And.intro (fun _ => (And.intro hi_6 (And.intro (fun q => absurd q c_7) (fun _ => (And.intro hi_12 (And.intro (fun q => absurd q c_13) (fun _ => g))))))) (fun q => absurd c_5 q)))))) ?_
          refine mm_re (l' := [(0, .ref 126), (1, .int v1), (2, .int v2), (3, .int v3), (4, .int w4), (5, .int (1 : Int32)), (6, .int w6), (7, .int v_4)]) (c := [(0, .ref 126), (1, .int v1), (2, .int v2), (3, .int v3), (4, .int w4), (5, .int (1 : Int32)), (6, .int w6), (7, .int v_4)]) ?_ rfl rfl
          exact xb_0_decide_j43 h_11_turnOf h_1_after s_4 (v1) (v2) (v3) (w4) ((1 : Int32)) (w6) (v_4) _ hf hK
noncomputable def xf_0_decide_j64 (s : xs_S) (v1 : Int32) (v2 : Int32) (v4 : Int32) (v5 : Int32) : Option (Int32 × xs_S) :=
(if v5 = (0 : Int32) then
some ((0 : Int32), s)
else
(if v4 = (0 : Int32) then
some ((0 : Int32), s)
else
(bif mo_in v1 294 then (bif mo_in v1 294 then some ((1 : Int32), (xs_sA (xs_sA s 129 (upd (s.2.1 129) (v1).toNatClampNeg (v4))) 130 (upd (s.2.1 130) (v1).toNatClampNeg (v2)))) else none) else none)))
set_option maxHeartbeats 4000000 in
theorem xb_0_decide_j64 {C : mm_C} {Q : mm_R} {pt : Value} {ps : Value} {pg : Value} {pr : Value} (h_11_turnOf : xk_11_turnOf C) (h_1_after : xk_1_after C) (s : xs_S) (v1 : Int32) (v2 : Int32) (v4 : Int32) (v5 : Int32) (v : Int32) (s2 : xs_S) (hf : xf_0_decide_j64 s v1 v2 v4 v5 = some (v, s2)) (hK : Q (some (.int v)) (xs_H pt ps pg pr s2)) : mm_go C mm_Mk mm_Fk P_X0_decide Q (P_X0_decide.drop 64) [(0, .ref 126), (1, .int v1), (2, .int v2), (4, .int v4), (5, .int v5)] [] (xs_H pt ps pg pr s) 0 0 := by
  unfold xf_0_decide_j64 at hf
  by_cases c_15 : v5 = (0 : Int32)
  · have hf := mo_pos hf c_15
    obtain ⟨rfl, rfl⟩ := mo_pair hf
    exact ⟨4, (And.intro (fun _ => (And.intro rfl hK)) (fun q => absurd c_15 q))⟩
  · have hf := mo_neg hf c_15
    by_cases c_16 : v4 = (0 : Int32)
    · have hf := mo_pos hf c_16
      obtain ⟨rfl, rfl⟩ := mo_pair hf
      exact ⟨6, (And.intro (fun q => absurd q c_15) (fun _ => (And.intro (fun q => absurd c_16 q) (fun _ => (And.intro rfl hK)))))⟩
    · have hf := mo_neg hf c_16
      obtain ⟨hi_17, hf⟩ := mo_if hf
      obtain ⟨hi_18, hf⟩ := mo_if hf
      obtain ⟨rfl, rfl⟩ := mo_pair hf
      exact ⟨16, (And.intro (fun q => absurd q c_15) (fun _ => (And.intro (fun _ => (And.intro hi_17 (And.intro hi_18 (And.intro rfl hK)))) (fun q => absurd c_16 q))))⟩
noncomputable def xf_0_decide_j6 (s : xs_S) (v1 : Int32) (v2 : Int32) (k0 : Int32) : Option (Int32 × xs_S) :=
((mo_loop (xf_0_decide_l15 (v1) (v2) (k0)) (((3 : Int32) - k0), (0 : Int32), (0 : Int32), s)).bind fun x_14 =>
match x_14 with
| (.inl (e5_14, s_14)) => (xf_0_decide_j64 (s_14) (v1) (v2) (k0) (e5_14))
| (.inr (e4_14, e5_14, s_14)) => (xf_0_decide_j64 (s_14) (v1) (v2) (e4_14) (e5_14))
)
set_option maxHeartbeats 4000000 in
theorem xb_0_decide_j6 {C : mm_C} {Q : mm_R} {pt : Value} {ps : Value} {pg : Value} {pr : Value} (h_11_turnOf : xk_11_turnOf C) (h_1_after : xk_1_after C) (s : xs_S) (v1 : Int32) (v2 : Int32) (k0 : Int32) (v : Int32) (s2 : xs_S) (hf : xf_0_decide_j6 s v1 v2 k0 = some (v, s2)) (hK : Q (some (.int v)) (xs_H pt ps pg pr s2)) : mm_go C mm_Mk mm_Fk P_X0_decide Q (P_X0_decide.drop 6) [(0, .ref 126), (1, .int v1), (2, .int v2)] [.int k0] (xs_H pt ps pg pr s) 0 0 := by
  unfold xf_0_decide_j6 at hf
  obtain ⟨x_14, hl_14, hf⟩ := mo_bind hf
  refine mm_adv 9 (cs' := P_X0_decide.drop 15) (l' := [(6, .int (0 : Int32)), (5, .int (0 : Int32)), (4, .int ((3 : Int32) - k0)), (3, .int k0), (0, .ref 126), (1, .int v1), (2, .int v2)]) (st' := []) (h' := (xs_H pt ps pg pr s)) (bc' := 0) (bs' := 0) (fun n g => g) ?_
  refine mm_re (l' := [(0, .ref 126), (1, .int v1), (2, .int v2), (3, .int k0), (4, .int ((3 : Int32) - k0)), (5, .int (0 : Int32)), (6, .int (0 : Int32))]) (c := [(0, .ref 126), (1, .int v1), (2, .int v2), (3, .int k0), (4, .int ((3 : Int32) - k0)), (5, .int (0 : Int32)), (6, .int (0 : Int32))]) ?_ rfl rfl
  refine xb_0_decide_l15 h_11_turnOf h_1_after (v1) (v2) (k0) (((3 : Int32) - k0), (0 : Int32), (0 : Int32), s) x_14 hl_14 ?_
  cases x_14 with
  | inl y_14 =>
    obtain ⟨e5_14, s_14⟩ := y_14
    refine mm_adv 3 (cs' := P_X0_decide.drop 64) (l' := [(4, .int k0), (0, .ref 126), (1, .int v1), (2, .int v2), (3, .int k0), (5, .int e5_14)]) (st' := []) (h' := (xs_H pt ps pg pr s_14)) (bc' := 0) (bs' := 0) (fun n g => g) ?_
    refine mm_re (l' := [(0, .ref 126), (1, .int v1), (2, .int v2), (4, .int k0), (5, .int e5_14)]) (c := [(0, .ref 126), (1, .int v1), (2, .int v2), (4, .int k0), (5, .int e5_14)]) ?_ rfl rfl
    exact xb_0_decide_j64 h_11_turnOf h_1_after s_14 (v1) (v2) (k0) (e5_14) _ _ hf hK
  | inr z_14_0 =>
    obtain ⟨e4_14, e5_14, s_14⟩ := z_14_0
    refine mm_re (l' := [(0, .ref 126), (1, .int v1), (2, .int v2), (4, .int e4_14), (5, .int e5_14)]) (c := [(0, .ref 126), (1, .int v1), (2, .int v2), (4, .int e4_14), (5, .int e5_14)]) ?_ rfl rfl
    exact xb_0_decide_j64 h_11_turnOf h_1_after s_14 (v1) (v2) (e4_14) (e5_14) _ _ hf hK
noncomputable def xf_0_decide (s : xs_S) (a0 : Int32) (a1 : Int32) : Option (Int32 × xs_S) :=
((xf_11_turnOf (a0)).bind fun v_1 =>
(if v_1 = (0 : Int32) then
(xf_0_decide_j6 (s) (a0) (a1) ((1 : Int32)))
else
(xf_0_decide_j6 (s) (a0) (a1) ((2 : Int32)))))
set_option maxHeartbeats 4000000 in
theorem xb_0_decide {C : mm_C} {Q : mm_R} {pt : Value} {ps : Value} {pg : Value} {pr : Value} (h_11_turnOf : xk_11_turnOf C) (h_1_after : xk_1_after C) (s : xs_S) (a0 : Int32) (a1 : Int32) (v : Int32) (s2 : xs_S) (hf : xf_0_decide s a0 a1 = some (v, s2)) (hK : Q (some (.int v)) (xs_H pt ps pg pr s2)) : mm_go C mm_Mk mm_Fk P_X0_decide Q P_X0_decide [(0, .ref 126), (1, .int a0), (2, .int a1)] [] (xs_H pt ps pg pr s) 0 0 := by
  unfold xf_0_decide at hf
  obtain ⟨v_1, hr_1, hf⟩ := mo_bind hf
  by_cases c_2 : v_1 = (0 : Int32)
  · have hf := mo_pos hf c_2
    refine mm_adv 5 (cs' := P_X0_decide.drop 6) (l' := [(0, .ref 126), (1, .int a0), (2, .int a1)]) (st' := [.int (1 : Int32)]) (h' := (xs_H pt ps pg pr s)) (bc' := 0) (bs' := 0) (fun n g => (h_11_turnOf _ (a0) v_1 _ hr_1 (And.intro (fun q => absurd c_2 q) (fun _ => g)))) ?_
    refine mm_re (l' := [(0, .ref 126), (1, .int a0), (2, .int a1)]) (c := [(0, .ref 126), (1, .int a0), (2, .int a1)]) ?_ rfl rfl
    exact xb_0_decide_j6 h_11_turnOf h_1_after s (a0) (a1) ((1 : Int32)) _ _ hf hK
  · have hf := mo_neg hf c_2
    refine mm_adv 4 (cs' := P_X0_decide.drop 6) (l' := [(0, .ref 126), (1, .int a0), (2, .int a1)]) (st' := [.int (2 : Int32)]) (h' := (xs_H pt ps pg pr s)) (bc' := 0) (bs' := 0) (fun n g => (h_11_turnOf _ (a0) v_1 _ hr_1 (And.intro (fun _ => g) (fun q => absurd c_2 q)))) ?_
    refine mm_re (l' := [(0, .ref 126), (1, .int a0), (2, .int a1)]) (c := [(0, .ref 126), (1, .int a0), (2, .int a1)]) ?_ rfl rfl
    exact xb_0_decide_j6 h_11_turnOf h_1_after s (a0) (a1) ((2 : Int32)) _ _ hf hK
def xk_0_decide (C : mm_C) : Prop := ∀ (pt : Value) (ps : Value) (pg : Value) (pr : Value) (s : xs_S) (a0 : Int32) (a1 : Int32) (v : Int32) (s2 : xs_S) (Q : mm_R), xf_0_decide s a0 a1 = some (v, s2) → Q (some (.int v)) (xs_H pt ps pg pr s2) → C 134 [.ref 126, .int a0, .int a1] (xs_H pt ps pg pr s) Q
-- 0_settle
noncomputable def xf_0_settle_j36 (s : xs_S) (v1 : Int32) (k0 : Int32) (k1 : Int32) : Option ((Int32 × xs_S) ⊕ ((xs_S))) :=
(bif mo_in k1 294 then some (.inl ((v1 + (1 : Int32)), (xs_sA s 129 (upd (s.2.1 129) (k1).toNatClampNeg (k0))))) else none)
set_option maxHeartbeats 4000000 in
theorem xb_0_settle_j36 {C : mm_C} {Q : mm_R} {pt : Value} {ps : Value} {pg : Value} {pr : Value} (h_11_slopeOf : xk_11_slopeOf C) (h_0_decide : xk_0_decide C) (s : xs_S) (v1 : Int32) (k0 : Int32) (k1 : Int32) (r : (Int32 × xs_S) ⊕ ((xs_S))) (hf : xf_0_settle_j36 s v1 k0 k1 = some r) (hK : mo_sum (mo_c2 (fun y1 sy => mm_go C mm_Mk mm_Fk P_X0_settle Q (P_X0_settle.drop 2) [(0, .ref 126), (1, .int y1)] [] (xs_H pt ps pg pr sy) 0 0))  (fun sy => mm_go C mm_Mk mm_Fk P_X0_settle Q (P_X0_settle.drop 39) [(0, .ref 126)] [] (xs_H pt ps pg pr sy) 0 0)  r) : mm_go C mm_Mk mm_Fk P_X0_settle Q (P_X0_settle.drop 36) [(0, .ref 126), (1, .int v1)] [.int k0, .int k1, .ref 129] (xs_H pt ps pg pr s) 0 0 := by
  unfold xf_0_settle_j36 at hf
  obtain ⟨hi_8, hf⟩ := mo_if hf
  obtain rfl := Option.some.inj hf
  refine mm_adv 3 (cs' := P_X0_settle.drop 2) (l' := [(1, .int (v1 + (1 : Int32))), (0, .ref 126)]) (st' := []) (h' := (xs_H pt ps pg pr (xs_sA s 129 (upd (s.2.1 129) (k1).toNatClampNeg (k0))))) (bc' := 0) (bs' := 0) (fun n g => (And.intro hi_8 g)) ?_
  exact mm_re (c := [(0, .ref 126), (1, .int (v1 + (1 : Int32)))]) hK rfl rfl
noncomputable def xf_0_settle_l2  : (Int32 × xs_S) → Option ((Int32 × xs_S) ⊕ ((xs_S))) := fun (w1, s) =>
(if (s.1 2018) ≤ w1 then
some (.inr (s))
else
((mo_ag 294 (s.2.1 127) w1).bind fun x_2 =>
((xf_11_slopeOf (x_2)).bind fun v_3 =>
((mo_ag 294 (s.2.1 127) w1).bind fun x_4 =>
(bif mo_in x_4 294 then ((mo_ag 294 (s.2.1 127) w1).bind fun x_6 =>
(if v_3 = (20 : Int32) then
(xf_0_settle_j36 ((xs_sA s 130 (upd (s.2.1 130) (x_4).toNatClampNeg ((0 : Int32))))) (w1) ((1 : Int32)) (x_6))
else
(if v_3 = (0 : Int32) then
(xf_0_settle_j36 ((xs_sA s 130 (upd (s.2.1 130) (x_4).toNatClampNeg ((0 : Int32))))) (w1) ((2 : Int32)) (x_6))
else
(xf_0_settle_j36 ((xs_sA s 130 (upd (s.2.1 130) (x_4).toNatClampNeg ((0 : Int32))))) (w1) ((0 : Int32)) (x_6))))) else none)))))
set_option maxHeartbeats 4000000 in
theorem xb_0_settle_l2 {C : mm_C} {Q : mm_R} {pt : Value} {ps : Value} {pg : Value} {pr : Value} (h_11_slopeOf : xk_11_slopeOf C) (h_0_decide : xk_0_decide C)  (t : Int32 × xs_S) (x : (xs_S)) (hl : mo_loop (xf_0_settle_l2 ) t = some x) (hK : (fun sy => mm_go C mm_Mk mm_Fk P_X0_settle Q (P_X0_settle.drop 39) [(0, .ref 126)] [] (xs_H pt ps pg pr sy) 0 0) x) : (mo_c2 (fun y1 sy => mm_go C mm_Mk mm_Fk P_X0_settle Q (P_X0_settle.drop 2) [(0, .ref 126), (1, .int y1)] [] (xs_H pt ps pg pr sy) 0 0)) t := by
  refine mo_loop_go (G := (mo_c2 (fun y1 sy => mm_go C mm_Mk mm_Fk P_X0_settle Q (P_X0_settle.drop 2) [(0, .ref 126), (1, .int y1)] [] (xs_H pt ps pg pr sy) 0 0)) ) (K := (fun sy => mm_go C mm_Mk mm_Fk P_X0_settle Q (P_X0_settle.drop 39) [(0, .ref 126)] [] (xs_H pt ps pg pr sy) 0 0) ) ?_ t x hl hK
  intro t r hf hK
  obtain ⟨w1, s⟩ := t
  unfold xf_0_settle_l2 at hf
  by_cases c_1 : (s.1 2018) ≤ w1
  · have hf := mo_pos hf c_1
    obtain rfl := Option.some.inj hf
    refine mm_adv 4 (cs' := P_X0_settle.drop 39) (l' := [(0, .ref 126), (1, .int w1)]) (st' := []) (h' := (xs_H pt ps pg pr s)) (bc' := 0) (bs' := 0) (fun n g => (And.intro (fun _ => g) (fun q => absurd c_1 q))) ?_
    exact mm_re (c := [(0, .ref 126)]) hK rfl rfl
  · have hf := mo_neg hf c_1
    obtain ⟨x_2, hx_2, hf⟩ := mo_bind hf
    obtain ⟨hi_2, rfl⟩ := mo_ag_inv hx_2
    obtain ⟨v_3, hr_3, hf⟩ := mo_bind hf
    obtain ⟨x_4, hx_4, hf⟩ := mo_bind hf
    obtain ⟨hi_4, rfl⟩ := mo_ag_inv hx_4
    obtain ⟨hi_5, hf⟩ := mo_if hf
    obtain ⟨x_6, hx_6, hf⟩ := mo_bind hf
    obtain ⟨hi_6, rfl⟩ := mo_ag_inv hx_6
    by_cases c_7 : v_3 = (20 : Int32)
    · have hf := mo_pos hf c_7
      refine mm_adv 29 (cs' := P_X0_settle.drop 36) (l' := [(2, .int v_3), (0, .ref 126), (1, .int w1)]) (st' := [.int (1 : Int32), .int ((s.2.1 127) (w1).toNatClampNeg), .ref 129]) (h' := (xs_H pt ps pg pr (xs_sA s 130 (upd (s.2.1 130) (((s.2.1 127) (w1).toNatClampNeg)).toNatClampNeg ((0 : Int32)))))) (bc' := 0) (bs' := 0) (fun n g => (And.intro (fun q => absurd q c_1) (fun _ => (And.intro hi_2 (h_11_slopeOf _ (((s.2.1 127) (w1).toNatClampNeg)) v_3 _ hr_3 (And.intro hi_4 (And.intro hi_5 (And.intro hi_6 (And.intro (fun q => absurd c_7 q) (fun _ => g)))))))))) ?_
      refine mm_re (l' := [(0, .ref 126), (1, .int w1)]) (c := [(0, .ref 126), (1, .int w1)]) ?_ rfl rfl
      exact xb_0_settle_j36 h_11_slopeOf h_0_decide (xs_sA s 130 (upd (s.2.1 130) (((s.2.1 127) (w1).toNatClampNeg)).toNatClampNeg ((0 : Int32)))) (w1) ((1 : Int32)) (((s.2.1 127) (w1).toNatClampNeg)) _ hf hK
    · have hf := mo_neg hf c_7
      by_cases c_9 : v_3 = (0 : Int32)
      · have hf := mo_pos hf c_9
        refine mm_adv 31 (cs' := P_X0_settle.drop 36) (l' := [(2, .int v_3), (0, .ref 126), (1, .int w1)]) (st' := [.int (2 : Int32), .int ((s.2.1 127) (w1).toNatClampNeg), .ref 129]) (h' := (xs_H pt ps pg pr (xs_sA s 130 (upd (s.2.1 130) (((s.2.1 127) (w1).toNatClampNeg)).toNatClampNeg ((0 : Int32)))))) (bc' := 0) (bs' := 0) (fun n g => (And.intro (fun q => absurd q c_1) (fun _ => (And.intro hi_2 (h_11_slopeOf _ (((s.2.1 127) (w1).toNatClampNeg)) v_3 _ hr_3 (And.intro hi_4 (And.intro hi_5 (And.intro hi_6 (And.intro (fun _ => (And.intro (fun q => absurd c_9 q) (fun _ => g))) (fun q => absurd c_7 q)))))))))) ?_
        refine mm_re (l' := [(0, .ref 126), (1, .int w1)]) (c := [(0, .ref 126), (1, .int w1)]) ?_ rfl rfl
        exact xb_0_settle_j36 h_11_slopeOf h_0_decide (xs_sA s 130 (upd (s.2.1 130) (((s.2.1 127) (w1).toNatClampNeg)).toNatClampNeg ((0 : Int32)))) (w1) ((2 : Int32)) (((s.2.1 127) (w1).toNatClampNeg)) _ hf hK
      · have hf := mo_neg hf c_9
        refine mm_adv 30 (cs' := P_X0_settle.drop 36) (l' := [(2, .int v_3), (0, .ref 126), (1, .int w1)]) (st' := [.int (0 : Int32), .int ((s.2.1 127) (w1).toNatClampNeg), .ref 129]) (h' := (xs_H pt ps pg pr (xs_sA s 130 (upd (s.2.1 130) (((s.2.1 127) (w1).toNatClampNeg)).toNatClampNeg ((0 : Int32)))))) (bc' := 0) (bs' := 0) (fun n g => (And.intro (fun q => absurd q c_1) (fun _ => (And.intro hi_2 (h_11_slopeOf _ (((s.2.1 127) (w1).toNatClampNeg)) v_3 _ hr_3 (And.intro hi_4 (And.intro hi_5 (And.intro hi_6 (And.intro (fun _ => (And.intro (fun _ => g) (fun q => absurd c_9 q))) (fun q => absurd c_7 q)))))))))) ?_
        refine mm_re (l' := [(0, .ref 126), (1, .int w1)]) (c := [(0, .ref 126), (1, .int w1)]) ?_ rfl rfl
        exact xb_0_settle_j36 h_11_slopeOf h_0_decide (xs_sA s 130 (upd (s.2.1 130) (((s.2.1 127) (w1).toNatClampNeg)).toNatClampNeg ((0 : Int32)))) (w1) ((0 : Int32)) (((s.2.1 127) (w1).toNatClampNeg)) _ hf hK
noncomputable def xf_0_settle_j74 (s : xs_S) (v1 : Int32) (v2 : Int32) (v3 : Int32) : Option ((Int32 × Int32 × xs_S) ⊕ ((Int32 × xs_S))) :=
some (.inl (v1, (v3 + (1 : Int32)), s))
set_option maxHeartbeats 4000000 in
theorem xb_0_settle_j74 {C : mm_C} {Q : mm_R} {pt : Value} {ps : Value} {pg : Value} {pr : Value} (h_11_slopeOf : xk_11_slopeOf C) (h_0_decide : xk_0_decide C) (s : xs_S) (v1 : Int32) (v2 : Int32) (v3 : Int32) (r : (Int32 × Int32 × xs_S) ⊕ ((Int32 × xs_S))) (hf : xf_0_settle_j74 s v1 v2 v3 = some r) (hK : mo_sum (mo_c2 (fun y1 => (mo_c2 (fun y3 sy => mm_go C mm_Mk mm_Fk P_X0_settle Q (P_X0_settle.drop 52) [(0, .ref 126), (1, .int y1), (2, .int v2), (3, .int y3)] [] (xs_H pt ps pg pr sy) 0 0))))  (mo_c2 (fun y1 sy => mm_go C mm_Mk mm_Fk P_X0_settle Q (P_X0_settle.drop 76) [(0, .ref 126), (1, .int y1), (2, .int v2)] [] (xs_H pt ps pg pr sy) 0 0))  r) : mm_go C mm_Mk mm_Fk P_X0_settle Q (P_X0_settle.drop 74) [(0, .ref 126), (1, .int v1), (2, .int v2), (3, .int v3)] [] (xs_H pt ps pg pr s) 0 0 := by
  unfold xf_0_settle_j74 at hf
  obtain rfl := Option.some.inj hf
  refine mm_adv 2 (cs' := P_X0_settle.drop 52) (l' := [(3, .int (v3 + (1 : Int32))), (0, .ref 126), (1, .int v1), (2, .int v2)]) (st' := []) (h' := (xs_H pt ps pg pr s)) (bc' := 0) (bs' := 0) (fun n g => g) ?_
  exact mm_re (c := [(0, .ref 126), (1, .int v1), (2, .int v2), (3, .int (v3 + (1 : Int32)))]) hK rfl rfl
noncomputable def xf_0_settle_l52 (v2 : Int32) : (Int32 × Int32 × xs_S) → Option ((Int32 × Int32 × xs_S) ⊕ ((Int32 × xs_S))) := fun (w1, w3, s) =>
(if (s.1 2018) ≤ w3 then
some (.inr (w1, s))
else
((mo_ag 294 (s.2.1 127) w3).bind fun x_14 =>
((mo_ag 294 (s.2.1 129) x_14).bind fun x_15 =>
(if x_15 = (0 : Int32) then
((mo_ag 294 (s.2.1 127) w3).bind fun x_17 =>
((xf_0_decide s (x_17) (v2)).bind fun (v_18, s_18) =>
(if v_18 = (0 : Int32) then
(xf_0_settle_j74 (s_18) (w1) (v2) (w3))
else
(xf_0_settle_j74 (s_18) ((1 : Int32)) (v2) (w3)))))
else
(xf_0_settle_j74 (s) (w1) (v2) (w3))))))
set_option maxHeartbeats 4000000 in
theorem xb_0_settle_l52 {C : mm_C} {Q : mm_R} {pt : Value} {ps : Value} {pg : Value} {pr : Value} (h_11_slopeOf : xk_11_slopeOf C) (h_0_decide : xk_0_decide C) (v2 : Int32) (t : Int32 × Int32 × xs_S) (x : (Int32 × xs_S)) (hl : mo_loop (xf_0_settle_l52 v2) t = some x) (hK : (mo_c2 (fun y1 sy => mm_go C mm_Mk mm_Fk P_X0_settle Q (P_X0_settle.drop 76) [(0, .ref 126), (1, .int y1), (2, .int v2)] [] (xs_H pt ps pg pr sy) 0 0)) x) : (mo_c2 (fun y1 => (mo_c2 (fun y3 sy => mm_go C mm_Mk mm_Fk P_X0_settle Q (P_X0_settle.drop 52) [(0, .ref 126), (1, .int y1), (2, .int v2), (3, .int y3)] [] (xs_H pt ps pg pr sy) 0 0)))) t := by
  refine mo_loop_go (G := (mo_c2 (fun y1 => (mo_c2 (fun y3 sy => mm_go C mm_Mk mm_Fk P_X0_settle Q (P_X0_settle.drop 52) [(0, .ref 126), (1, .int y1), (2, .int v2), (3, .int y3)] [] (xs_H pt ps pg pr sy) 0 0)))) ) (K := (mo_c2 (fun y1 sy => mm_go C mm_Mk mm_Fk P_X0_settle Q (P_X0_settle.drop 76) [(0, .ref 126), (1, .int y1), (2, .int v2)] [] (xs_H pt ps pg pr sy) 0 0)) ) ?_ t x hl hK
  intro t r hf hK
  obtain ⟨w1, w3, s⟩ := t
  unfold xf_0_settle_l52 at hf
  by_cases c_13 : (s.1 2018) ≤ w3
  · have hf := mo_pos hf c_13
    obtain rfl := Option.some.inj hf
    refine mm_adv 4 (cs' := P_X0_settle.drop 76) (l' := [(0, .ref 126), (1, .int w1), (2, .int v2), (3, .int w3)]) (st' := []) (h' := (xs_H pt ps pg pr s)) (bc' := 0) (bs' := 0) (fun n g => (And.intro (fun _ => g) (fun q => absurd c_13 q))) ?_
    exact mm_re (c := [(0, .ref 126), (1, .int w1), (2, .int v2)]) hK rfl rfl
  · have hf := mo_neg hf c_13
    obtain ⟨x_14, hx_14, hf⟩ := mo_bind hf
    obtain ⟨hi_14, rfl⟩ := mo_ag_inv hx_14
    obtain ⟨x_15, hx_15, hf⟩ := mo_bind hf
    obtain ⟨hi_15, rfl⟩ := mo_ag_inv hx_15
    by_cases c_16 : ((s.2.1 129) (((s.2.1 127) (w3).toNatClampNeg)).toNatClampNeg) = (0 : Int32)
    · have hf := mo_pos hf c_16
      obtain ⟨x_17, hx_17, hf⟩ := mo_bind hf
      obtain ⟨hi_17, rfl⟩ := mo_ag_inv hx_17
      obtain ⟨r_18, hr_18, hf⟩ := mo_bind hf
      obtain ⟨v_18, s_18⟩ := r_18
      by_cases c_19 : v_18 = (0 : Int32)
      · have hf := mo_pos hf c_19
        refine mm_adv 20 (cs' := P_X0_settle.drop 74) (l' := [(0, .ref 126), (1, .int w1), (2, .int v2), (3, .int w3)]) (st' := []) (h' := (xs_H pt ps pg pr s_18)) (bc' := 0) (bs' := 0) (fun n g => (And.intro (fun q => absurd q c_13) (fun _ => (And.intro hi_14 (And.intro hi_15 (And.intro (fun q => absurd c_16 q) (fun _ => (And.intro hi_17 (h_0_decide pt ps pg pr s (((s.2.1 127) (w3).toNatClampNeg)) (v2) v_18 s_18 _ hr_18 (And.intro (fun _ => g) (fun q => absurd c_19 q))))))))))) ?_
        refine mm_re (l' := [(0, .ref 126), (1, .int w1), (2, .int v2), (3, .int w3)]) (c := [(0, .ref 126), (1, .int w1), (2, .int v2), (3, .int w3)]) ?_ rfl rfl
        exact xb_0_settle_j74 h_11_slopeOf h_0_decide s_18 (w1) (v2) (w3) _ hf hK
      · have hf := mo_neg hf c_19
        refine mm_adv 22 (cs' := P_X0_settle.drop 74) (l' := [(1, .int (1 : Int32)), (0, .ref 126), (2, .int v2), (3, .int w3)]) (st' := []) (h' := (xs_H pt ps pg pr s_18)) (bc' := 0) (bs' := 0) (fun n g => (And.intro (fun q => absurd q c_13) (fun _ => (And.intro hi_14 (And.intro hi_15 (And.intro (fun q => absurd c_16 q) (fun _ => (And.intro hi_17 (h_0_decide pt ps pg pr s (((s.2.1 127) (w3).toNatClampNeg)) (v2) v_18 s_18 _ hr_18 (And.intro (fun q => absurd q c_19) (fun _ => g))))))))))) ?_
        refine mm_re (l' := [(0, .ref 126), (1, .int (1 : Int32)), (2, .int v2), (3, .int w3)]) (c := [(0, .ref 126), (1, .int (1 : Int32)), (2, .int v2), (3, .int w3)]) ?_ rfl rfl
        exact xb_0_settle_j74 h_11_slopeOf h_0_decide s_18 ((1 : Int32)) (v2) (w3) _ hf hK
    · have hf := mo_neg hf c_16
      refine mm_adv 12 (cs' := P_X0_settle.drop 74) (l' := [(0, .ref 126), (1, .int w1), (2, .int v2), (3, .int w3)]) (st' := []) (h' := (xs_H pt ps pg pr s)) (bc' := 0) (bs' := 0) (fun n g => (And.intro (fun q => absurd q c_13) (fun _ => (And.intro hi_14 (And.intro hi_15 (And.intro (fun _ => g) (fun q => absurd c_16 q))))))) ?_
      refine mm_re (l' := [(0, .ref 126), (1, .int w1), (2, .int v2), (3, .int w3)]) (c := [(0, .ref 126), (1, .int w1), (2, .int v2), (3, .int w3)]) ?_ rfl rfl
      exact xb_0_settle_j74 h_11_slopeOf h_0_decide s (w1) (v2) (w3) _ hf hK
noncomputable def xf_0_settle_l43  : (Int32 × Int32 × xs_S) → Option ((Int32 × Int32 × xs_S) ⊕ ((xs_S))) := fun (w1, w2, s) =>
(if (294 : Int32) < w2 then
some (.inr (s))
else
(if w1 = (0 : Int32) then
some (.inr (s))
else
((mo_loop (xf_0_settle_l52 (w2)) ((0 : Int32), (0 : Int32), s)).bind fun (e1_20, s_20) =>
some (.inl (e1_20, (w2 + (1 : Int32)), s_20)))))
set_option maxHeartbeats 4000000 in
theorem xb_0_settle_l43 {C : mm_C} {Q : mm_R} {pt : Value} {ps : Value} {pg : Value} {pr : Value} (h_11_slopeOf : xk_11_slopeOf C) (h_0_decide : xk_0_decide C)  (t : Int32 × Int32 × xs_S) (x : (xs_S)) (hl : mo_loop (xf_0_settle_l43 ) t = some x) (hK : (fun sy => mm_go C mm_Mk mm_Fk P_X0_settle Q (P_X0_settle.drop 78) [(0, .ref 126)] [] (xs_H pt ps pg pr sy) 0 0) x) : (mo_c2 (fun y1 => (mo_c2 (fun y2 sy => mm_go C mm_Mk mm_Fk P_X0_settle Q (P_X0_settle.drop 43) [(0, .ref 126), (1, .int y1), (2, .int y2)] [] (xs_H pt ps pg pr sy) 0 0)))) t := by
  refine mo_loop_go (G := (mo_c2 (fun y1 => (mo_c2 (fun y2 sy => mm_go C mm_Mk mm_Fk P_X0_settle Q (P_X0_settle.drop 43) [(0, .ref 126), (1, .int y1), (2, .int y2)] [] (xs_H pt ps pg pr sy) 0 0)))) ) (K := (fun sy => mm_go C mm_Mk mm_Fk P_X0_settle Q (P_X0_settle.drop 78) [(0, .ref 126)] [] (xs_H pt ps pg pr sy) 0 0) ) ?_ t x hl hK
  intro t r hf hK
  obtain ⟨w1, w2, s⟩ := t
  unfold xf_0_settle_l43 at hf
  by_cases c_11 : (294 : Int32) < w2
  · have hf := mo_pos hf c_11
    obtain rfl := Option.some.inj hf
    refine mm_adv 3 (cs' := P_X0_settle.drop 78) (l' := [(0, .ref 126), (1, .int w1), (2, .int w2)]) (st' := []) (h' := (xs_H pt ps pg pr s)) (bc' := 0) (bs' := 0) (fun n g => (And.intro (fun _ => g) (fun q => absurd c_11 q))) ?_
    exact mm_re (c := [(0, .ref 126)]) hK rfl rfl
  · have hf := mo_neg hf c_11
    by_cases c_12 : w1 = (0 : Int32)
    · have hf := mo_pos hf c_12
      obtain rfl := Option.some.inj hf
      refine mm_adv 5 (cs' := P_X0_settle.drop 78) (l' := [(0, .ref 126), (1, .int w1), (2, .int w2)]) (st' := []) (h' := (xs_H pt ps pg pr s)) (bc' := 0) (bs' := 0) (fun n g => (And.intro (fun q => absurd q c_11) (fun _ => (And.intro (fun _ => g) (fun q => absurd c_12 q))))) ?_
      exact mm_re (c := [(0, .ref 126)]) hK rfl rfl
    · have hf := mo_neg hf c_12
      obtain ⟨x_20, hl_20, hf⟩ := mo_bind hf
      refine mm_adv 9 (cs' := P_X0_settle.drop 52) (l' := [(3, .int (0 : Int32)), (1, .int (0 : Int32)), (0, .ref 126), (2, .int w2)]) (st' := []) (h' := (xs_H pt ps pg pr s)) (bc' := 0) (bs' := 0) (fun n g => (And.intro (fun q => absurd q c_11) (fun _ => (And.intro (fun q => absurd q c_12) (fun _ => g))))) ?_
      refine mm_re (l' := [(0, .ref 126), (1, .int (0 : Int32)), (2, .int w2), (3, .int (0 : Int32))]) (c := [(0, .ref 126), (1, .int (0 : Int32)), (2, .int w2), (3, .int (0 : Int32))]) ?_ rfl rfl
      refine xb_0_settle_l52 h_11_slopeOf h_0_decide (w2) ((0 : Int32), (0 : Int32), s) x_20 hl_20 ?_
      obtain ⟨e1_20, s_20⟩ := x_20
      obtain rfl := Option.some.inj hf
      refine mm_adv 2 (cs' := P_X0_settle.drop 43) (l' := [(2, .int (w2 + (1 : Int32))), (0, .ref 126), (1, .int e1_20)]) (st' := []) (h' := (xs_H pt ps pg pr s_20)) (bc' := 0) (bs' := 0) (fun n g => g) ?_
      exact mm_re (c := [(0, .ref 126), (1, .int e1_20), (2, .int (w2 + (1 : Int32)))]) hK rfl rfl
noncomputable def xf_0_settle (s : xs_S)  : Option (xs_S) :=
((mo_loop (xf_0_settle_l2 ) ((0 : Int32), s)).bind fun s_10 =>
((mo_loop (xf_0_settle_l43 ) ((1 : Int32), (1 : Int32), s_10)).bind fun s_21 =>
some (xs_sI s_21 2024 ((1 : Int32)))))
set_option maxHeartbeats 4000000 in
theorem xb_0_settle {C : mm_C} {Q : mm_R} {pt : Value} {ps : Value} {pg : Value} {pr : Value} (h_11_slopeOf : xk_11_slopeOf C) (h_0_decide : xk_0_decide C) (s : xs_S)  (s2 : xs_S) (hf : xf_0_settle s = some s2) (hK : Q (none) (xs_H pt ps pg pr s2)) : mm_go C mm_Mk mm_Fk P_X0_settle Q P_X0_settle [(0, .ref 126)] [] (xs_H pt ps pg pr s) 0 0 := by
  unfold xf_0_settle at hf
  obtain ⟨x_10, hl_10, hf⟩ := mo_bind hf
  refine mm_adv 2 (cs' := P_X0_settle.drop 2) (l' := [(1, .int (0 : Int32)), (0, .ref 126)]) (st' := []) (h' := (xs_H pt ps pg pr s)) (bc' := 0) (bs' := 0) (fun n g => g) ?_
  refine mm_re (l' := [(0, .ref 126), (1, .int (0 : Int32))]) (c := [(0, .ref 126), (1, .int (0 : Int32))]) ?_ rfl rfl
  refine xb_0_settle_l2 h_11_slopeOf h_0_decide  ((0 : Int32), s) x_10 hl_10 ?_
  obtain ⟨s_10, rfl⟩ : ∃ q, q = x_10 := ⟨_, rfl⟩
  obtain ⟨x_21, hl_21, hf⟩ := mo_bind hf
  refine mm_adv 4 (cs' := P_X0_settle.drop 43) (l' := [(2, .int (1 : Int32)), (1, .int (1 : Int32)), (0, .ref 126)]) (st' := []) (h' := (xs_H pt ps pg pr s_10)) (bc' := 0) (bs' := 0) (fun n g => g) ?_
  refine mm_re (l' := [(0, .ref 126), (1, .int (1 : Int32)), (2, .int (1 : Int32))]) (c := [(0, .ref 126), (1, .int (1 : Int32)), (2, .int (1 : Int32))]) ?_ rfl rfl
  refine xb_0_settle_l43 h_11_slopeOf h_0_decide  ((1 : Int32), (1 : Int32), s_10) x_21 hl_21 ?_
  obtain ⟨s_21, rfl⟩ : ∃ q, q = x_21 := ⟨_, rfl⟩
  obtain rfl := Option.some.inj hf
  exact ⟨4, (And.intro rfl hK)⟩
def xk_0_settle (C : mm_C) : Prop := ∀ (pt : Value) (ps : Value) (pg : Value) (pr : Value) (s : xs_S)  (s2 : xs_S) (Q : mm_R), xf_0_settle s = some s2 → Q (none) (xs_H pt ps pg pr s2) → C 133 [.ref 126] (xs_H pt ps pg pr s) Q
