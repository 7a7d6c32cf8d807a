/-! the class, method by method, 12 -/
-- 11_couples
noncomputable def xf_11_couples_j44 (s : xs_S) (v1 : Int32) (v2 : Int32) (v3 : Int32) (k0 : Int32) (k1 : Int32) (k2 : Int32) : Option ((Int32 × xs_S) ⊕ ((xs_S))) :=
((xf_4_allow s (k2) (k1) (k0)).bind fun s_7 =>
some (.inl ((v3 + (1 : Int32)), s_7)))
set_option maxHeartbeats 4000000 in
theorem xb_11_couples_j44 {C : mm_C} {Q : mm_R} {ps : Value} {pr : Value} (h_4_begin : xk_4_begin C) (h_11_calmOf : xk_11_calmOf C) (h_4_allow : xk_4_allow C) (h_4_match : xk_4_match C) (h_7_hasSpeaker_9 : xk_7_hasSpeaker_9 C) (s : xs_S) (v1 : Int32) (v2 : Int32) (v3 : Int32) (k0 : Int32) (k1 : Int32) (k2 : Int32) (r : (Int32 × xs_S) ⊕ ((xs_S))) (hf : xf_11_couples_j44 s v1 v2 v3 k0 k1 k2 = some r) (hK : mo_sum (mo_c2 (fun y3 sy => mm_go C mm_Mk mm_Fk P_X11_couples Q (P_X11_couples.drop 27) [(0, .ref 0), (1, .int v1), (2, .int v2), (3, .int y3)] [] (xs_H (.ref 9) ps (.ref 9) pr sy) 0 0))  (fun sy => mm_go C mm_Mk mm_Fk P_X11_couples Q (P_X11_couples.drop 47) [(0, .ref 0), (1, .int v1), (2, .int v2)] [] (xs_H (.ref 9) ps (.ref 9) pr sy) 0 0)  r) : mm_go C mm_Mk mm_Fk P_X11_couples Q (P_X11_couples.drop 44) [(0, .ref 0), (1, .int v1), (2, .int v2), (3, .int v3)] [.int k0, .int k1, .int k2, .ref 134] (xs_H (.ref 9) ps (.ref 9) pr s) 0 0 := by
  unfold xf_11_couples_j44 at hf
  obtain ⟨s_7, hr_7, hf⟩ := mo_bind hf
  obtain rfl := Option.some.inj hf
  refine mm_adv 3 (cs' := P_X11_couples.drop 27) (l' := [(3, .int (v3 + (1 : Int32))), (0, .ref 0), (1, .int v1), (2, .int v2)]) (st' := []) (h' := (xs_H (.ref 9) ps (.ref 9) pr s_7)) (bc' := 0) (bs' := 0) (fun n g => (h_4_allow (.ref 9) ps (.ref 9) pr s (k2) (k1) (k0) s_7 _ hr_7 g)) ?_
  exact mm_re (c := [(0, .ref 0), (1, .int v1), (2, .int v2), (3, .int (v3 + (1 : Int32)))]) hK rfl rfl
noncomputable def xf_11_couples_l27 (v1 : Int32) (v2 : Int32) : (Int32 × xs_S) → Option ((Int32 × xs_S) ⊕ ((xs_S))) := fun (w3, s) =>
(if (s.1 147) ≤ w3 then
some (.inr (s))
else
((xf_11_calmOf s (v2) (w3)).bind fun (v_5, s_5) =>
(if v_5 = (0 : Int32) then
(xf_11_couples_j44 (s_5) (v1) (v2) (w3) ((1 : Int32)) (w3) (v2))
else
(xf_11_couples_j44 (s_5) (v1) (v2) (w3) ((0 : Int32)) (w3) (v2)))))
set_option maxHeartbeats 4000000 in
theorem xb_11_couples_l27 {C : mm_C} {Q : mm_R} {ps : Value} {pr : Value} (h_4_begin : xk_4_begin C) (h_11_calmOf : xk_11_calmOf C) (h_4_allow : xk_4_allow C) (h_4_match : xk_4_match C) (h_7_hasSpeaker_9 : xk_7_hasSpeaker_9 C) (v1 : Int32) (v2 : Int32) (t : Int32 × xs_S) (x : (xs_S)) (hl : mo_loop (xf_11_couples_l27 v1 v2) t = some x) (hK : (fun sy => mm_go C mm_Mk mm_Fk P_X11_couples Q (P_X11_couples.drop 47) [(0, .ref 0), (1, .int v1), (2, .int v2)] [] (xs_H (.ref 9) ps (.ref 9) pr sy) 0 0) x) : (mo_c2 (fun y3 sy => mm_go C mm_Mk mm_Fk P_X11_couples Q (P_X11_couples.drop 27) [(0, .ref 0), (1, .int v1), (2, .int v2), (3, .int y3)] [] (xs_H (.ref 9) ps (.ref 9) pr sy) 0 0)) t := by
  refine mo_loop_go (G := (mo_c2 (fun y3 sy => mm_go C mm_Mk mm_Fk P_X11_couples Q (P_X11_couples.drop 27) [(0, .ref 0), (1, .int v1), (2, .int v2), (3, .int y3)] [] (xs_H (.ref 9) ps (.ref 9) pr sy) 0 0)) ) (K := (fun sy => mm_go C mm_Mk mm_Fk P_X11_couples Q (P_X11_couples.drop 47) [(0, .ref 0), (1, .int v1), (2, .int v2)] [] (xs_H (.ref 9) ps (.ref 9) pr sy) 0 0) ) ?_ t x hl hK
  intro t r hf hK
  obtain ⟨w3, s⟩ := t
  unfold xf_11_couples_l27 at hf
  by_cases c_4 : (s.1 147) ≤ w3
  · have hf := mo_pos hf c_4
    obtain rfl := Option.some.inj hf
    refine mm_adv 5 (cs' := P_X11_couples.drop 47) (l' := [(0, .ref 0), (1, .int v1), (2, .int v2), (3, .int w3)]) (st' := []) (h' := (xs_H (.ref 9) ps (.ref 9) pr s)) (bc' := 0) (bs' := 0) (fun n g => (And.intro (fun _ => g) (fun q => absurd c_4 q))) ?_
    exact mm_re (c := [(0, .ref 0), (1, .int v1), (2, .int v2)]) hK rfl rfl
  · have hf := mo_neg hf c_4
    obtain ⟨r_5, hr_5, hf⟩ := mo_bind hf
    obtain ⟨v_5, s_5⟩ := r_5
    by_cases c_6 : v_5 = (0 : Int32)
    · have hf := mo_pos hf c_6
      refine mm_adv 16 (cs' := P_X11_couples.drop 44) (l' := [(0, .ref 0), (1, .int v1), (2, .int v2), (3, .int w3)]) (st' := [.int (1 : Int32), .int w3, .int v2, .ref 134]) (h' := (xs_H (.ref 9) ps (.ref 9) pr s_5)) (bc' := 0) (bs' := 0) (fun n g => (And.intro (fun q => absurd q c_4) (fun _ => (h_11_calmOf ps pr s (v2) (w3) v_5 s_5 _ hr_5 (And.intro (fun q => absurd c_6 q) (fun _ => g)))))) ?_
      refine mm_re (l' := [(0, .ref 0), (1, .int v1), (2, .int v2), (3, .int w3)]) (c := [(0, .ref 0), (1, .int v1), (2, .int v2), (3, .int w3)]) ?_ rfl rfl
      exact xb_11_couples_j44 h_4_begin h_11_calmOf h_4_allow h_4_match h_7_hasSpeaker_9 s_5 (v1) (v2) (w3) ((1 : Int32)) (w3) (v2) _ hf hK
    · have hf := mo_neg hf c_6
      refine mm_adv 15 (cs' := P_X11_couples.drop 44) (l' := [(0, .ref 0), (1, .int v1), (2, .int v2), (3, .int w3)]) (st' := [.int (0 : Int32), .int w3, .int v2, .ref 134]) (h' := (xs_H (.ref 9) ps (.ref 9) pr s_5)) (bc' := 0) (bs' := 0) (fun n g => (And.intro (fun q => absurd q c_4) (fun _ => (h_11_calmOf ps pr s (v2) (w3) v_5 s_5 _ hr_5 (And.intro (fun _ => g) (fun q => absurd c_6 q)))))) ?_
      refine mm_re (l' := [(0, .ref 0), (1, .int v1), (2, .int v2), (3, .int w3)]) (c := [(0, .ref 0), (1, .int v1), (2, .int v2), (3, .int w3)]) ?_ rfl rfl
      exact xb_11_couples_j44 h_4_begin h_11_calmOf h_4_allow h_4_match h_7_hasSpeaker_9 s_5 (v1) (v2) (w3) ((0 : Int32)) (w3) (v2) _ hf hK
noncomputable def xf_11_couples_l18 (v1 : Int32) : (Int32 × xs_S) → Option ((Int32 × xs_S) ⊕ ((xs_S))) := fun (w2, s) =>
(if (s.1 147) ≤ w2 then
some (.inr (s))
else
((mo_loop (xf_11_couples_l27 (v1) (w2)) ((w2 + (1 : Int32)), s)).bind fun s_8 =>
some (.inl ((w2 + (1 : Int32)), s_8))))
set_option maxHeartbeats 4000000 in
theorem xb_11_couples_l18 {C : mm_C} {Q : mm_R} {ps : Value} {pr : Value} (h_4_begin : xk_4_begin C) (h_11_calmOf : xk_11_calmOf C) (h_4_allow : xk_4_allow C) (h_4_match : xk_4_match C) (h_7_hasSpeaker_9 : xk_7_hasSpeaker_9 C) (v1 : Int32) (t : Int32 × xs_S) (x : (xs_S)) (hl : mo_loop (xf_11_couples_l18 v1) t = some x) (hK : (fun sy => mm_go C mm_Mk mm_Fk P_X11_couples Q (P_X11_couples.drop 49) [(0, .ref 0), (1, .int v1)] [] (xs_H (.ref 9) ps (.ref 9) pr sy) 0 0) x) : (mo_c2 (fun y2 sy => mm_go C mm_Mk mm_Fk P_X11_couples Q (P_X11_couples.drop 18) [(0, .ref 0), (1, .int v1), (2, .int y2)] [] (xs_H (.ref 9) ps (.ref 9) pr sy) 0 0)) t := by
  refine mo_loop_go (G := (mo_c2 (fun y2 sy => mm_go C mm_Mk mm_Fk P_X11_couples Q (P_X11_couples.drop 18) [(0, .ref 0), (1, .int v1), (2, .int y2)] [] (xs_H (.ref 9) ps (.ref 9) pr sy) 0 0)) ) (K := (fun sy => mm_go C mm_Mk mm_Fk P_X11_couples Q (P_X11_couples.drop 49) [(0, .ref 0), (1, .int v1)] [] (xs_H (.ref 9) ps (.ref 9) pr sy) 0 0) ) ?_ t x hl hK
  intro t r hf hK
  obtain ⟨w2, s⟩ := t
  unfold xf_11_couples_l18 at hf
  by_cases c_3 : (s.1 147) ≤ w2
  · have hf := mo_pos hf c_3
    obtain rfl := Option.some.inj hf
    refine mm_adv 5 (cs' := P_X11_couples.drop 49) (l' := [(0, .ref 0), (1, .int v1), (2, .int w2)]) (st' := []) (h' := (xs_H (.ref 9) ps (.ref 9) pr s)) (bc' := 0) (bs' := 0) (fun n g => (And.intro (fun _ => g) (fun q => absurd c_3 q))) ?_
    exact mm_re (c := [(0, .ref 0), (1, .int v1)]) hK rfl rfl
  · have hf := mo_neg hf c_3
    obtain ⟨x_8, hl_8, hf⟩ := mo_bind hf
    refine mm_adv 9 (cs' := P_X11_couples.drop 27) (l' := [(3, .int (w2 + (1 : Int32))), (0, .ref 0), (1, .int v1), (2, .int w2)]) (st' := []) (h' := (xs_H (.ref 9) ps (.ref 9) pr s)) (bc' := 0) (bs' := 0) (fun n g => (And.intro (fun q => absurd q c_3) (fun _ => g))) ?_
    refine mm_re (l' := [(0, .ref 0), (1, .int v1), (2, .int w2), (3, .int (w2 + (1 : Int32)))]) (c := [(0, .ref 0), (1, .int v1), (2, .int w2), (3, .int (w2 + (1 : Int32)))]) ?_ rfl rfl
    refine xb_11_couples_l27 h_4_begin h_11_calmOf h_4_allow h_4_match h_7_hasSpeaker_9 (v1) (w2) ((w2 + (1 : Int32)), s) x_8 hl_8 ?_
    obtain ⟨s_8, rfl⟩ : ∃ q, q = x_8 := ⟨_, rfl⟩
    obtain rfl := Option.some.inj hf
    refine mm_adv 2 (cs' := P_X11_couples.drop 18) (l' := [(2, .int (w2 + (1 : Int32))), (0, .ref 0), (1, .int v1)]) (st' := []) (h' := (xs_H (.ref 9) ps (.ref 9) pr s_8)) (bc' := 0) (bs' := 0) (fun n g => g) ?_
    exact mm_re (c := [(0, .ref 0), (1, .int v1), (2, .int (w2 + (1 : Int32)))]) hK rfl rfl
noncomputable def xf_11_couples_j10 (s : xs_S) (v1 : Int32) : Option (Int32 × xs_S) :=
((xf_4_begin s ((s.1 147))).bind fun s_2 =>
((mo_loop (xf_11_couples_l18 (v1)) ((0 : Int32), s_2)).bind fun s_9 =>
((xf_4_match s_9 ).bind fun s_10 =>
(if v1 = (-1 : Int32) then
some ((s_10.1 2148), s_10)
else
((mo_ag 5 (s_10.2.1 137) v1).bind fun x_12 =>
some (x_12, s_10))))))
set_option maxHeartbeats 4000000 in
theorem xb_11_couples_j10 {C : mm_C} {Q : mm_R} {ps : Value} {pr : Value} (h_4_begin : xk_4_begin C) (h_11_calmOf : xk_11_calmOf C) (h_4_allow : xk_4_allow C) (h_4_match : xk_4_match C) (h_7_hasSpeaker_9 : xk_7_hasSpeaker_9 C) (s : xs_S) (v1 : Int32) (v : Int32) (s2 : xs_S) (hf : xf_11_couples_j10 s v1 = some (v, s2)) (hK : Q (some (.int v)) (xs_H (.ref 9) ps (.ref 9) pr s2)) : mm_go C mm_Mk mm_Fk P_X11_couples Q (P_X11_couples.drop 10) [(0, .ref 0), (1, .int v1)] [] (xs_H (.ref 9) ps (.ref 9) pr s) 0 0 := by
  unfold xf_11_couples_j10 at hf
  obtain ⟨s_2, hr_2, hf⟩ := mo_bind hf
  obtain ⟨x_9, hl_9, hf⟩ := mo_bind hf
  refine mm_adv 8 (cs' := P_X11_couples.drop 18) (l' := [(2, .int (0 : Int32)), (0, .ref 0), (1, .int v1)]) (st' := []) (h' := (xs_H (.ref 9) ps (.ref 9) pr s_2)) (bc' := 0) (bs' := 0) (fun n g => (h_4_begin (.ref 9) ps (.ref 9) pr s ((s.1 147)) s_2 _ hr_2 g)) ?_
  refine mm_re (l' := [(0, .ref 0), (1, .int v1), (2, .int (0 : Int32))]) (c := [(0, .ref 0), (1, .int v1), (2, .int (0 : Int32))]) ?_ rfl rfl
  refine xb_11_couples_l18 h_4_begin h_11_calmOf h_4_allow h_4_match h_7_hasSpeaker_9 (v1) ((0 : Int32), s_2) x_9 hl_9 ?_
  obtain ⟨s_9, rfl⟩ : ∃ q, q = x_9 := ⟨_, rfl⟩
  obtain ⟨s_10, hr_10, hf⟩ := mo_bind hf
  by_cases c_11 : v1 = (-1 : Int32)
  · have hf := mo_pos hf c_11
    obtain ⟨rfl, rfl⟩ := mo_pair hf
    exact ⟨11, (h_4_match (.ref 9) ps (.ref 9) pr s_9  s_10 _ hr_10 (And.intro (fun q => absurd c_11 q) (fun _ => hK)))⟩
  · have hf := mo_neg hf c_11
    obtain ⟨x_12, hx_12, hf⟩ := mo_bind hf
    obtain ⟨hi_12, rfl⟩ := mo_ag_inv hx_12
    obtain ⟨rfl, rfl⟩ := mo_pair hf
    exact ⟨12, (h_4_match (.ref 9) ps (.ref 9) pr s_9  s_10 _ hr_10 (And.intro (fun _ => (And.intro hi_12 hK)) (fun q => absurd c_11 q)))⟩
noncomputable def xf_11_couples (s : xs_S) (a0 : Int32) : Option (Int32 × xs_S) :=
(if a0 = (-1 : Int32) then
(xf_11_couples_j10 (s) (a0))
else
((xf_7_hasSpeaker_9 s (a0)).bind fun (v_13, s_13) =>
(if v_13 = (0 : Int32) then
some ((-1 : Int32), s_13)
else
(xf_11_couples_j10 (s_13) (a0)))))
set_option maxHeartbeats 4000000 in
theorem xb_11_couples {C : mm_C} {Q : mm_R} {ps : Value} {pr : Value} (h_4_begin : xk_4_begin C) (h_11_calmOf : xk_11_calmOf C) (h_4_allow : xk_4_allow C) (h_4_match : xk_4_match C) (h_7_hasSpeaker_9 : xk_7_hasSpeaker_9 C) (s : xs_S) (a0 : Int32) (v : Int32) (s2 : xs_S) (hf : xf_11_couples s a0 = some (v, s2)) (hK : Q (some (.int v)) (xs_H (.ref 9) ps (.ref 9) pr s2)) : mm_go C mm_Mk mm_Fk P_X11_couples Q P_X11_couples [(0, .ref 0), (1, .int a0)] [] (xs_H (.ref 9) ps (.ref 9) pr s) 0 0 := by
  unfold xf_11_couples at hf
  by_cases c_1 : a0 = (-1 : Int32)
  · have hf := mo_pos hf c_1
    refine mm_adv 3 (cs' := P_X11_couples.drop 10) (l' := [(0, .ref 0), (1, .int a0)]) (st' := []) (h' := (xs_H (.ref 9) ps (.ref 9) pr s)) (bc' := 0) (bs' := 0) (fun n g => (And.intro (fun _ => g) (fun q => absurd c_1 q))) ?_
    refine mm_re (l' := [(0, .ref 0), (1, .int a0)]) (c := [(0, .ref 0), (1, .int a0)]) ?_ rfl rfl
    exact xb_11_couples_j10 h_4_begin h_11_calmOf h_4_allow h_4_match h_7_hasSpeaker_9 s (a0) _ _ hf hK
  · have hf := mo_neg hf c_1
    obtain ⟨r_13, hr_13, hf⟩ := mo_bind hf
    obtain ⟨v_13, s_13⟩ := r_13
    by_cases c_14 : v_13 = (0 : Int32)
    · have hf := mo_pos hf c_14
      obtain ⟨rfl, rfl⟩ := mo_pair hf
      exact ⟨10, (And.intro (fun q => absurd q c_1) (fun _ => (h_7_hasSpeaker_9 (.ref 9) ps (.ref 9) pr s (a0) v_13 s_13 _ hr_13 (And.intro (fun q => absurd c_14 q) (fun _ => hK)))))⟩
    · have hf := mo_neg hf c_14
      refine mm_adv 8 (cs' := P_X11_couples.drop 10) (l' := [(0, .ref 0), (1, .int a0)]) (st' := []) (h' := (xs_H (.ref 9) ps (.ref 9) pr s_13)) (bc' := 0) (bs' := 0) (fun n g => (And.intro (fun q => absurd q c_1) (fun _ => (h_7_hasSpeaker_9 (.ref 9) ps (.ref 9) pr s (a0) v_13 s_13 _ hr_13 (And.intro (fun _ => g) (fun q => absurd c_14 q)))))) ?_
      refine mm_re (l' := [(0, .ref 0), (1, .int a0)]) (c := [(0, .ref 0), (1, .int a0)]) ?_ rfl rfl
      exact xb_11_couples_j10 h_4_begin h_11_calmOf h_4_allow h_4_match h_7_hasSpeaker_9 s_13 (a0) _ _ hf hK
def xk_11_couples (C : mm_C) : Prop := ∀ (ps : Value) (pr : Value) (s : xs_S) (a0 : Int32) (v : Int32) (s2 : xs_S) (Q : mm_R), xf_11_couples s a0 = some (v, s2) → Q (some (.int v)) (xs_H (.ref 9) ps (.ref 9) pr s2) → C 250 [.ref 0, .int a0] (xs_H (.ref 9) ps (.ref 9) pr s) Q
-- 11_cheapest
noncomputable def xf_11_cheapest_j52 (s : xs_S) (v1 : Int32) (v2 : Int32) (v3 : Int32) (v4 : Int32) (v5 : Int32) : Option ((Int32 × Int32 × Int32 × xs_S) ⊕ ((Int32 × Int32 × xs_S))) :=
some (.inl (v2, v3, (v5 + (1 : Int32)), s))
set_option maxHeartbeats 4000000 in
theorem xb_11_cheapest_j52 {C : mm_C} {Q : mm_R} {ps : Value} {pr : Value} (h_7_wagesOfBoth_9 : xk_7_wagesOfBoth_9 C) (h_11_calmOf : xk_11_calmOf C) (s : xs_S) (v1 : Int32) (v2 : Int32) (v3 : Int32) (v4 : Int32) (v5 : Int32) (r : (Int32 × Int32 × Int32 × xs_S) ⊕ ((Int32 × Int32 × xs_S))) (hf : xf_11_cheapest_j52 s v1 v2 v3 v4 v5 = some r) (hK : mo_sum (mo_c2 (fun y2 => (mo_c2 (fun y3 => (mo_c2 (fun y5 sy => mm_go C mm_Mk mm_Fk P_X11_cheapest Q (P_X11_cheapest.drop 22) [(0, .ref 0), (1, .int v1), (2, .int y2), (3, .int y3), (4, .int v4), (5, .int y5)] [] (xs_H (.ref 9) ps (.ref 9) pr sy) 0 0))))))  (mo_c2 (fun y2 => (mo_c2 (fun y3 sy => mm_go C mm_Mk mm_Fk P_X11_cheapest Q (P_X11_cheapest.drop 54) [(0, .ref 0), (1, .int v1), (2, .int y2), (3, .int y3), (4, .int v4)] [] (xs_H (.ref 9) ps (.ref 9) pr sy) 0 0))))  r) : mm_go C mm_Mk mm_Fk P_X11_cheapest Q (P_X11_cheapest.drop 52) [(0, .ref 0), (1, .int v1), (2, .int v2), (3, .int v3), (4, .int v4), (5, .int v5)] [] (xs_H (.ref 9) ps (.ref 9) pr s) 0 0 := by
  unfold xf_11_cheapest_j52 at hf
  obtain rfl := Option.some.inj hf
  refine mm_adv 2 (cs' := P_X11_cheapest.drop 22) (l' := [(5, .int (v5 + (1 : Int32))), (0, .ref 0), (1, .int v1), (2, .int v2), (3, .int v3), (4, .int v4)]) (st' := []) (h' := (xs_H (.ref 9) ps (.ref 9) pr s)) (bc' := 0) (bs' := 0) (fun n g => g) ?_
  exact mm_re (c := [(0, .ref 0), (1, .int v1), (2, .int v2), (3, .int v3), (4, .int v4), (5, .int (v5 + (1 : Int32)))]) hK rfl rfl
noncomputable def xf_11_cheapest_j39 (s : xs_S) (v1 : Int32) (v2 : Int32) (v3 : Int32) (v4 : Int32) (v5 : Int32) (v6 : Int32) : Option ((Int32 × Int32 × Int32 × xs_S) ⊕ ((Int32 × Int32 × xs_S))) :=
((xf_11_calmOf s (v4) (v5)).bind fun (v_6, s_6) =>
(if v_6 = (0 : Int32) then
(xf_11_cheapest_j52 (s_6) (v1) ((((10 : Int32) * v4) + v5)) (v6) (v4) (v5))
else
(xf_11_cheapest_j52 (s_6) (v1) (v2) (v3) (v4) (v5))))
set_option maxHeartbeats 4000000 in
theorem xb_11_cheapest_j39 {C : mm_C} {Q : mm_R} {ps : Value} {pr : Value} (h_7_wagesOfBoth_9 : xk_7_wagesOfBoth_9 C) (h_11_calmOf : xk_11_calmOf C) (s : xs_S) (v1 : Int32) (v2 : Int32) (v3 : Int32) (v4 : Int32) (v5 : Int32) (v6 : Int32) (r : (Int32 × Int32 × Int32 × xs_S) ⊕ ((Int32 × Int32 × xs_S))) (hf : xf_11_cheapest_j39 s v1 v2 v3 v4 v5 v6 = some r) (hK : mo_sum (mo_c2 (fun y2 => (mo_c2 (fun y3 => (mo_c2 (fun y5 sy => mm_go C mm_Mk mm_Fk P_X11_cheapest Q (P_X11_cheapest.drop 22) [(0, .ref 0), (1, .int v1), (2, .int y2), (3, .int y3), (4, .int v4), (5, .int y5)] [] (xs_H (.ref 9) ps (.ref 9) pr sy) 0 0))))))  (mo_c2 (fun y2 => (mo_c2 (fun y3 sy => mm_go C mm_Mk mm_Fk P_X11_cheapest Q (P_X11_cheapest.drop 54) [(0, .ref 0), (1, .int v1), (2, .int y2), (3, .int y3), (4, .int v4)] [] (xs_H (.ref 9) ps (.ref 9) pr sy) 0 0))))  r) : mm_go C mm_Mk mm_Fk P_X11_cheapest Q (P_X11_cheapest.drop 39) [(0, .ref 0), (1, .int v1), (2, .int v2), (3, .int v3), (4, .int v4), (5, .int v5), (6, .int v6)] [] (xs_H (.ref 9) ps (.ref 9) pr s) 0 0 := by
  unfold xf_11_cheapest_j39 at hf
  obtain ⟨r_6, hr_6, hf⟩ := mo_bind hf
  obtain ⟨v_6, s_6⟩ := r_6
  by_cases c_7 : v_6 = (0 : Int32)
  · have hf := mo_pos hf c_7
    refine mm_adv 13 (cs' := P_X11_cheapest.drop 52) (l' := [(3, .int v6), (2, .int (((10 : Int32) * v4) + v5)), (0, .ref 0), (1, .int v1), (4, .int v4), (5, .int v5), (6, .int v6)]) (st' := []) (h' := (xs_H (.ref 9) ps (.ref 9) pr s_6)) (bc' := 0) (bs' := 0) (fun n g => (h_11_calmOf ps pr s (v4) (v5) v_6 s_6 _ hr_6 (And.intro (fun q => absurd c_7 q) (fun _ => g)))) ?_
    refine mm_re (l' := [(0, .ref 0), (1, .int v1), (2, .int (((10 : Int32) * v4) + v5)), (3, .int v6), (4, .int v4), (5, .int v5)]) (c := [(0, .ref 0), (1, .int v1), (2, .int (((10 : Int32) * v4) + v5)), (3, .int v6), (4, .int v4), (5, .int v5)]) ?_ rfl rfl
    exact xb_11_cheapest_j52 h_7_wagesOfBoth_9 h_11_calmOf s_6 (v1) ((((10 : Int32) * v4) + v5)) (v6) (v4) (v5) _ hf hK
  · have hf := mo_neg hf c_7
    refine mm_adv 5 (cs' := P_X11_cheapest.drop 52) (l' := [(0, .ref 0), (1, .int v1), (2, .int v2), (3, .int v3), (4, .int v4), (5, .int v5), (6, .int v6)]) (st' := []) (h' := (xs_H (.ref 9) ps (.ref 9) pr s_6)) (bc' := 0) (bs' := 0) (fun n g => (h_11_calmOf ps pr s (v4) (v5) v_6 s_6 _ hr_6 (And.intro (fun _ => g) (fun q => absurd c_7 q)))) ?_
    refine mm_re (l' := [(0, .ref 0), (1, .int v1), (2, .int v2), (3, .int v3), (4, .int v4), (5, .int v5)]) (c := [(0, .ref 0), (1, .int v1), (2, .int v2), (3, .int v3), (4, .int v4), (5, .int v5)]) ?_ rfl rfl
    exact xb_11_cheapest_j52 h_7_wagesOfBoth_9 h_11_calmOf s_6 (v1) (v2) (v3) (v4) (v5) _ hf hK
noncomputable def xf_11_cheapest_l22 (v1 : Int32) (v4 : Int32) : (Int32 × Int32 × Int32 × xs_S) → Option ((Int32 × Int32 × Int32 × xs_S) ⊕ ((Int32 × Int32 × xs_S))) := fun (w2, w3, w5, s) =>
(if (s.1 147) ≤ w5 then
some (.inr (w2, w3, s))
else
((xf_7_wagesOfBoth_9 s (v4) (w5)).bind fun (v_4, s_4) =>
(if w2 = (-2 : Int32) then
(xf_11_cheapest_j39 (s_4) (v1) (w2) (w3) (v4) (w5) (v_4))
else
(if w3 ≤ v_4 then
(xf_11_cheapest_j52 (s_4) (v1) (w2) (w3) (v4) (w5))
else
(xf_11_cheapest_j39 (s_4) (v1) (w2) (w3) (v4) (w5) (v_4))))))
set_option maxHeartbeats 4000000 in
theorem xb_11_cheapest_l22 {C : mm_C} {Q : mm_R} {ps : Value} {pr : Value} (h_7_wagesOfBoth_9 : xk_7_wagesOfBoth_9 C) (h_11_calmOf : xk_11_calmOf C) (v1 : Int32) (v4 : Int32) (t : Int32 × Int32 × Int32 × xs_S) (x : (Int32 × Int32 × xs_S)) (hl : mo_loop (xf_11_cheapest_l22 v1 v4) t = some x) (hK : (mo_c2 (fun y2 => (mo_c2 (fun y3 sy => mm_go C mm_Mk mm_Fk P_X11_cheapest Q (P_X11_cheapest.drop 54) [(0, .ref 0), (1, .int v1), (2, .int y2), (3, .int y3), (4, .int v4)] [] (xs_H (.ref 9) ps (.ref 9) pr sy) 0 0)))) x) : (mo_c2 (fun y2 => (mo_c2 (fun y3 => (mo_c2 (fun y5 sy => mm_go C mm_Mk mm_Fk P_X11_cheapest Q (P_X11_cheapest.drop 22) [(0, .ref 0), (1, .int v1), (2, .int y2), (3, .int y3), (4, .int v4), (5, .int y5)] [] (xs_H (.ref 9) ps (.ref 9) pr sy) 0 0)))))) t := by
  refine mo_loop_go (G := (mo_c2 (fun y2 => (mo_c2 (fun y3 => (mo_c2 (fun y5 sy => mm_go C mm_Mk mm_Fk P_X11_cheapest Q (P_X11_cheapest.drop 22) [(0, .ref 0), (1, .int v1), (2, .int y2), (3, .int y3), (4, .int v4), (5, .int y5)] [] (xs_H (.ref 9) ps (.ref 9) pr sy) 0 0)))))) ) (K := (mo_c2 (fun y2 => (mo_c2 (fun y3 sy => mm_go C mm_Mk mm_Fk P_X11_cheapest Q (P_X11_cheapest.drop 54) [(0, .ref 0), (1, .int v1), (2, .int y2), (3, .int y3), (4, .int v4)] [] (xs_H (.ref 9) ps (.ref 9) pr sy) 0 0)))) ) ?_ t x hl hK
  intro t r hf hK
  obtain ⟨w2, w3, w5, s⟩ := t
  unfold xf_11_cheapest_l22 at hf
  by_cases c_3 : (s.1 147) ≤ w5
  · have hf := mo_pos hf c_3
    obtain rfl := Option.some.inj hf
    refine mm_adv 5 (cs' := P_X11_cheapest.drop 54) (l' := [(0, .ref 0), (1, .int v1), (2, .int w2), (3, .int w3), (4, .int v4), (5, .int w5)]) (st' := []) (h' := (xs_H (.ref 9) ps (.ref 9) pr s)) (bc' := 0) (bs' := 0) (fun n g => (And.intro (fun _ => g) (fun q => absurd c_3 q))) ?_
    exact mm_re (c := [(0, .ref 0), (1, .int v1), (2, .int w2), (3, .int w3), (4, .int v4)]) hK rfl rfl
  · have hf := mo_neg hf c_3
    obtain ⟨r_4, hr_4, hf⟩ := mo_bind hf
    obtain ⟨v_4, s_4⟩ := r_4
    by_cases c_5 : w2 = (-2 : Int32)
    · have hf := mo_pos hf c_5
      refine mm_adv 14 (cs' := P_X11_cheapest.drop 39) (l' := [(6, .int v_4), (0, .ref 0), (1, .int v1), (2, .int w2), (3, .int w3), (4, .int v4), (5, .int w5)]) (st' := []) (h' := (xs_H (.ref 9) ps (.ref 9) pr s_4)) (bc' := 0) (bs' := 0) (fun n g => (And.intro (fun q => absurd q c_3) (fun _ => (h_7_wagesOfBoth_9 (.ref 9) ps (.ref 9) pr s (v4) (w5) v_4 s_4 _ hr_4 (And.intro (fun _ => g) (fun q => absurd c_5 q)))))) ?_
      refine mm_re (l' := [(0, .ref 0), (1, .int v1), (2, .int w2), (3, .int w3), (4, .int v4), (5, .int w5), (6, .int v_4)]) (c := [(0, .ref 0), (1, .int v1), (2, .int w2), (3, .int w3), (4, .int v4), (5, .int w5), (6, .int v_4)]) ?_ rfl rfl
      exact xb_11_cheapest_j39 h_7_wagesOfBoth_9 h_11_calmOf s_4 (v1) (w2) (w3) (v4) (w5) (v_4) _ hf hK
    · have hf := mo_neg hf c_5
      by_cases c_8 : w3 ≤ v_4
      · have hf := mo_pos hf c_8
        refine mm_adv 17 (cs' := P_X11_cheapest.drop 52) (l' := [(6, .int v_4), (0, .ref 0), (1, .int v1), (2, .int w2), (3, .int w3), (4, .int v4), (5, .int w5)]) (st' := []) (h' := (xs_H (.ref 9) ps (.ref 9) pr s_4)) (bc' := 0) (bs' := 0) (fun n g => (And.intro (fun q => absurd q c_3) (fun _ => (h_7_wagesOfBoth_9 (.ref 9) ps (.ref 9) pr s (v4) (w5) v_4 s_4 _ hr_4 (And.intro (fun q => absurd q c_5) (fun _ => (And.intro (fun _ => g) (fun q => absurd c_8 q)))))))) ?_
        refine mm_re (l' := [(0, .ref 0), (1, .int v1), (2, .int w2), (3, .int w3), (4, .int v4), (5, .int w5)]) (c := [(0, .ref 0), (1, .int v1), (2, .int w2), (3, .int w3), (4, .int v4), (5, .int w5)]) ?_ rfl rfl
        exact xb_11_cheapest_j52 h_7_wagesOfBoth_9 h_11_calmOf s_4 (v1) (w2) (w3) (v4) (w5) _ hf hK
      · have hf := mo_neg hf c_8
        refine mm_adv 17 (cs' := P_X11_cheapest.drop 39) (l' := [(6, .int v_4), (0, .ref 0), (1, .int v1), (2, .int w2), (3, .int w3), (4, .int v4), (5, .int w5)]) (st' := []) (h' := (xs_H (.ref 9) ps (.ref 9) pr s_4)) (bc' := 0) (bs' := 0) (fun n g => (And.intro (fun q => absurd q c_3) (fun _ => (h_7_wagesOfBoth_9 (.ref 9) ps (.ref 9) pr s (v4) (w5) v_4 s_4 _ hr_4 (And.intro (fun q => absurd q c_5) (fun _ => (And.intro (fun q => absurd q c_8) (fun _ => g)))))))) ?_
        refine mm_re (l' := [(0, .ref 0), (1, .int v1), (2, .int w2), (3, .int w3), (4, .int v4), (5, .int w5), (6, .int v_4)]) (c := [(0, .ref 0), (1, .int v1), (2, .int w2), (3, .int w3), (4, .int v4), (5, .int w5), (6, .int v_4)]) ?_ rfl rfl
        exact xb_11_cheapest_j39 h_7_wagesOfBoth_9 h_11_calmOf s_4 (v1) (w2) (w3) (v4) (w5) (v_4) _ hf hK
noncomputable def xf_11_cheapest_l13 (v1 : Int32) : (Int32 × Int32 × Int32 × xs_S) → Option ((Int32 × Int32 × Int32 × xs_S) ⊕ ((Int32 × Int32 × xs_S))) := fun (w2, w3, w4, s) =>
(if (s.1 147) ≤ w4 then
some (.inr (w2, w3, s))
else
((mo_loop (xf_11_cheapest_l22 (v1) (w4)) (w2, w3, (w4 + (1 : Int32)), s)).bind fun (e2_9, e3_9, s_9) =>
some (.inl (e2_9, e3_9, (w4 + (1 : Int32)), s_9))))
set_option maxHeartbeats 4000000 in
theorem xb_11_cheapest_l13 {C : mm_C} {Q : mm_R} {ps : Value} {pr : Value} (h_7_wagesOfBoth_9 : xk_7_wagesOfBoth_9 C) (h_11_calmOf : xk_11_calmOf C) (v1 : Int32) (t : Int32 × Int32 × Int32 × xs_S) (x : (Int32 × Int32 × xs_S)) (hl : mo_loop (xf_11_cheapest_l13 v1) t = some x) (hK : (mo_c2 (fun y2 => (mo_c2 (fun y3 sy => mm_go C mm_Mk mm_Fk P_X11_cheapest Q (P_X11_cheapest.drop 56) [(1, .int v1), (2, .int y2), (3, .int y3)] [] (xs_H (.ref 9) ps (.ref 9) pr sy) 0 0)))) x) : (mo_c2 (fun y2 => (mo_c2 (fun y3 => (mo_c2 (fun y4 sy => mm_go C mm_Mk mm_Fk P_X11_cheapest Q (P_X11_cheapest.drop 13) [(0, .ref 0), (1, .int v1), (2, .int y2), (3, .int y3), (4, .int y4)] [] (xs_H (.ref 9) ps (.ref 9) pr sy) 0 0)))))) t := by
  refine mo_loop_go (G := (mo_c2 (fun y2 => (mo_c2 (fun y3 => (mo_c2 (fun y4 sy => mm_go C mm_Mk mm_Fk P_X11_cheapest Q (P_X11_cheapest.drop 13) [(0, .ref 0), (1, .int v1), (2, .int y2), (3, .int y3), (4, .int y4)] [] (xs_H (.ref 9) ps (.ref 9) pr sy) 0 0)))))) ) (K := (mo_c2 (fun y2 => (mo_c2 (fun y3 sy => mm_go C mm_Mk mm_Fk P_X11_cheapest Q (P_X11_cheapest.drop 56) [(1, .int v1), (2, .int y2), (3, .int y3)] [] (xs_H (.ref 9) ps (.ref 9) pr sy) 0 0)))) ) ?_ t x hl hK
  intro t r hf hK
  obtain ⟨w2, w3, w4, s⟩ := t
  unfold xf_11_cheapest_l13 at hf
  by_cases c_2 : (s.1 147) ≤ w4
  · have hf := mo_pos hf c_2
    obtain rfl := Option.some.inj hf
    refine mm_adv 5 (cs' := P_X11_cheapest.drop 56) (l' := [(0, .ref 0), (1, .int v1), (2, .int w2), (3, .int w3), (4, .int w4)]) (st' := []) (h' := (xs_H (.ref 9) ps (.ref 9) pr s)) (bc' := 0) (bs' := 0) (fun n g => (And.intro (fun _ => g) (fun q => absurd c_2 q))) ?_
    exact mm_re (c := [(1, .int v1), (2, .int w2), (3, .int w3)]) hK rfl rfl
  · have hf := mo_neg hf c_2
    obtain ⟨x_9, hl_9, hf⟩ := mo_bind hf
    refine mm_adv 9 (cs' := P_X11_cheapest.drop 22) (l' := [(5, .int (w4 + (1 : Int32))), (0, .ref 0), (1, .int v1), (2, .int w2), (3, .int w3), (4, .int w4)]) (st' := []) (h' := (xs_H (.ref 9) ps (.ref 9) pr s)) (bc' := 0) (bs' := 0) (fun n g => (And.intro (fun q => absurd q c_2) (fun _ => g))) ?_
    refine mm_re (l' := [(0, .ref 0), (1, .int v1), (2, .int w2), (3, .int w3), (4, .int w4), (5, .int (w4 + (1 : Int32)))]) (c := [(0, .ref 0), (1, .int v1), (2, .int w2), (3, .int w3), (4, .int w4), (5, .int (w4 + (1 : Int32)))]) ?_ rfl rfl
    refine xb_11_cheapest_l22 h_7_wagesOfBoth_9 h_11_calmOf (v1) (w4) (w2, w3, (w4 + (1 : Int32)), s) x_9 hl_9 ?_
    obtain ⟨e2_9, e3_9, s_9⟩ := x_9
    obtain rfl := Option.some.inj hf
    refine mm_adv 2 (cs' := P_X11_cheapest.drop 13) (l' := [(4, .int (w4 + (1 : Int32))), (0, .ref 0), (1, .int v1), (2, .int e2_9), (3, .int e3_9)]) (st' := []) (h' := (xs_H (.ref 9) ps (.ref 9) pr s_9)) (bc' := 0) (bs' := 0) (fun n g => g) ?_
    exact mm_re (c := [(0, .ref 0), (1, .int v1), (2, .int e2_9), (3, .int e3_9), (4, .int (w4 + (1 : Int32)))]) hK rfl rfl
noncomputable def xf_11_cheapest_j7 (s : xs_S) (v1 : Int32) : Option (Int32 × xs_S) :=
((mo_loop (xf_11_cheapest_l13 (v1)) ((-2 : Int32), (-2 : Int32), (0 : Int32), s)).bind fun (e2_10, e3_10, s_10) =>
(if v1 = (0 : Int32) then
some (e2_10, s_10)
else
some (e3_10, s_10)))
set_option maxHeartbeats 4000000 in
theorem xb_11_cheapest_j7 {C : mm_C} {Q : mm_R} {ps : Value} {pr : Value} (h_7_wagesOfBoth_9 : xk_7_wagesOfBoth_9 C) (h_11_calmOf : xk_11_calmOf C) (s : xs_S) (v1 : Int32) (v : Int32) (s2 : xs_S) (hf : xf_11_cheapest_j7 s v1 = some (v, s2)) (hK : Q (some (.int v)) (xs_H (.ref 9) ps (.ref 9) pr s2)) : mm_go C mm_Mk mm_Fk P_X11_cheapest Q (P_X11_cheapest.drop 7) [(0, .ref 0), (1, .int v1)] [] (xs_H (.ref 9) ps (.ref 9) pr s) 0 0 := by
  unfold xf_11_cheapest_j7 at hf
  obtain ⟨x_10, hl_10, hf⟩ := mo_bind hf
  refine mm_adv 6 (cs' := P_X11_cheapest.drop 13) (l' := [(4, .int (0 : Int32)), (3, .int (-2 : Int32)), (2, .int (-2 : Int32)), (0, .ref 0), (1, .int v1)]) (st' := []) (h' := (xs_H (.ref 9) ps (.ref 9) pr s)) (bc' := 0) (bs' := 0) (fun n g => g) ?_
  refine mm_re (l' := [(0, .ref 0), (1, .int v1), (2, .int (-2 : Int32)), (3, .int (-2 : Int32)), (4, .int (0 : Int32))]) (c := [(0, .ref 0), (1, .int v1), (2, .int (-2 : Int32)), (3, .int (-2 : Int32)), (4, .int (0 : Int32))]) ?_ rfl rfl
  refine xb_11_cheapest_l13 h_7_wagesOfBoth_9 h_11_calmOf (v1) ((-2 : Int32), (-2 : Int32), (0 : Int32), s) x_10 hl_10 ?_
  obtain ⟨e2_10, e3_10, s_10⟩ := x_10
  by_cases c_11 : v1 = (0 : Int32)
  · have hf := mo_pos hf c_11
    obtain ⟨rfl, rfl⟩ := mo_pair hf
    exact ⟨5, (And.intro (fun q => absurd c_11 q) (fun _ => hK))⟩
  · have hf := mo_neg hf c_11
    obtain ⟨rfl, rfl⟩ := mo_pair hf
    exact ⟨4, (And.intro (fun _ => hK) (fun q => absurd c_11 q))⟩
noncomputable def xf_11_cheapest (s : xs_S) (a0 : Int32) : Option (Int32 × xs_S) :=
(if a0 = (0 : Int32) then
(xf_11_cheapest_j7 (s) (a0))
else
(if a0 = (1 : Int32) then
(xf_11_cheapest_j7 (s) (a0))
else
some ((-1 : Int32), s)))
set_option maxHeartbeats 4000000 in
theorem xb_11_cheapest {C : mm_C} {Q : mm_R} {ps : Value} {pr : Value} (h_7_wagesOfBoth_9 : xk_7_wagesOfBoth_9 C) (h_11_calmOf : xk_11_calmOf C) (s : xs_S) (a0 : Int32) (v : Int32) (s2 : xs_S) (hf : xf_11_cheapest s a0 = some (v, s2)) (hK : Q (some (.int v)) (xs_H (.ref 9) ps (.ref 9) pr s2)) : mm_go C mm_Mk mm_Fk P_X11_cheapest Q P_X11_cheapest [(0, .ref 0), (1, .int a0)] [] (xs_H (.ref 9) ps (.ref 9) pr s) 0 0 := by
  unfold xf_11_cheapest at hf
  by_cases c_1 : a0 = (0 : Int32)
  · have hf := mo_pos hf c_1
    refine mm_adv 2 (cs' := P_X11_cheapest.drop 7) (l' := [(0, .ref 0), (1, .int a0)]) (st' := []) (h' := (xs_H (.ref 9) ps (.ref 9) pr s)) (bc' := 0) (bs' := 0) (fun n g => (And.intro (fun _ => g) (fun q => absurd c_1 q))) ?_
    refine mm_re (l' := [(0, .ref 0), (1, .int a0)]) (c := [(0, .ref 0), (1, .int a0)]) ?_ rfl rfl
    exact xb_11_cheapest_j7 h_7_wagesOfBoth_9 h_11_calmOf s (a0) _ _ hf hK
  · have hf := mo_neg hf c_1
    by_cases c_12 : a0 = (1 : Int32)
    · have hf := mo_pos hf c_12
      refine mm_adv 5 (cs' := P_X11_cheapest.drop 7) (l' := [(0, .ref 0), (1, .int a0)]) (st' := []) (h' := (xs_H (.ref 9) ps (.ref 9) pr s)) (bc' := 0) (bs' := 0) (fun n g => (And.intro (fun q => absurd q c_1) (fun _ => (And.intro (fun _ => g) (fun q => absurd c_12 q))))) ?_
      refine mm_re (l' := [(0, .ref 0), (1, .int a0)]) (c := [(0, .ref 0), (1, .int a0)]) ?_ rfl rfl
      exact xb_11_cheapest_j7 h_7_wagesOfBoth_9 h_11_calmOf s (a0) _ _ hf hK
    · have hf := mo_neg hf c_12
      obtain ⟨rfl, rfl⟩ := mo_pair hf
      exact ⟨7, (And.intro (fun q => absurd q c_1) (fun _ => (And.intro (fun q => absurd q c_12) (fun _ => hK))))⟩
def xk_11_cheapest (C : mm_C) : Prop := ∀ (ps : Value) (pr : Value) (s : xs_S) (a0 : Int32) (v : Int32) (s2 : xs_S) (Q : mm_R), xf_11_cheapest s a0 = some (v, s2) → Q (some (.int v)) (xs_H (.ref 9) ps (.ref 9) pr s2) → C 251 [.ref 0, .int a0] (xs_H (.ref 9) ps (.ref 9) pr s) Q
-- 11_slopeIn
noncomputable def xf_11_slopeIn (s : xs_S) (a0 : Int32) : Option (Int32 × xs_S) :=
(if a0 < (0 : Int32) then
some ((-1 : Int32), s)
else
(if a0 ≤ (200 : Int32) then
((xf_1_afterMinutes s ((s.1 400)) ((s.1 403)) ((s.1 152)) (a0)).bind fun (v_3, s_3) =>
((xf_11_slopeOf (v_3)).bind fun v_4 =>
some (v_4, s_3)))
else
some ((-1 : Int32), s)))
set_option maxHeartbeats 4000000 in
theorem xb_11_slopeIn {C : mm_C} {Q : mm_R} {ps : Value} {pr : Value} (h_1_afterMinutes : xk_1_afterMinutes C) (h_11_slopeOf : xk_11_slopeOf C) (s : xs_S) (a0 : Int32) (v : Int32) (s2 : xs_S) (hf : xf_11_slopeIn s a0 = some (v, s2)) (hK : Q (some (.int v)) (xs_H (.ref 9) ps (.ref 9) pr s2)) : mm_go C mm_Mk mm_Fk P_X11_slopeIn Q P_X11_slopeIn [(0, .ref 0), (1, .int a0)] [] (xs_H (.ref 9) ps (.ref 9) pr s) 0 0 := by
  unfold xf_11_slopeIn at hf
  by_cases c_1 : a0 < (0 : Int32)
  · have hf := mo_pos hf c_1
    obtain ⟨rfl, rfl⟩ := mo_pair hf
    exact ⟨4, (And.intro (fun _ => hK) (fun q => absurd c_1 q))⟩
  · have hf := mo_neg hf c_1
    by_cases c_2 : a0 ≤ (200 : Int32)
    · have hf := mo_pos hf c_2
      obtain ⟨r_3, hr_3, hf⟩ := mo_bind hf
      obtain ⟨v_3, s_3⟩ := r_3
      obtain ⟨v_4, hr_4, hf⟩ := mo_bind hf
      obtain ⟨rfl, rfl⟩ := mo_pair hf
      exact ⟨20, (And.intro (fun q => absurd q c_1) (fun _ => (And.intro (fun _ => (h_1_afterMinutes (.ref 9) ps pr s ((s.1 400)) ((s.1 403)) ((s.1 152)) (a0) v_3 s_3 _ hr_3 (h_11_slopeOf _ (v_3) v_4 _ hr_4 hK))) (fun q => absurd c_2 q))))⟩
    · have hf := mo_neg hf c_2
      obtain ⟨rfl, rfl⟩ := mo_pair hf
      exact ⟨7, (And.intro (fun q => absurd q c_1) (fun _ => (And.intro (fun q => absurd q c_2) (fun _ => hK))))⟩
def xk_11_slopeIn (C : mm_C) : Prop := ∀ (ps : Value) (pr : Value) (s : xs_S) (a0 : Int32) (v : Int32) (s2 : xs_S) (Q : mm_R), xf_11_slopeIn s a0 = some (v, s2) → Q (some (.int v)) (xs_H (.ref 9) ps (.ref 9) pr s2) → C 252 [.ref 0, .int a0] (xs_H (.ref 9) ps (.ref 9) pr s) Q
-- 11_year
noncomputable def xf_11_year_j38 (s : xs_S) (v1 : Int32) (v2 : Int32) (v3 : Int32) (v4 : Int32) : Option ((Int32 × Int32 × xs_S) ⊕ ((Int32 × xs_S))) :=
some (.inl (v3, (v4 + (1 : Int32)), s))
set_option maxHeartbeats 4000000 in
theorem xb_11_year_j38 {C : mm_C} {Q : mm_R} {ps : Value} {pr : Value} (h_1_afterMinutes : xk_1_afterMinutes C) (h_11_isAwake : xk_11_isAwake C) (s : xs_S) (v1 : Int32) (v2 : Int32) (v3 : Int32) (v4 : Int32) (r : (Int32 × Int32 × xs_S) ⊕ ((Int32 × xs_S))) (hf : xf_11_year_j38 s v1 v2 v3 v4 = some r) (hK : mo_sum (mo_c2 (fun y3 => (mo_c2 (fun y4 sy => mm_go C mm_Mk mm_Fk P_X11_year Q (P_X11_year.drop 17) [(0, .ref 0), (1, .int v1), (2, .int v2), (3, .int y3), (4, .int y4)] [] (xs_H (.ref 9) ps (.ref 9) pr sy) 0 0))))  (mo_c2 (fun y3 sy => mm_go C mm_Mk mm_Fk P_X11_year Q (P_X11_year.drop 40) [(3, .int y3)] [] (xs_H (.ref 9) ps (.ref 9) pr sy) 0 0))  r) : mm_go C mm_Mk mm_Fk P_X11_year Q (P_X11_year.drop 38) [(0, .ref 0), (1, .int v1), (2, .int v2), (3, .int v3), (4, .int v4)] [] (xs_H (.ref 9) ps (.ref 9) pr s) 0 0 := by
  unfold xf_11_year_j38 at hf
  obtain rfl := Option.some.inj hf
  refine mm_adv 2 (cs' := P_X11_year.drop 17) (l' := [(4, .int (v4 + (1 : Int32))), (0, .ref 0), (1, .int v1), (2, .int v2), (3, .int v3)]) (st' := []) (h' := (xs_H (.ref 9) ps (.ref 9) pr s)) (bc' := 0) (bs' := 0) (fun n g => g) ?_
  exact mm_re (c := [(0, .ref 0), (1, .int v1), (2, .int v2), (3, .int v3), (4, .int (v4 + (1 : Int32)))]) hK rfl rfl
noncomputable def xf_11_year_l17 (v1 : Int32) (v2 : Int32) : (Int32 × Int32 × xs_S) → Option ((Int32 × Int32 × xs_S) ⊕ ((Int32 × xs_S))) := fun (w3, w4, s) =>
(if v2 ≤ w4 then
some (.inr (w3, s))
else
((xf_1_afterMinutes s ((s.1 400)) ((s.1 403)) (((s.1 152) + w4)) (v1)).bind fun (v_6, s_6) =>
((xf_11_isAwake (v_6)).bind fun v_7 =>
(if v_7 = (0 : Int32) then
(xf_11_year_j38 (s_6) (v1) (v2) (w3) (w4))
else
(xf_11_year_j38 (s_6) (v1) (v2) ((w3 + (1 : Int32))) (w4))))))
set_option maxHeartbeats 4000000 in
theorem xb_11_year_l17 {C : mm_C} {Q : mm_R} {ps : Value} {pr : Value} (h_1_afterMinutes : xk_1_afterMinutes C) (h_11_isAwake : xk_11_isAwake C) (v1 : Int32) (v2 : Int32) (t : Int32 × Int32 × xs_S) (x : (Int32 × xs_S)) (hl : mo_loop (xf_11_year_l17 v1 v2) t = some x) (hK : (mo_c2 (fun y3 sy => mm_go C mm_Mk mm_Fk P_X11_year Q (P_X11_year.drop 40) [(3, .int y3)] [] (xs_H (.ref 9) ps (.ref 9) pr sy) 0 0)) x) : (mo_c2 (fun y3 => (mo_c2 (fun y4 sy => mm_go C mm_Mk mm_Fk P_X11_year Q (P_X11_year.drop 17) [(0, .ref 0), (1, .int v1), (2, .int v2), (3, .int y3), (4, .int y4)] [] (xs_H (.ref 9) ps (.ref 9) pr sy) 0 0)))) t := by
  refine mo_loop_go (G := (mo_c2 (fun y3 => (mo_c2 (fun y4 sy => mm_go C mm_Mk mm_Fk P_X11_year Q (P_X11_year.drop 17) [(0, .ref 0), (1, .int v1), (2, .int v2), (3, .int y3), (4, .int y4)] [] (xs_H (.ref 9) ps (.ref 9) pr sy) 0 0)))) ) (K := (mo_c2 (fun y3 sy => mm_go C mm_Mk mm_Fk P_X11_year Q (P_X11_year.drop 40) [(3, .int y3)] [] (xs_H (.ref 9) ps (.ref 9) pr sy) 0 0)) ) ?_ t x hl hK
  intro t r hf hK
  obtain ⟨w3, w4, s⟩ := t
  unfold xf_11_year_l17 at hf
  by_cases c_5 : v2 ≤ w4
  · have hf := mo_pos hf c_5
    obtain rfl := Option.some.inj hf
    refine mm_adv 3 (cs' := P_X11_year.drop 40) (l' := [(0, .ref 0), (1, .int v1), (2, .int v2), (3, .int w3), (4, .int w4)]) (st' := []) (h' := (xs_H (.ref 9) ps (.ref 9) pr s)) (bc' := 0) (bs' := 0) (fun n g => (And.intro (fun _ => g) (fun q => absurd c_5 q))) ?_
    exact mm_re (c := [(3, .int w3)]) hK rfl rfl
  · have hf := mo_neg hf c_5
    obtain ⟨r_6, hr_6, hf⟩ := mo_bind hf
    obtain ⟨v_6, s_6⟩ := r_6
    obtain ⟨v_7, hr_7, hf⟩ := mo_bind hf
    by_cases c_8 : v_7 = (0 : Int32)
    · have hf := mo_pos hf c_8
      refine mm_adv 20 (cs' := P_X11_year.drop 38) (l' := [(0, .ref 0), (1, .int v1), (2, .int v2), (3, .int w3), (4, .int w4)]) (st' := []) (h' := (xs_H (.ref 9) ps (.ref 9) pr s_6)) (bc' := 0) (bs' := 0) (fun n g => (And.intro (fun q => absurd q c_5) (fun _ => (h_1_afterMinutes (.ref 9) ps pr s ((s.1 400)) ((s.1 403)) (((s.1 152) + w4)) (v1) v_6 s_6 _ hr_6 (h_11_isAwake _ (v_6) v_7 _ hr_7 (And.intro (fun _ => g) (fun q => absurd c_8 q))))))) ?_
      refine mm_re (l' := [(0, .ref 0), (1, .int v1), (2, .int v2), (3, .int w3), (4, .int w4)]) (c := [(0, .ref 0), (1, .int v1), (2, .int v2), (3, .int w3), (4, .int w4)]) ?_ rfl rfl
      exact xb_11_year_j38 h_1_afterMinutes h_11_isAwake s_6 (v1) (v2) (w3) (w4) _ hf hK
    · have hf := mo_neg hf c_8
      refine mm_adv 21 (cs' := P_X11_year.drop 38) (l' := [(3, .int (w3 + (1 : Int32))), (0, .ref 0), (1, .int v1), (2, .int v2), (4, .int w4)]) (st' := []) (h' := (xs_H (.ref 9) ps (.ref 9) pr s_6)) (bc' := 0) (bs' := 0) (fun n g => (And.intro (fun q => absurd q c_5) (fun _ => (h_1_afterMinutes (.ref 9) ps pr s ((s.1 400)) ((s.1 403)) (((s.1 152) + w4)) (v1) v_6 s_6 _ hr_6 (h_11_isAwake _ (v_6) v_7 _ hr_7 (And.intro (fun q => absurd q c_8) (fun _ => g))))))) ?_
      refine mm_re (l' := [(0, .ref 0), (1, .int v1), (2, .int v2), (3, .int (w3 + (1 : Int32))), (4, .int w4)]) (c := [(0, .ref 0), (1, .int v1), (2, .int v2), (3, .int (w3 + (1 : Int32))), (4, .int w4)]) ?_ rfl rfl
      exact xb_11_year_j38 h_1_afterMinutes h_11_isAwake s_6 (v1) (v2) ((w3 + (1 : Int32))) (w4) _ hf hK
noncomputable def xf_11_year (s : xs_S) (a0 : Int32) (a1 : Int32) : Option (Int32 × xs_S) :=
(if a0 < (0 : Int32) then
some ((-1 : Int32), s)
else
(if (200 : Int32) < a0 then
some ((-1 : Int32), s)
else
(if a1 < (1 : Int32) then
some ((-1 : Int32), s)
else
(if a1 ≤ (20 : Int32) then
((mo_loop (xf_11_year_l17 (a0) (a1)) ((0 : Int32), (0 : Int32), s)).bind fun (e3_9, s_9) =>
some (e3_9, s_9))
else
some ((-1 : Int32), s)))))
set_option maxHeartbeats 4000000 in
theorem xb_11_year {C : mm_C} {Q : mm_R} {ps : Value} {pr : Value} (h_1_afterMinutes : xk_1_afterMinutes C) (h_11_isAwake : xk_11_isAwake C) (s : xs_S) (a0 : Int32) (a1 : Int32) (v : Int32) (s2 : xs_S) (hf : xf_11_year s a0 a1 = some (v, s2)) (hK : Q (some (.int v)) (xs_H (.ref 9) ps (.ref 9) pr s2)) : mm_go C mm_Mk mm_Fk P_X11_year Q P_X11_year [(0, .ref 0), (1, .int a0), (2, .int a1)] [] (xs_H (.ref 9) ps (.ref 9) pr s) 0 0 := by
  unfold xf_11_year at hf
  by_cases c_1 : a0 < (0 : Int32)
  · have hf := mo_pos hf c_1
    obtain ⟨rfl, rfl⟩ := mo_pair hf
    exact ⟨4, (And.intro (fun _ => hK) (fun q => absurd c_1 q))⟩
  · have hf := mo_neg hf c_1
    by_cases c_2 : (200 : Int32) < a0
    · have hf := mo_pos hf c_2
      obtain ⟨rfl, rfl⟩ := mo_pair hf
      exact ⟨7, (And.intro (fun q => absurd q c_1) (fun _ => (And.intro (fun _ => hK) (fun q => absurd c_2 q))))⟩
    · have hf := mo_neg hf c_2
      by_cases c_3 : a1 < (1 : Int32)
      · have hf := mo_pos hf c_3
        obtain ⟨rfl, rfl⟩ := mo_pair hf
        exact ⟨10, (And.intro (fun q => absurd q c_1) (fun _ => (And.intro (fun q => absurd q c_2) (fun _ => (And.intro (fun _ => hK) (fun q => absurd c_3 q))))))⟩
      · have hf := mo_neg hf c_3
        by_cases c_4 : a1 ≤ (20 : Int32)
        · have hf := mo_pos hf c_4
          obtain ⟨x_9, hl_9, hf⟩ := mo_bind hf
          refine mm_adv 15 (cs' := P_X11_year.drop 17) (l' := [(4, .int (0 : Int32)), (3, .int (0 : Int32)), (0, .ref 0), (1, .int a0), (2, .int a1)]) (st' := []) (h' := (xs_H (.ref 9) ps (.ref 9) pr s)) (bc' := 0) (bs' := 0) (fun n g => (And.intro (fun q => absurd q c_1) (fun _ => (And.intro (fun q => absurd q c_2) (fun _ => (And.intro (fun q => absurd q c_3) (fun _ => (And.intro (fun _ => g) (fun q => absurd c_4 q))))))))) ?_
          refine mm_re (l' := [(0, .ref 0), (1, .int a0), (2, .int a1), (3, .int (0 : Int32)), (4, .int (0 : Int32))]) (c := [(0, .ref 0), (1, .int a0), (2, .int a1), (3, .int (0 : Int32)), (4, .int (0 : Int32))]) ?_ rfl rfl
          refine xb_11_year_l17 h_1_afterMinutes h_11_isAwake (a0) (a1) ((0 : Int32), (0 : Int32), s) x_9 hl_9 ?_
          obtain ⟨e3_9, s_9⟩ := x_9
          obtain ⟨rfl, rfl⟩ := mo_pair hf
          exact ⟨2, hK⟩
        · have hf := mo_neg hf c_4
          obtain ⟨rfl, rfl⟩ := mo_pair hf
          exact ⟨13, (And.intro (fun q => absurd q c_1) (fun _ => (And.intro (fun q => absurd q c_2) (fun _ => (And.intro (fun q => absurd q c_3) (fun _ => (And.intro (fun q => absurd q c_4) (fun _ => hK))))))))⟩
def xk_11_year (C : mm_C) : Prop := ∀ (ps : Value) (pr : Value) (s : xs_S) (a0 : Int32) (a1 : Int32) (v : Int32) (s2 : xs_S) (Q : mm_R), xf_11_year s a0 a1 = some (v, s2) → Q (some (.int v)) (xs_H (.ref 9) ps (.ref 9) pr s2) → C 253 [.ref 0, .int a0, .int a1] (xs_H (.ref 9) ps (.ref 9) pr s) Q
-- 9_add
noncomputable def xf_9_add (s : xs_S) (a0 : Int32) (a1 : Int32) (a2 : Int32) : Option (Int32 × xs_S) :=
(if (s.1 1924) < (20 : Int32) then
(bif mo_in (s.1 1924) 20 then (bif mo_in (s.1 1924) 20 then (bif mo_in (s.1 1924) 20 then some ((((s.1 1924) + (1 : Int32)) - (1 : Int32)), (xs_sA (xs_sA (xs_sA (xs_sI s 1924 (((s.1 1924) + (1 : Int32)))) 121 (upd (s.2.1 121) ((s.1 1924)).toNatClampNeg (a0))) 122 (upd (s.2.1 122) ((s.1 1924)).toNatClampNeg (a1))) 123 (upd (s.2.1 123) ((s.1 1924)).toNatClampNeg ((vp_nar .boolean a2))))) else none) else none) else none)
else
some ((-1 : Int32), s))
set_option maxHeartbeats 4000000 in
theorem xb_9_add {C : mm_C} {Q : mm_R} {pt : Value} {ps : Value} {pg : Value} {pr : Value}  (s : xs_S) (a0 : Int32) (a1 : Int32) (a2 : Int32) (v : Int32) (s2 : xs_S) (hf : xf_9_add s a0 a1 a2 = some (v, s2)) (hK : Q (some (.int v)) (xs_H pt ps pg pr s2)) : mm_go C mm_Mk mm_Fk P_X9_add Q P_X9_add [(0, .ref 120), (1, .int a0), (2, .int a1), (3, .int a2)] [] (xs_H pt ps pg pr s) 0 0 := by
  unfold xf_9_add at hf
  by_cases c_1 : (s.1 1924) < (20 : Int32)
  · have hf := mo_pos hf c_1
    obtain ⟨hi_2, hf⟩ := mo_if hf
    obtain ⟨hi_3, hf⟩ := mo_if hf
    obtain ⟨hi_4, hf⟩ := mo_if hf
    obtain ⟨rfl, rfl⟩ := mo_pair hf
    exact ⟨33, (And.intro (fun _ => (And.intro hi_2 (And.intro hi_3 (And.intro hi_4 (And.intro trivial hK))))) (fun q => absurd c_1 q))⟩
  · have hf := mo_neg hf c_1
    obtain ⟨rfl, rfl⟩ := mo_pair hf
    exact ⟨6, (And.intro (fun q => absurd q c_1) (fun _ => hK))⟩
def xk_9_add (C : mm_C) : Prop := ∀ (pt : Value) (ps : Value) (pg : Value) (pr : Value) (s : xs_S) (a0 : Int32) (a1 : Int32) (a2 : Int32) (v : Int32) (s2 : xs_S) (Q : mm_R), xf_9_add s a0 a1 a2 = some (v, s2) → Q (some (.int v)) (xs_H pt ps pg pr s2) → C 209 [.ref 120, .int a0, .int a1, .int a2] (xs_H pt ps pg pr s) Q
-- 11_tell
noncomputable def xf_11_tell (s : xs_S) (a0 : Int32) (a1 : Int32) (a2 : Int32) : Option (Int32 × xs_S) :=
(if a0 < (1 : Int32) then
some ((-1 : Int32), s)
else
(if (5 : Int32) < a0 then
some ((-1 : Int32), s)
else
(if a1 < (0 : Int32) then
some ((-1 : Int32), s)
else
(if a1 ≤ (20 : Int32) then
((xf_9_add s (a0) (a1) (a2)).bind fun (v_5, s_5) =>
some (v_5, s_5))
else
some ((-1 : Int32), s)))))
set_option maxHeartbeats 4000000 in
theorem xb_11_tell {C : mm_C} {Q : mm_R} {pt : Value} {ps : Value} {pg : Value} {pr : Value} (h_9_add : xk_9_add C) (s : xs_S) (a0 : Int32) (a1 : Int32) (a2 : Int32) (v : Int32) (s2 : xs_S) (hf : xf_11_tell s a0 a1 a2 = some (v, s2)) (hK : Q (some (.int v)) (xs_H pt ps pg pr s2)) : mm_go C mm_Mk mm_Fk P_X11_tell Q P_X11_tell [(0, .ref 0), (1, .int a0), (2, .int a1), (3, .int a2)] [] (xs_H pt ps pg pr s) 0 0 := by
  unfold xf_11_tell at hf
  by_cases c_1 : a0 < (1 : Int32)
  · have hf := mo_pos hf c_1
    obtain ⟨rfl, rfl⟩ := mo_pair hf
    exact ⟨5, (And.intro (fun _ => hK) (fun q => absurd c_1 q))⟩
  · have hf := mo_neg hf c_1
    by_cases c_2 : (5 : Int32) < a0
    · have hf := mo_pos hf c_2
      obtain ⟨rfl, rfl⟩ := mo_pair hf
      exact ⟨8, (And.intro (fun q => absurd q c_1) (fun _ => (And.intro (fun _ => hK) (fun q => absurd c_2 q))))⟩
    · have hf := mo_neg hf c_2
      by_cases c_3 : a1 < (0 : Int32)
      · have hf := mo_pos hf c_3
        obtain ⟨rfl, rfl⟩ := mo_pair hf
        exact ⟨10, (And.intro (fun q => absurd q c_1) (fun _ => (And.intro (fun q => absurd q c_2) (fun _ => (And.intro (fun _ => hK) (fun q => absurd c_3 q))))))⟩
      · have hf := mo_neg hf c_3
        by_cases c_4 : a1 ≤ (20 : Int32)
        · have hf := mo_pos hf c_4
          obtain ⟨r_5, hr_5, hf⟩ := mo_bind hf
          obtain ⟨v_5, s_5⟩ := r_5
          obtain ⟨rfl, rfl⟩ := mo_pair hf
          exact ⟨18, (And.intro (fun q => absurd q c_1) (fun _ => (And.intro (fun q => absurd q c_2) (fun _ => (And.intro (fun q => absurd q c_3) (fun _ => (And.intro (fun _ => (h_9_add pt ps pg pr s (a0) (a1) (a2) v_5 s_5 _ hr_5 hK)) (fun q => absurd c_4 q))))))))⟩
        · have hf := mo_neg hf c_4
          obtain ⟨rfl, rfl⟩ := mo_pair hf
          exact ⟨13, (And.intro (fun q => absurd q c_1) (fun _ => (And.intro (fun q => absurd q c_2) (fun _ => (And.intro (fun q => absurd q c_3) (fun _ => (And.intro (fun q => absurd q c_4) (fun _ => hK))))))))⟩
def xk_11_tell (C : mm_C) : Prop := ∀ (pt : Value) (ps : Value) (pg : Value) (pr : Value) (s : xs_S) (a0 : Int32) (a1 : Int32) (a2 : Int32) (v : Int32) (s2 : xs_S) (Q : mm_R), xf_11_tell s a0 a1 a2 = some (v, s2) → Q (some (.int v)) (xs_H pt ps pg pr s2) → C 254 [.ref 0, .int a0, .int a1, .int a2] (xs_H pt ps pg pr s) Q
-- 11_forget
noncomputable def xf_11_forget (s : xs_S)  : Option (Int32 × xs_S) :=
some ((s.1 1924), (xs_sI s 1924 ((0 : Int32))))
set_option maxHeartbeats 4000000 in
theorem xb_11_forget {C : mm_C} {Q : mm_R} {pt : Value} {ps : Value} {pg : Value} {pr : Value}  (s : xs_S)  (v : Int32) (s2 : xs_S) (hf : xf_11_forget s = some (v, s2)) (hK : Q (some (.int v)) (xs_H pt ps pg pr s2)) : mm_go C mm_Mk mm_Fk P_X11_forget Q P_X11_forget [(0, .ref 0)] [] (xs_H pt ps pg pr s) 0 0 := by
  unfold xf_11_forget at hf
  obtain ⟨rfl, rfl⟩ := mo_pair hf
  exact ⟨10, (And.intro trivial hK)⟩
def xk_11_forget (C : mm_C) : Prop := ∀ (pt : Value) (ps : Value) (pg : Value) (pr : Value) (s : xs_S)  (v : Int32) (s2 : xs_S) (Q : mm_R), xf_11_forget s = some (v, s2) → Q (some (.int v)) (xs_H pt ps pg pr s2) → C 255 [.ref 0] (xs_H pt ps pg pr s) Q
-- 11_isKnown
noncomputable def xf_11_isKnown (s : xs_S) (a0 : Int32) (a1 : Int32) : Option (Int32 × xs_S) :=
(if a0 < (0 : Int32) then
some ((0 : Int32), s)
else
(if (s.1 1924) < a0 then
some ((0 : Int32), s)
else
(if a1 < (1 : Int32) then
some ((0 : Int32), s)
else
(if (5 : Int32) < a1 then
some ((0 : Int32), s)
else
some ((1 : Int32), s)))))
set_option maxHeartbeats 4000000 in
theorem xb_11_isKnown {C : mm_C} {Q : mm_R} {pt : Value} {ps : Value} {pg : Value} {pr : Value}  (s : xs_S) (a0 : Int32) (a1 : Int32) (v : Int32) (s2 : xs_S) (hf : xf_11_isKnown s a0 a1 = some (v, s2)) (hK : Q (some (.int v)) (xs_H pt ps pg pr s2)) : mm_go C mm_Mk mm_Fk P_X11_isKnown Q P_X11_isKnown [(0, .ref 0), (1, .int a0), (2, .int a1)] [] (xs_H pt ps pg pr s) 0 0 := by
  unfold xf_11_isKnown at hf
  by_cases c_1 : a0 < (0 : Int32)
  · have hf := mo_pos hf c_1
    obtain ⟨rfl, rfl⟩ := mo_pair hf
    exact ⟨4, (And.intro (fun _ => (And.intro rfl hK)) (fun q => absurd c_1 q))⟩
  · have hf := mo_neg hf c_1
    by_cases c_2 : (s.1 1924) < a0
    · have hf := mo_pos hf c_2
      obtain ⟨rfl, rfl⟩ := mo_pair hf
      exact ⟨9, (And.intro (fun q => absurd q c_1) (fun _ => (And.intro (fun _ => (And.intro rfl hK)) (fun q => absurd c_2 q))))⟩
    · have hf := mo_neg hf c_2
      by_cases c_3 : a1 < (1 : Int32)
      · have hf := mo_pos hf c_3
        obtain ⟨rfl, rfl⟩ := mo_pair hf
        exact ⟨12, (And.intro (fun q => absurd q c_1) (fun _ => (And.intro (fun q => absurd q c_2) (fun _ => (And.intro (fun _ => (And.intro rfl hK)) (fun q => absurd c_3 q))))))⟩
      · have hf := mo_neg hf c_3
        by_cases c_4 : (5 : Int32) < a1
        · have hf := mo_pos hf c_4
          obtain ⟨rfl, rfl⟩ := mo_pair hf
          exact ⟨15, (And.intro (fun q => absurd q c_1) (fun _ => (And.intro (fun q => absurd q c_2) (fun _ => (And.intro (fun q => absurd q c_3) (fun _ => (And.intro (fun _ => (And.intro rfl hK)) (fun q => absurd c_4 q))))))))⟩
        · have hf := mo_neg hf c_4
          obtain ⟨rfl, rfl⟩ := mo_pair hf
          exact ⟨16, (And.intro (fun q => absurd q c_1) (fun _ => (And.intro (fun q => absurd q c_2) (fun _ => (And.intro (fun q => absurd q c_3) (fun _ => (And.intro (fun q => absurd q c_4) (fun _ => (And.intro rfl hK)))))))))⟩
def xk_11_isKnown (C : mm_C) : Prop := ∀ (pt : Value) (ps : Value) (pg : Value) (pr : Value) (s : xs_S) (a0 : Int32) (a1 : Int32) (v : Int32) (s2 : xs_S) (Q : mm_R), xf_11_isKnown s a0 a1 = some (v, s2) → Q (some (.int v)) (xs_H pt ps pg pr s2) → C 265 [.ref 0, .int a0, .int a1] (xs_H pt ps pg pr s) Q
-- 7_fill_53178_125
noncomputable def xf_7_fill_53178_125_l5 (v1 : Int32) (v3 : Int32) : (Int32 × xs_S) → Option ((Int32 × xs_S) ⊕ ((xs_S))) := fun (w2, s) =>
(if v3 ≤ w2 then
some (.inr (s))
else
(bif mo_in w2 6 then some (.inl ((w2 + (1 : Int32)), (xs_sA s 125 (upd (s.2.1 125) (w2).toNatClampNeg (v1))))) else none))
set_option maxHeartbeats 4000000 in
theorem xb_7_fill_53178_125_l5 {C : mm_C} {Q : mm_R} {pt : Value} {ps : Value} {pg : Value} {pr : Value}  (v1 : Int32) (v3 : Int32) (t : Int32 × xs_S) (x : (xs_S)) (hl : mo_loop (xf_7_fill_53178_125_l5 v1 v3) t = some x) (hK : (fun sy => mm_go C mm_Mk mm_Fk P_J7_fill_53178 Q (P_J7_fill_53178.drop 14) [] [] (xs_H pt ps pg pr sy) 0 0) x) : (mo_c2 (fun y2 sy => mm_go C mm_Mk mm_Fk P_J7_fill_53178 Q (P_J7_fill_53178.drop 5) [(0, .ref 125), (1, .int v1), (2, .int y2), (3, .int v3)] [] (xs_H pt ps pg pr sy) 0 0)) t := by
  refine mo_loop_go (G := (mo_c2 (fun y2 sy => mm_go C mm_Mk mm_Fk P_J7_fill_53178 Q (P_J7_fill_53178.drop 5) [(0, .ref 125), (1, .int v1), (2, .int y2), (3, .int v3)] [] (xs_H pt ps pg pr sy) 0 0)) ) (K := (fun sy => mm_go C mm_Mk mm_Fk P_J7_fill_53178 Q (P_J7_fill_53178.drop 14) [] [] (xs_H pt ps pg pr sy) 0 0) ) ?_ t x hl hK
  intro t r hf hK
  obtain ⟨w2, s⟩ := t
  unfold xf_7_fill_53178_125_l5 at hf
  by_cases c_1 : v3 ≤ w2
  · have hf := mo_pos hf c_1
    obtain rfl := Option.some.inj hf
    refine mm_adv 3 (cs' := P_J7_fill_53178.drop 14) (l' := [(0, .ref 125), (1, .int v1), (2, .int w2), (3, .int v3)]) (st' := []) (h' := (xs_H pt ps pg pr s)) (bc' := 0) (bs' := 0) (fun n g => (And.intro (fun _ => g) (fun q => absurd c_1 q))) ?_
    exact mm_re (c := []) hK rfl rfl
  · have hf := mo_neg hf c_1
    obtain ⟨hi_2, hf⟩ := mo_if hf
    obtain rfl := Option.some.inj hf
    refine mm_adv 9 (cs' := P_J7_fill_53178.drop 5) (l' := [(2, .int (w2 + (1 : Int32))), (0, .ref 125), (1, .int v1), (3, .int v3)]) (st' := []) (h' := (xs_H pt ps pg pr (xs_sA s 125 (upd (s.2.1 125) (w2).toNatClampNeg (v1))))) (bc' := 0) (bs' := 0) (fun n g => (And.intro (fun q => absurd q c_1) (fun _ => (And.intro hi_2 g)))) ?_
    exact mm_re (c := [(0, .ref 125), (1, .int v1), (2, .int (w2 + (1 : Int32))), (3, .int v3)]) hK rfl rfl
noncomputable def xf_7_fill_53178_125 (s : xs_S) (a1 : Int32) : Option (xs_S) :=
((mo_loop (xf_7_fill_53178_125_l5 (a1) ((Int32.ofNat 6))) ((0 : Int32), s)).bind fun s_3 =>
some s_3)
set_option maxHeartbeats 4000000 in
theorem xb_7_fill_53178_125 {C : mm_C} {Q : mm_R} {pt : Value} {ps : Value} {pg : Value} {pr : Value}  (s : xs_S) (a1 : Int32) (s2 : xs_S) (hf : xf_7_fill_53178_125 s a1 = some s2) (hK : Q (none) (xs_H pt ps pg pr s2)) : mm_go C mm_Mk mm_Fk P_J7_fill_53178 Q P_J7_fill_53178 [(0, .ref 125), (1, .int a1)] [] (xs_H pt ps pg pr s) 0 0 := by
  unfold xf_7_fill_53178_125 at hf
  obtain ⟨x_3, hl_3, hf⟩ := mo_bind hf
  refine mm_adv 5 (cs' := P_J7_fill_53178.drop 5) (l' := [(3, .int (Int32.ofNat 6)), (2, .int (0 : Int32)), (0, .ref 125), (1, .int a1)]) (st' := []) (h' := (xs_H pt ps pg pr s)) (bc' := 0) (bs' := 0) (fun n g => g) ?_
  refine mm_re (l' := [(0, .ref 125), (1, .int a1), (2, .int (0 : Int32)), (3, .int (Int32.ofNat 6))]) (c := [(0, .ref 125), (1, .int a1), (2, .int (0 : Int32)), (3, .int (Int32.ofNat 6))]) ?_ rfl rfl
  refine xb_7_fill_53178_125_l5  (a1) ((Int32.ofNat 6)) ((0 : Int32), s) x_3 hl_3 ?_
  obtain ⟨s_3, rfl⟩ : ∃ q, q = x_3 := ⟨_, rfl⟩
  obtain rfl := Option.some.inj hf
  exact ⟨1, hK⟩
def xk_7_fill_53178_125 (C : mm_C) : Prop := ∀ (pt : Value) (ps : Value) (pg : Value) (pr : Value) (s : xs_S) (a1 : Int32) (s2 : xs_S) (Q : mm_R), xf_7_fill_53178_125 s a1 = some s2 → Q (none) (xs_H pt ps pg pr s2) → C 123 [.ref 125, .int a1] (xs_H pt ps pg pr s) Q
