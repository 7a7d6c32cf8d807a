/-! the class, method by method, 3 -/
-- 11_standingOf
noncomputable def xf_11_standingOf (a0 : Int32) (a1 : Int32) (a2 : Int32) : Option (Int32) :=
some ((((((a0 * (2 : Int32)) + a1) * (7 : Int32)) + a2) + (1 : Int32)))
set_option maxHeartbeats 4000000 in
theorem xb_11_standingOf {C : mm_C} {Q : mm_R}  {h : mm_H} (a0 : Int32) (a1 : Int32) (a2 : Int32) (v : Int32) (hf : xf_11_standingOf a0 a1 a2 = some v) (hK : Q (some (.int v)) h) : mm_go C mm_Mk mm_Fk P_X11_standingOf Q P_X11_standingOf [(0, .int a0), (1, .int a1), (2, .int a2)] [] h 0 0 := by
  unfold xf_11_standingOf at hf
  obtain rfl := Option.some.inj hf
  exact ⟨12, hK⟩
def xk_11_standingOf (C : mm_C) : Prop := ∀ (h : mm_H) (a0 : Int32) (a1 : Int32) (a2 : Int32) (v : Int32) (Q : mm_R), xf_11_standingOf a0 a1 a2 = some v → Q (some (.int v)) h → C 269 [.int a0, .int a1, .int a2] h Q
-- 7_evenStanding_17
noncomputable def xf_7_evenStanding_17 (s : xs_S)  : Option (Int32 × xs_S) :=
((xf_11_standingOf ((s.1 279)) ((0 : Int32)) ((-1 : Int32))).bind fun v_1 =>
some (v_1, s))
set_option maxHeartbeats 4000000 in
theorem xb_7_evenStanding_17 {C : mm_C} {Q : mm_R} {pt : Value} {ps : Value} {pg : Value} {pr : Value} (h_11_standingOf : xk_11_standingOf C) (s : xs_S)  (v : Int32) (s2 : xs_S) (hf : xf_7_evenStanding_17 s = some (v, s2)) (hK : Q (some (.int v)) (xs_H pt ps pg pr s2)) : mm_go C mm_Mk mm_Fk P_X7_evenStanding Q P_X7_evenStanding [(0, .ref 17)] [] (xs_H pt ps pg pr s) 0 0 := by
  unfold xf_7_evenStanding_17 at hf
  obtain ⟨v_1, hr_1, hf⟩ := mo_bind hf
  obtain ⟨rfl, rfl⟩ := mo_pair hf
  exact ⟨6, (h_11_standingOf _ ((s.1 279)) ((0 : Int32)) ((-1 : Int32)) v_1 _ hr_1 hK)⟩
def xk_7_evenStanding_17 (C : mm_C) : Prop := ∀ (pt : Value) (ps : Value) (pg : Value) (pr : Value) (s : xs_S)  (v : Int32) (s2 : xs_S) (Q : mm_R), xf_7_evenStanding_17 s = some (v, s2) → Q (some (.int v)) (xs_H pt ps pg pr s2) → C 191 [.ref 17] (xs_H pt ps pg pr s) Q
-- 7_fill_53178_26
noncomputable def xf_7_fill_53178_26_l5 (v1 : Int32) (v3 : Int32) : (Int32 × xs_S) → Option ((Int32 × xs_S) ⊕ ((xs_S))) := fun (w2, s) =>
(if v3 ≤ w2 then
some (.inr (s))
else
(bif mo_in w2 5 then some (.inl ((w2 + (1 : Int32)), (xs_sA s 26 (upd (s.2.1 26) (w2).toNatClampNeg (v1))))) else none))
set_option maxHeartbeats 4000000 in
theorem xb_7_fill_53178_26_l5 {C : mm_C} {Q : mm_R} {pt : Value} {ps : Value} {pg : Value} {pr : Value}  (v1 : Int32) (v3 : Int32) (t : Int32 × xs_S) (x : (xs_S)) (hl : mo_loop (xf_7_fill_53178_26_l5 v1 v3) t = some x) (hK : (fun sy => mm_go C mm_Mk mm_Fk P_J7_fill_53178 Q (P_J7_fill_53178.drop 14) [] [] (xs_H pt ps pg pr sy) 0 0) x) : (mo_c2 (fun y2 sy => mm_go C mm_Mk mm_Fk P_J7_fill_53178 Q (P_J7_fill_53178.drop 5) [(0, .ref 26), (1, .int v1), (2, .int y2), (3, .int v3)] [] (xs_H pt ps pg pr sy) 0 0)) t := by
  refine mo_loop_go (G := (mo_c2 (fun y2 sy => mm_go C mm_Mk mm_Fk P_J7_fill_53178 Q (P_J7_fill_53178.drop 5) [(0, .ref 26), (1, .int v1), (2, .int y2), (3, .int v3)] [] (xs_H pt ps pg pr sy) 0 0)) ) (K := (fun sy => mm_go C mm_Mk mm_Fk P_J7_fill_53178 Q (P_J7_fill_53178.drop 14) [] [] (xs_H pt ps pg pr sy) 0 0) ) ?_ t x hl hK
  intro t r hf hK
  obtain ⟨w2, s⟩ := t
  unfold xf_7_fill_53178_26_l5 at hf
  by_cases c_1 : v3 ≤ w2
  · have hf := mo_pos hf c_1
    obtain rfl := Option.some.inj hf
    refine mm_adv 3 (cs' := P_J7_fill_53178.drop 14) (l' := [(0, .ref 26), (1, .int v1), (2, .int w2), (3, .int v3)]) (st' := []) (h' := (xs_H pt ps pg pr s)) (bc' := 0) (bs' := 0) (fun n g => (And.intro (fun _ => g) (fun q => absurd c_1 q))) ?_
    exact mm_re (c := []) hK rfl rfl
  · have hf := mo_neg hf c_1
    obtain ⟨hi_2, hf⟩ := mo_if hf
    obtain rfl := Option.some.inj hf
    refine mm_adv 9 (cs' := P_J7_fill_53178.drop 5) (l' := [(2, .int (w2 + (1 : Int32))), (0, .ref 26), (1, .int v1), (3, .int v3)]) (st' := []) (h' := (xs_H pt ps pg pr (xs_sA s 26 (upd (s.2.1 26) (w2).toNatClampNeg (v1))))) (bc' := 0) (bs' := 0) (fun n g => (And.intro (fun q => absurd q c_1) (fun _ => (And.intro hi_2 g)))) ?_
    exact mm_re (c := [(0, .ref 26), (1, .int v1), (2, .int (w2 + (1 : Int32))), (3, .int v3)]) hK rfl rfl
noncomputable def xf_7_fill_53178_26 (s : xs_S) (a1 : Int32) : Option (xs_S) :=
((mo_loop (xf_7_fill_53178_26_l5 (a1) ((Int32.ofNat 5))) ((0 : Int32), s)).bind fun s_3 =>
some s_3)
set_option maxHeartbeats 4000000 in
theorem xb_7_fill_53178_26 {C : mm_C} {Q : mm_R} {pt : Value} {ps : Value} {pg : Value} {pr : Value}  (s : xs_S) (a1 : Int32) (s2 : xs_S) (hf : xf_7_fill_53178_26 s a1 = some s2) (hK : Q (none) (xs_H pt ps pg pr s2)) : mm_go C mm_Mk mm_Fk P_J7_fill_53178 Q P_J7_fill_53178 [(0, .ref 26), (1, .int a1)] [] (xs_H pt ps pg pr s) 0 0 := by
  unfold xf_7_fill_53178_26 at hf
  obtain ⟨x_3, hl_3, hf⟩ := mo_bind hf
  refine mm_adv 5 (cs' := P_J7_fill_53178.drop 5) (l' := [(3, .int (Int32.ofNat 5)), (2, .int (0 : Int32)), (0, .ref 26), (1, .int a1)]) (st' := []) (h' := (xs_H pt ps pg pr s)) (bc' := 0) (bs' := 0) (fun n g => g) ?_
  refine mm_re (l' := [(0, .ref 26), (1, .int a1), (2, .int (0 : Int32)), (3, .int (Int32.ofNat 5))]) (c := [(0, .ref 26), (1, .int a1), (2, .int (0 : Int32)), (3, .int (Int32.ofNat 5))]) ?_ rfl rfl
  refine xb_7_fill_53178_26_l5  (a1) ((Int32.ofNat 5)) ((0 : Int32), s) x_3 hl_3 ?_
  obtain ⟨s_3, rfl⟩ : ∃ q, q = x_3 := ⟨_, rfl⟩
  obtain rfl := Option.some.inj hf
  exact ⟨1, hK⟩
def xk_7_fill_53178_26 (C : mm_C) : Prop := ∀ (pt : Value) (ps : Value) (pg : Value) (pr : Value) (s : xs_S) (a1 : Int32) (s2 : xs_S) (Q : mm_R), xf_7_fill_53178_26 s a1 = some s2 → Q (none) (xs_H pt ps pg pr s2) → C 123 [.ref 26, .int a1] (xs_H pt ps pg pr s) Q
-- 2_begin_25_17
noncomputable def xf_2_begin_25_17 (s : xs_S)  : Option (xs_S) :=
((xf_7_evenStanding_17 s ).bind fun (v_1, s_1) =>
((xf_7_fill_53178_26 (xs_sI (xs_sI (xs_sI (xs_sI (xs_sI s_1 400 (v_1)) 401 ((s_1.1 277))) 402 ((s_1.1 278))) 403 ((0 : Int32))) 404 ((0 : Int32))) ((0 : Int32))).bind fun s_2 =>
some s_2))
set_option maxHeartbeats 4000000 in
theorem xb_2_begin_25_17 {C : mm_C} {Q : mm_R} {pt : Value} {ps : Value} {pg : Value} {pr : Value} (h_7_evenStanding_17 : xk_7_evenStanding_17 C) (h_7_fill_53178_26 : xk_7_fill_53178_26 C) (s : xs_S)  (s2 : xs_S) (hf : xf_2_begin_25_17 s = some s2) (hK : Q (none) (xs_H pt ps pg pr s2)) : mm_go C mm_Mk mm_Fk P_X2_begin Q P_X2_begin [(0, .ref 25), (1, .ref 17)] [] (xs_H pt ps pg pr s) 0 0 := by
  unfold xf_2_begin_25_17 at hf
  obtain ⟨r_1, hr_1, hf⟩ := mo_bind hf
  obtain ⟨v_1, s_1⟩ := r_1
  obtain ⟨s_2, hr_2, hf⟩ := mo_bind hf
  obtain rfl := Option.some.inj hf
  exact ⟨23, (h_7_evenStanding_17 pt ps pg pr s  v_1 s_1 _ hr_1 (And.intro trivial (And.intro trivial (And.intro trivial (And.intro trivial (And.intro trivial (h_7_fill_53178_26 pt ps pg pr (xs_sI (xs_sI (xs_sI (xs_sI (xs_sI s_1 400 (v_1)) 401 ((s_1.1 277))) 402 ((s_1.1 278))) 403 ((0 : Int32))) 404 ((0 : Int32))) ((0 : Int32)) s_2 _ hr_2 hK)))))))⟩
def xk_2_begin_25_17 (C : mm_C) : Prop := ∀ (pt : Value) (ps : Value) (pg : Value) (pr : Value) (s : xs_S)  (s2 : xs_S) (Q : mm_R), xf_2_begin_25_17 s = some s2 → Q (none) (xs_H pt ps pg pr s2) → C 148 [.ref 25, .ref 17] (xs_H pt ps pg pr s) Q
-- 7_fill_53178_138
noncomputable def xf_7_fill_53178_138_l5 (v1 : Int32) (v3 : Int32) : (Int32 × xs_S) → Option ((Int32 × xs_S) ⊕ ((xs_S))) := fun (w2, s) =>
(if v3 ≤ w2 then
some (.inr (s))
else
(bif mo_in w2 25 then some (.inl ((w2 + (1 : Int32)), (xs_sA s 138 (upd (s.2.1 138) (w2).toNatClampNeg (v1))))) else none))
set_option maxHeartbeats 4000000 in
theorem xb_7_fill_53178_138_l5 {C : mm_C} {Q : mm_R} {pt : Value} {ps : Value} {pg : Value} {pr : Value}  (v1 : Int32) (v3 : Int32) (t : Int32 × xs_S) (x : (xs_S)) (hl : mo_loop (xf_7_fill_53178_138_l5 v1 v3) t = some x) (hK : (fun sy => mm_go C mm_Mk mm_Fk P_J7_fill_53178 Q (P_J7_fill_53178.drop 14) [] [] (xs_H pt ps pg pr sy) 0 0) x) : (mo_c2 (fun y2 sy => mm_go C mm_Mk mm_Fk P_J7_fill_53178 Q (P_J7_fill_53178.drop 5) [(0, .ref 138), (1, .int v1), (2, .int y2), (3, .int v3)] [] (xs_H pt ps pg pr sy) 0 0)) t := by
  refine mo_loop_go (G := (mo_c2 (fun y2 sy => mm_go C mm_Mk mm_Fk P_J7_fill_53178 Q (P_J7_fill_53178.drop 5) [(0, .ref 138), (1, .int v1), (2, .int y2), (3, .int v3)] [] (xs_H pt ps pg pr sy) 0 0)) ) (K := (fun sy => mm_go C mm_Mk mm_Fk P_J7_fill_53178 Q (P_J7_fill_53178.drop 14) [] [] (xs_H pt ps pg pr sy) 0 0) ) ?_ t x hl hK
  intro t r hf hK
  obtain ⟨w2, s⟩ := t
  unfold xf_7_fill_53178_138_l5 at hf
  by_cases c_1 : v3 ≤ w2
  · have hf := mo_pos hf c_1
    obtain rfl := Option.some.inj hf
    refine mm_adv 3 (cs' := P_J7_fill_53178.drop 14) (l' := [(0, .ref 138), (1, .int v1), (2, .int w2), (3, .int v3)]) (st' := []) (h' := (xs_H pt ps pg pr s)) (bc' := 0) (bs' := 0) (fun n g => (And.intro (fun _ => g) (fun q => absurd c_1 q))) ?_
    exact mm_re (c := []) hK rfl rfl
  · have hf := mo_neg hf c_1
    obtain ⟨hi_2, hf⟩ := mo_if hf
    obtain rfl := Option.some.inj hf
    refine mm_adv 9 (cs' := P_J7_fill_53178.drop 5) (l' := [(2, .int (w2 + (1 : Int32))), (0, .ref 138), (1, .int v1), (3, .int v3)]) (st' := []) (h' := (xs_H pt ps pg pr (xs_sA s 138 (upd (s.2.1 138) (w2).toNatClampNeg (v1))))) (bc' := 0) (bs' := 0) (fun n g => (And.intro (fun q => absurd q c_1) (fun _ => (And.intro hi_2 g)))) ?_
    exact mm_re (c := [(0, .ref 138), (1, .int v1), (2, .int (w2 + (1 : Int32))), (3, .int v3)]) hK rfl rfl
noncomputable def xf_7_fill_53178_138 (s : xs_S) (a1 : Int32) : Option (xs_S) :=
((mo_loop (xf_7_fill_53178_138_l5 (a1) ((Int32.ofNat 25))) ((0 : Int32), s)).bind fun s_3 =>
some s_3)
set_option maxHeartbeats 4000000 in
theorem xb_7_fill_53178_138 {C : mm_C} {Q : mm_R} {pt : Value} {ps : Value} {pg : Value} {pr : Value}  (s : xs_S) (a1 : Int32) (s2 : xs_S) (hf : xf_7_fill_53178_138 s a1 = some s2) (hK : Q (none) (xs_H pt ps pg pr s2)) : mm_go C mm_Mk mm_Fk P_J7_fill_53178 Q P_J7_fill_53178 [(0, .ref 138), (1, .int a1)] [] (xs_H pt ps pg pr s) 0 0 := by
  unfold xf_7_fill_53178_138 at hf
  obtain ⟨x_3, hl_3, hf⟩ := mo_bind hf
  refine mm_adv 5 (cs' := P_J7_fill_53178.drop 5) (l' := [(3, .int (Int32.ofNat 25)), (2, .int (0 : Int32)), (0, .ref 138), (1, .int a1)]) (st' := []) (h' := (xs_H pt ps pg pr s)) (bc' := 0) (bs' := 0) (fun n g => g) ?_
  refine mm_re (l' := [(0, .ref 138), (1, .int a1), (2, .int (0 : Int32)), (3, .int (Int32.ofNat 25))]) (c := [(0, .ref 138), (1, .int a1), (2, .int (0 : Int32)), (3, .int (Int32.ofNat 25))]) ?_ rfl rfl
  refine xb_7_fill_53178_138_l5  (a1) ((Int32.ofNat 25)) ((0 : Int32), s) x_3 hl_3 ?_
  obtain ⟨s_3, rfl⟩ : ∃ q, q = x_3 := ⟨_, rfl⟩
  obtain rfl := Option.some.inj hf
  exact ⟨1, hK⟩
def xk_7_fill_53178_138 (C : mm_C) : Prop := ∀ (pt : Value) (ps : Value) (pg : Value) (pr : Value) (s : xs_S) (a1 : Int32) (s2 : xs_S) (Q : mm_R), xf_7_fill_53178_138 s a1 = some s2 → Q (none) (xs_H pt ps pg pr s2) → C 123 [.ref 138, .int a1] (xs_H pt ps pg pr s) Q
-- 1_lift
noncomputable def xf_1_lift (s : xs_S)  : Option (xs_S) :=
some s
set_option maxHeartbeats 4000000 in
theorem xb_1_lift {C : mm_C} {Q : mm_R} {pt : Value} {ps : Value} {pr : Value}  (s : xs_S)  (s2 : xs_S) (hf : xf_1_lift s = some s2) (hK : Q (none) (xs_H pt ps (.null) pr s2)) : mm_go C mm_Mk mm_Fk P_X1_lift Q P_X1_lift [(0, .ref 117)] [] (xs_H pt ps (.ref 9) pr s) 0 0 := by
  unfold xf_1_lift at hf
  obtain rfl := Option.some.inj hf
  exact ⟨4, (And.intro trivial hK)⟩
def xk_1_lift (C : mm_C) : Prop := ∀ (pt : Value) (ps : Value) (pr : Value) (s : xs_S)  (s2 : xs_S) (Q : mm_R), xf_1_lift s = some s2 → Q (none) (xs_H pt ps (.null) pr s2) → C 136 [.ref 117] (xs_H pt ps (.ref 9) pr s) Q
-- 7_fill_53178_118
noncomputable def xf_7_fill_53178_118_l5 (v1 : Int32) (v3 : Int32) : (Int32 × xs_S) → Option ((Int32 × xs_S) ⊕ ((xs_S))) := fun (w2, s) =>
(if v3 ≤ w2 then
some (.inr (s))
else
(bif mo_in w2 294 then some (.inl ((w2 + (1 : Int32)), (xs_sA s 118 (upd (s.2.1 118) (w2).toNatClampNeg (v1))))) else none))
set_option maxHeartbeats 4000000 in
theorem xb_7_fill_53178_118_l5 {C : mm_C} {Q : mm_R} {pt : Value} {ps : Value} {pg : Value} {pr : Value}  (v1 : Int32) (v3 : Int32) (t : Int32 × xs_S) (x : (xs_S)) (hl : mo_loop (xf_7_fill_53178_118_l5 v1 v3) t = some x) (hK : (fun sy => mm_go C mm_Mk mm_Fk P_J7_fill_53178 Q (P_J7_fill_53178.drop 14) [] [] (xs_H pt ps pg pr sy) 0 0) x) : (mo_c2 (fun y2 sy => mm_go C mm_Mk mm_Fk P_J7_fill_53178 Q (P_J7_fill_53178.drop 5) [(0, .ref 118), (1, .int v1), (2, .int y2), (3, .int v3)] [] (xs_H pt ps pg pr sy) 0 0)) t := by
  refine mo_loop_go (G := (mo_c2 (fun y2 sy => mm_go C mm_Mk mm_Fk P_J7_fill_53178 Q (P_J7_fill_53178.drop 5) [(0, .ref 118), (1, .int v1), (2, .int y2), (3, .int v3)] [] (xs_H pt ps pg pr sy) 0 0)) ) (K := (fun sy => mm_go C mm_Mk mm_Fk P_J7_fill_53178 Q (P_J7_fill_53178.drop 14) [] [] (xs_H pt ps pg pr sy) 0 0) ) ?_ t x hl hK
  intro t r hf hK
  obtain ⟨w2, s⟩ := t
  unfold xf_7_fill_53178_118_l5 at hf
  by_cases c_1 : v3 ≤ w2
  · have hf := mo_pos hf c_1
    obtain rfl := Option.some.inj hf
    refine mm_adv 3 (cs' := P_J7_fill_53178.drop 14) (l' := [(0, .ref 118), (1, .int v1), (2, .int w2), (3, .int v3)]) (st' := []) (h' := (xs_H pt ps pg pr s)) (bc' := 0) (bs' := 0) (fun n g => (And.intro (fun _ => g) (fun q => absurd c_1 q))) ?_
    exact mm_re (c := []) hK rfl rfl
  · have hf := mo_neg hf c_1
    obtain ⟨hi_2, hf⟩ := mo_if hf
    obtain rfl := Option.some.inj hf
    refine mm_adv 9 (cs' := P_J7_fill_53178.drop 5) (l' := [(2, .int (w2 + (1 : Int32))), (0, .ref 118), (1, .int v1), (3, .int v3)]) (st' := []) (h' := (xs_H pt ps pg pr (xs_sA s 118 (upd (s.2.1 118) (w2).toNatClampNeg (v1))))) (bc' := 0) (bs' := 0) (fun n g => (And.intro (fun q => absurd q c_1) (fun _ => (And.intro hi_2 g)))) ?_
    exact mm_re (c := [(0, .ref 118), (1, .int v1), (2, .int (w2 + (1 : Int32))), (3, .int v3)]) hK rfl rfl
noncomputable def xf_7_fill_53178_118 (s : xs_S) (a1 : Int32) : Option (xs_S) :=
((mo_loop (xf_7_fill_53178_118_l5 (a1) ((Int32.ofNat 294))) ((0 : Int32), s)).bind fun s_3 =>
some s_3)
set_option maxHeartbeats 4000000 in
theorem xb_7_fill_53178_118 {C : mm_C} {Q : mm_R} {pt : Value} {ps : Value} {pg : Value} {pr : Value}  (s : xs_S) (a1 : Int32) (s2 : xs_S) (hf : xf_7_fill_53178_118 s a1 = some s2) (hK : Q (none) (xs_H pt ps pg pr s2)) : mm_go C mm_Mk mm_Fk P_J7_fill_53178 Q P_J7_fill_53178 [(0, .ref 118), (1, .int a1)] [] (xs_H pt ps pg pr s) 0 0 := by
  unfold xf_7_fill_53178_118 at hf
  obtain ⟨x_3, hl_3, hf⟩ := mo_bind hf
  refine mm_adv 5 (cs' := P_J7_fill_53178.drop 5) (l' := [(3, .int (Int32.ofNat 294)), (2, .int (0 : Int32)), (0, .ref 118), (1, .int a1)]) (st' := []) (h' := (xs_H pt ps pg pr s)) (bc' := 0) (bs' := 0) (fun n g => g) ?_
  refine mm_re (l' := [(0, .ref 118), (1, .int a1), (2, .int (0 : Int32)), (3, .int (Int32.ofNat 294))]) (c := [(0, .ref 118), (1, .int a1), (2, .int (0 : Int32)), (3, .int (Int32.ofNat 294))]) ?_ rfl rfl
  refine xb_7_fill_53178_118_l5  (a1) ((Int32.ofNat 294)) ((0 : Int32), s) x_3 hl_3 ?_
  obtain ⟨s_3, rfl⟩ : ∃ q, q = x_3 := ⟨_, rfl⟩
  obtain rfl := Option.some.inj hf
  exact ⟨1, hK⟩
def xk_7_fill_53178_118 (C : mm_C) : Prop := ∀ (pt : Value) (ps : Value) (pg : Value) (pr : Value) (s : xs_S) (a1 : Int32) (s2 : xs_S) (Q : mm_R), xf_7_fill_53178_118 s a1 = some s2 → Q (none) (xs_H pt ps pg pr s2) → C 123 [.ref 118, .int a1] (xs_H pt ps pg pr s) Q
-- 1_lay_17_p2n
noncomputable def xf_1_lay_17_p2n_j12 (s : xs_S) (v2 : Int32) (v3 : Int32) : Option (xs_S) :=
((xf_7_fill_53178_118 (xs_sI (xs_sI (xs_sI s 1873 (v2)) 1874 (v3)) 1875 (((s.1 1875) + (1 : Int32)))) ((-1 : Int32))).bind fun s_1 =>
some s_1)
set_option maxHeartbeats 4000000 in
theorem xb_1_lay_17_p2n_j12 {C : mm_C} {Q : mm_R} {pt : Value} {ps : Value} {pr : Value} (h_7_fill_53178_118 : xk_7_fill_53178_118 C) (s : xs_S) (v2 : Int32) (v3 : Int32) (s2 : xs_S) (hf : xf_1_lay_17_p2n_j12 s v2 v3 = some s2) (hK : Q (none) (xs_H pt ps (.ref 17) pr s2)) : mm_go C mm_Mk mm_Fk P_X1_lay Q (P_X1_lay.drop 12) [(0, .ref 117), (1, .ref 17), (2, .int v2), (3, .int v3)] [] (xs_H pt ps (.null) pr s) 0 0 := by
  unfold xf_1_lay_17_p2n_j12 at hf
  obtain ⟨s_1, hr_1, hf⟩ := mo_bind hf
  obtain rfl := Option.some.inj hf
  exact ⟨20, (And.intro trivial (And.intro trivial (And.intro trivial (And.intro trivial (h_7_fill_53178_118 pt ps (.ref 17) pr (xs_sI (xs_sI (xs_sI s 1873 (v2)) 1874 (v3)) 1875 (((s.1 1875) + (1 : Int32)))) ((-1 : Int32)) s_1 _ hr_1 hK)))))⟩
noncomputable def xf_1_lay_17_p2n (s : xs_S) (a1 : Int32) (a2 : Int32) : Option (xs_S) :=
(xf_1_lay_17_p2n_j12 (s) (a1) (a2))
set_option maxHeartbeats 4000000 in
theorem xb_1_lay_17_p2n {C : mm_C} {Q : mm_R} {pt : Value} {ps : Value} {pr : Value} (h_7_fill_53178_118 : xk_7_fill_53178_118 C) (s : xs_S) (a1 : Int32) (a2 : Int32) (s2 : xs_S) (hf : xf_1_lay_17_p2n s a1 a2 = some s2) (hK : Q (none) (xs_H pt ps (.ref 17) pr s2)) : mm_go C mm_Mk mm_Fk P_X1_lay Q P_X1_lay [(0, .ref 117), (1, .ref 17), (2, .int a1), (3, .int a2)] [] (xs_H pt ps (.null) pr s) 0 0 := by
  unfold xf_1_lay_17_p2n at hf
  refine mm_adv 3 (cs' := P_X1_lay.drop 12) (l' := [(0, .ref 117), (1, .ref 17), (2, .int a1), (3, .int a2)]) (st' := []) (h' := (xs_H pt ps (.null) pr s)) (bc' := 0) (bs' := 0) (fun n g => g) ?_
  refine mm_re (l' := [(0, .ref 117), (1, .ref 17), (2, .int a1), (3, .int a2)]) (c := [(0, .ref 117), (1, .ref 17), (2, .int a1), (3, .int a2)]) ?_ rfl rfl
  exact xb_1_lay_17_p2n_j12 h_7_fill_53178_118 s (a1) (a2) _ hf hK
def xk_1_lay_17_p2n (C : mm_C) : Prop := ∀ (pt : Value) (ps : Value) (pr : Value) (s : xs_S) (a1 : Int32) (a2 : Int32) (s2 : xs_S) (Q : mm_R), xf_1_lay_17_p2n s a1 a2 = some s2 → Q (none) (xs_H pt ps (.ref 17) pr s2) → C 137 [.ref 117, .ref 17, .int a1, .int a2] (xs_H pt ps (.null) pr s) Q
-- 11_beginAnew_p017
noncomputable def xf_11_beginAnew_p017_l15  : (Int32 × xs_S) → Option ((Int32 × xs_S) ⊕ ((xs_S))) := fun (w1, s) =>
(if (3 : Int32) ≤ w1 then
some (.inr (s))
else
(bif mo_in w1 3 then some (.inl ((w1 + (1 : Int32)), (xs_sA s 116 (upd (s.2.1 116) (w1).toNatClampNeg ((vp_nar .boolean (0 : Int32))))))) else none))
set_option maxHeartbeats 4000000 in
theorem xb_11_beginAnew_p017_l15 {C : mm_C} {Q : mm_R} {ps : Value} {pr : Value} (h_2_begin_25_17 : xk_2_begin_25_17 C) (h_7_fill_53178_138 : xk_7_fill_53178_138 C) (h_1_lift : xk_1_lift C) (h_1_lay_17_p2n : xk_1_lay_17_p2n C)  (t : Int32 × xs_S) (x : (xs_S)) (hl : mo_loop (xf_11_beginAnew_p017_l15 ) t = some x) (hK : (fun sy => mm_go C mm_Mk mm_Fk P_X11_beginAnew Q (P_X11_beginAnew.drop 25) [(0, .ref 0)] [] (xs_H (.ref 17) ps (.ref 9) pr sy) 0 0) x) : (mo_c2 (fun y1 sy => mm_go C mm_Mk mm_Fk P_X11_beginAnew Q (P_X11_beginAnew.drop 15) [(0, .ref 0), (1, .int y1)] [] (xs_H (.ref 17) ps (.ref 9) pr sy) 0 0)) t := by
  refine mo_loop_go (G := (mo_c2 (fun y1 sy => mm_go C mm_Mk mm_Fk P_X11_beginAnew Q (P_X11_beginAnew.drop 15) [(0, .ref 0), (1, .int y1)] [] (xs_H (.ref 17) ps (.ref 9) pr sy) 0 0)) ) (K := (fun sy => mm_go C mm_Mk mm_Fk P_X11_beginAnew Q (P_X11_beginAnew.drop 25) [(0, .ref 0)] [] (xs_H (.ref 17) ps (.ref 9) pr sy) 0 0) ) ?_ t x hl hK
  intro t r hf hK
  obtain ⟨w1, s⟩ := t
  unfold xf_11_beginAnew_p017_l15 at hf
  by_cases c_2 : (3 : Int32) ≤ w1
  · have hf := mo_pos hf c_2
    obtain rfl := Option.some.inj hf
    refine mm_adv 3 (cs' := P_X11_beginAnew.drop 25) (l' := [(0, .ref 0), (1, .int w1)]) (st' := []) (h' := (xs_H (.ref 17) ps (.ref 9) pr s)) (bc' := 0) (bs' := 0) (fun n g => (And.intro (fun _ => g) (fun q => absurd c_2 q))) ?_
    exact mm_re (c := [(0, .ref 0)]) hK rfl rfl
  · have hf := mo_neg hf c_2
    obtain ⟨hi_3, hf⟩ := mo_if hf
    obtain rfl := Option.some.inj hf
    refine mm_adv 10 (cs' := P_X11_beginAnew.drop 15) (l' := [(1, .int (w1 + (1 : Int32))), (0, .ref 0)]) (st' := []) (h' := (xs_H (.ref 17) ps (.ref 9) pr (xs_sA s 116 (upd (s.2.1 116) (w1).toNatClampNeg ((vp_nar .boolean (0 : Int32))))))) (bc' := 0) (bs' := 0) (fun n g => (And.intro (fun q => absurd q c_2) (fun _ => (And.intro hi_3 g)))) ?_
    exact mm_re (c := [(0, .ref 0), (1, .int (w1 + (1 : Int32)))]) hK rfl rfl
noncomputable def xf_11_beginAnew_p017 (s : xs_S)  : Option (xs_S) :=
((xf_2_begin_25_17 s ).bind fun s_1 =>
((mo_loop (xf_11_beginAnew_p017_l15 ) ((0 : Int32), (xs_sI (xs_sI s_1 434 ((0 : Int32))) 1924 ((0 : Int32))))).bind fun s_4 =>
((xf_7_fill_53178_138 s_4 ((-1 : Int32))).bind fun s_5 =>
((xf_1_lift s_5 ).bind fun s_6 =>
((xf_1_lay_17_p2n s_6 ((s_6.1 401)) ((s_6.1 402))).bind fun s_7 =>
some s_7)))))
set_option maxHeartbeats 4000000 in
theorem xb_11_beginAnew_p017 {C : mm_C} {Q : mm_R} {ps : Value} {pr : Value} (h_2_begin_25_17 : xk_2_begin_25_17 C) (h_7_fill_53178_138 : xk_7_fill_53178_138 C) (h_1_lift : xk_1_lift C) (h_1_lay_17_p2n : xk_1_lay_17_p2n C) (s : xs_S)  (s2 : xs_S) (hf : xf_11_beginAnew_p017 s = some s2) (hK : Q (none) (xs_H (.ref 17) ps (.ref 17) pr s2)) : mm_go C mm_Mk mm_Fk P_X11_beginAnew Q P_X11_beginAnew [(0, .ref 0)] [] (xs_H (.ref 17) ps (.ref 9) pr s) 0 0 := by
  unfold xf_11_beginAnew_p017 at hf
  obtain ⟨s_1, hr_1, hf⟩ := mo_bind hf
  obtain ⟨x_4, hl_4, hf⟩ := mo_bind hf
  refine mm_adv 15 (cs' := P_X11_beginAnew.drop 15) (l' := [(1, .int (0 : Int32)), (0, .ref 0)]) (st' := []) (h' := (xs_H (.ref 17) ps (.ref 9) pr (xs_sI (xs_sI s_1 434 ((0 : Int32))) 1924 ((0 : Int32))))) (bc' := 0) (bs' := 0) (fun n g => (h_2_begin_25_17 (.ref 17) ps (.ref 9) pr s  s_1 _ hr_1 (And.intro trivial (And.intro trivial g)))) ?_
  refine mm_re (l' := [(0, .ref 0), (1, .int (0 : Int32))]) (c := [(0, .ref 0), (1, .int (0 : Int32))]) ?_ rfl rfl
  refine xb_11_beginAnew_p017_l15 h_2_begin_25_17 h_7_fill_53178_138 h_1_lift h_1_lay_17_p2n  ((0 : Int32), (xs_sI (xs_sI s_1 434 ((0 : Int32))) 1924 ((0 : Int32)))) x_4 hl_4 ?_
  obtain ⟨s_4, rfl⟩ : ∃ q, q = x_4 := ⟨_, rfl⟩
  obtain ⟨s_5, hr_5, hf⟩ := mo_bind hf
  obtain ⟨s_6, hr_6, hf⟩ := mo_bind hf
  obtain ⟨s_7, hr_7, hf⟩ := mo_bind hf
  obtain rfl := Option.some.inj hf
  exact ⟨19, (h_7_fill_53178_138 (.ref 17) ps (.ref 9) pr s_4 ((-1 : Int32)) s_5 _ hr_5 (h_1_lift (.ref 17) ps pr s_5  s_6 _ hr_6 (h_1_lay_17_p2n (.ref 17) ps pr s_6 ((s_6.1 401)) ((s_6.1 402)) s_7 _ hr_7 hK)))⟩
def xk_11_beginAnew_p017 (C : mm_C) : Prop := ∀ (ps : Value) (pr : Value) (s : xs_S)  (s2 : xs_S) (Q : mm_R), xf_11_beginAnew_p017 s = some s2 → Q (none) (xs_H (.ref 17) ps (.ref 17) pr s2) → C 261 [.ref 0] (xs_H (.ref 17) ps (.ref 9) pr s) Q
-- 11_place
noncomputable def xf_11_place (s : xs_S)  : Option (Int32 × xs_S) :=
some ((s.1 4), s)
set_option maxHeartbeats 4000000 in
theorem xb_11_place {C : mm_C} {Q : mm_R} {pt : Value} {ps : Value} {pg : Value} {pr : Value}  (s : xs_S)  (v : Int32) (s2 : xs_S) (hf : xf_11_place s = some (v, s2)) (hK : Q (some (.int v)) (xs_H pt ps pg pr s2)) : mm_go C mm_Mk mm_Fk P_X11_place Q P_X11_place [(0, .ref 0)] [] (xs_H pt ps pg pr s) 0 0 := by
  unfold xf_11_place at hf
  obtain ⟨rfl, rfl⟩ := mo_pair hf
  exact ⟨3, hK⟩
def xk_11_place (C : mm_C) : Prop := ∀ (pt : Value) (ps : Value) (pg : Value) (pr : Value) (s : xs_S)  (v : Int32) (s2 : xs_S) (Q : mm_R), xf_11_place s = some (v, s2) → Q (some (.int v)) (xs_H pt ps pg pr s2) → C 228 [.ref 0] (xs_H pt ps pg pr s) Q
-- 7_hasSpeaker_9
noncomputable def xf_7_hasSpeaker_9 (s : xs_S) (a0 : Int32) : Option (Int32 × xs_S) :=
(if a0 < (0 : Int32) then
some ((0 : Int32), s)
else
(if (s.1 147) ≤ a0 then
some ((0 : Int32), s)
else
some ((1 : Int32), s)))
set_option maxHeartbeats 4000000 in
theorem xb_7_hasSpeaker_9 {C : mm_C} {Q : mm_R} {pt : Value} {ps : Value} {pg : Value} {pr : Value}  (s : xs_S) (a0 : Int32) (v : Int32) (s2 : xs_S) (hf : xf_7_hasSpeaker_9 s a0 = some (v, s2)) (hK : Q (some (.int v)) (xs_H pt ps pg pr s2)) : mm_go C mm_Mk mm_Fk P_X7_hasSpeaker Q P_X7_hasSpeaker [(0, .ref 9), (1, .int a0)] [] (xs_H pt ps pg pr s) 0 0 := by
  unfold xf_7_hasSpeaker_9 at hf
  by_cases c_1 : a0 < (0 : Int32)
  · have hf := mo_pos hf c_1
    obtain ⟨rfl, rfl⟩ := mo_pair hf
    exact ⟨4, (And.intro (fun _ => (And.intro rfl hK)) (fun q => absurd c_1 q))⟩
  · have hf := mo_neg hf c_1
    by_cases c_2 : (s.1 147) ≤ a0
    · have hf := mo_pos hf c_2
      obtain ⟨rfl, rfl⟩ := mo_pair hf
      exact ⟨8, (And.intro (fun q => absurd q c_1) (fun _ => (And.intro (fun _ => (And.intro rfl hK)) (fun q => absurd c_2 q))))⟩
    · have hf := mo_neg hf c_2
      obtain ⟨rfl, rfl⟩ := mo_pair hf
      exact ⟨9, (And.intro (fun q => absurd q c_1) (fun _ => (And.intro (fun q => absurd q c_2) (fun _ => (And.intro rfl hK)))))⟩
def xk_7_hasSpeaker_9 (C : mm_C) : Prop := ∀ (pt : Value) (ps : Value) (pg : Value) (pr : Value) (s : xs_S) (a0 : Int32) (v : Int32) (s2 : xs_S) (Q : mm_R), xf_7_hasSpeaker_9 s a0 = some (v, s2) → Q (some (.int v)) (xs_H pt ps pg pr s2) → C 189 [.ref 9, .int a0] (xs_H pt ps pg pr s) Q
-- 11_speaker
noncomputable def xf_11_speaker (s : xs_S) (a0 : Int32) (a1 : Int32) : Option (Int32 × xs_S) :=
((xf_7_hasSpeaker_9 s (a0)).bind fun (v_1, s_1) =>
(if v_1 = (0 : Int32) then
some ((-1 : Int32), s_1)
else
(if a1 = (0 : Int32) then
((mo_ag 5 (s_1.2.1 10) a0).bind fun x_4 =>
some (x_4, s_1))
else
(if a1 = (1 : Int32) then
(if a0 = (s_1.1 401) then
some ((0 : Int32), s_1)
else
(if a0 = (s_1.1 402) then
some ((1 : Int32), s_1)
else
some ((-2 : Int32), s_1)))
else
(if a1 = (2 : Int32) then
((mo_ag 5 (s_1.2.1 26) a0).bind fun x_7 =>
some (x_7, s_1))
else
some ((-1 : Int32), s_1))))))
set_option maxHeartbeats 4000000 in
theorem xb_11_speaker {C : mm_C} {Q : mm_R} {ps : Value} {pg : Value} {pr : Value} (h_7_hasSpeaker_9 : xk_7_hasSpeaker_9 C) (s : xs_S) (a0 : Int32) (a1 : Int32) (v : Int32) (s2 : xs_S) (hf : xf_11_speaker s a0 a1 = some (v, s2)) (hK : Q (some (.int v)) (xs_H (.ref 9) ps pg pr s2)) : mm_go C mm_Mk mm_Fk P_X11_speaker Q P_X11_speaker [(0, .ref 0), (1, .int a0), (2, .int a1)] [] (xs_H (.ref 9) ps pg pr s) 0 0 := by
  unfold xf_11_speaker at hf
  obtain ⟨r_1, hr_1, hf⟩ := mo_bind hf
  obtain ⟨v_1, s_1⟩ := r_1
  by_cases c_2 : v_1 = (0 : Int32)
  · have hf := mo_pos hf c_2
    obtain ⟨rfl, rfl⟩ := mo_pair hf
    exact ⟨7, (h_7_hasSpeaker_9 (.ref 9) ps pg pr s (a0) v_1 s_1 _ hr_1 (And.intro (fun q => absurd c_2 q) (fun _ => hK)))⟩
  · have hf := mo_neg hf c_2
    by_cases c_3_0 : a1 = (0 : Int32)
    · have hf := mo_pos hf c_3_0
      obtain ⟨x_4, hx_4, hf⟩ := mo_bind hf
      obtain ⟨hi_4, rfl⟩ := mo_ag_inv hx_4
      obtain ⟨rfl, rfl⟩ := mo_pair hf
      exact ⟨13, (h_7_hasSpeaker_9 (.ref 9) ps pg pr s (a0) v_1 s_1 _ hr_1 (And.intro (fun _ => (And.intro (fun _ => (And.intro hi_4 hK)) (fun q => absurd c_3_0 q))) (fun q => absurd c_2 q)))⟩
    replace hf := mo_neg hf c_3_0
    by_cases c_3_1 : a1 = (1 : Int32)
    · have hf := mo_pos hf c_3_1
      by_cases c_5 : a0 = (s_1.1 401)
      · have hf := mo_pos hf c_5
        obtain ⟨rfl, rfl⟩ := mo_pair hf
        exact ⟨14, (h_7_hasSpeaker_9 (.ref 9) ps pg pr s (a0) v_1 s_1 _ hr_1 (And.intro (fun _ => (And.intro (fun q => absurd q c_3_0) (fun _ => (And.intro (fun _ => (And.intro (fun q => absurd c_5 q) (fun _ => hK))) (fun q => absurd c_3_1 q))))) (fun q => absurd c_2 q)))⟩
      · have hf := mo_neg hf c_5
        by_cases c_6 : a0 = (s_1.1 402)
        · have hf := mo_pos hf c_6
          obtain ⟨rfl, rfl⟩ := mo_pair hf
          exact ⟨20, (h_7_hasSpeaker_9 (.ref 9) ps pg pr s (a0) v_1 s_1 _ hr_1 (And.intro (fun _ => (And.intro (fun q => absurd q c_3_0) (fun _ => (And.intro (fun _ => (And.intro (fun _ => (And.intro (fun q => absurd c_6 q) (fun _ => hK))) (fun q => absurd c_5 q))) (fun q => absurd c_3_1 q))))) (fun q => absurd c_2 q)))⟩
        · have hf := mo_neg hf c_6
          obtain ⟨rfl, rfl⟩ := mo_pair hf
          exact ⟨19, (h_7_hasSpeaker_9 (.ref 9) ps pg pr s (a0) v_1 s_1 _ hr_1 (And.intro (fun _ => (And.intro (fun q => absurd q c_3_0) (fun _ => (And.intro (fun _ => (And.intro (fun _ => (And.intro (fun _ => hK) (fun q => absurd c_6 q))) (fun q => absurd c_5 q))) (fun q => absurd c_3_1 q))))) (fun q => absurd c_2 q)))⟩
    replace hf := mo_neg hf c_3_1
    by_cases c_3_2 : a1 = (2 : Int32)
    · have hf := mo_pos hf c_3_2
      obtain ⟨x_7, hx_7, hf⟩ := mo_bind hf
      obtain ⟨hi_7, rfl⟩ := mo_ag_inv hx_7
      obtain ⟨rfl, rfl⟩ := mo_pair hf
      exact ⟨13, (h_7_hasSpeaker_9 (.ref 9) ps pg pr s (a0) v_1 s_1 _ hr_1 (And.intro (fun _ => (And.intro (fun q => absurd q c_3_0) (fun _ => (And.intro (fun q => absurd q c_3_1) (fun _ => (And.intro (fun _ => (And.intro hi_7 hK)) (fun q => absurd c_3_2 q))))))) (fun q => absurd c_2 q)))⟩
    replace hf := mo_neg hf c_3_2
    obtain ⟨rfl, rfl⟩ := mo_pair hf
    exact ⟨9, (h_7_hasSpeaker_9 (.ref 9) ps pg pr s (a0) v_1 s_1 _ hr_1 (And.intro (fun _ => (And.intro (fun q => absurd q c_3_0) (fun _ => (And.intro (fun q => absurd q c_3_1) (fun _ => (And.intro (fun q => absurd q c_3_2) (fun _ => hK))))))) (fun q => absurd c_2 q)))⟩
def xk_11_speaker (C : mm_C) : Prop := ∀ (ps : Value) (pg : Value) (pr : Value) (s : xs_S) (a0 : Int32) (a1 : Int32) (v : Int32) (s2 : xs_S) (Q : mm_R), xf_11_speaker s a0 a1 = some (v, s2) → Q (some (.int v)) (xs_H (.ref 9) ps pg pr s2) → C 229 [.ref 0, .int a0, .int a1] (xs_H (.ref 9) ps pg pr s) Q
-- 7_hasWord_9
noncomputable def xf_7_hasWord_9 (s : xs_S) (a0 : Int32) : Option (Int32 × xs_S) :=
(if a0 < (0 : Int32) then
some ((0 : Int32), s)
else
(if (s.1 148) ≤ a0 then
some ((0 : Int32), s)
else
some ((1 : Int32), s)))
set_option maxHeartbeats 4000000 in
theorem xb_7_hasWord_9 {C : mm_C} {Q : mm_R} {pt : Value} {ps : Value} {pg : Value} {pr : Value}  (s : xs_S) (a0 : Int32) (v : Int32) (s2 : xs_S) (hf : xf_7_hasWord_9 s a0 = some (v, s2)) (hK : Q (some (.int v)) (xs_H pt ps pg pr s2)) : mm_go C mm_Mk mm_Fk P_X7_hasWord Q P_X7_hasWord [(0, .ref 9), (1, .int a0)] [] (xs_H pt ps pg pr s) 0 0 := by
  unfold xf_7_hasWord_9 at hf
  by_cases c_1 : a0 < (0 : Int32)
  · have hf := mo_pos hf c_1
    obtain ⟨rfl, rfl⟩ := mo_pair hf
    exact ⟨4, (And.intro (fun _ => (And.intro rfl hK)) (fun q => absurd c_1 q))⟩
  · have hf := mo_neg hf c_1
    by_cases c_2 : (s.1 148) ≤ a0
    · have hf := mo_pos hf c_2
      obtain ⟨rfl, rfl⟩ := mo_pair hf
      exact ⟨8, (And.intro (fun q => absurd q c_1) (fun _ => (And.intro (fun _ => (And.intro rfl hK)) (fun q => absurd c_2 q))))⟩
    · have hf := mo_neg hf c_2
      obtain ⟨rfl, rfl⟩ := mo_pair hf
      exact ⟨9, (And.intro (fun q => absurd q c_1) (fun _ => (And.intro (fun q => absurd q c_2) (fun _ => (And.intro rfl hK)))))⟩
def xk_7_hasWord_9 (C : mm_C) : Prop := ∀ (pt : Value) (ps : Value) (pg : Value) (pr : Value) (s : xs_S) (a0 : Int32) (v : Int32) (s2 : xs_S) (Q : mm_R), xf_7_hasWord_9 s a0 = some (v, s2) → Q (some (.int v)) (xs_H pt ps pg pr s2) → C 190 [.ref 9, .int a0] (xs_H pt ps pg pr s) Q
-- 1_hasPair
noncomputable def xf_1_hasPair (s : xs_S)  : Option (Int32 × xs_S) :=
(if (s.1 1873) < (0 : Int32) then
some ((0 : Int32), s)
else
(if (s.1 1874) < (0 : Int32) then
some ((0 : Int32), s)
else
some ((1 : Int32), s)))
set_option maxHeartbeats 4000000 in
theorem xb_1_hasPair {C : mm_C} {Q : mm_R} {pt : Value} {ps : Value} {pr : Value}  (s : xs_S)  (v : Int32) (s2 : xs_S) (hf : xf_1_hasPair s = some (v, s2)) (hK : Q (some (.int v)) (xs_H pt ps (.ref 9) pr s2)) : mm_go C mm_Mk mm_Fk P_X1_hasPair Q P_X1_hasPair [(0, .ref 117)] [] (xs_H pt ps (.ref 9) pr s) 0 0 := by
  unfold xf_1_hasPair at hf
  by_cases c_1 : (s.1 1873) < (0 : Int32)
  · have hf := mo_pos hf c_1
    obtain ⟨rfl, rfl⟩ := mo_pair hf
    exact ⟨8, (And.intro (fun _ => (And.intro rfl hK)) (fun q => absurd c_1 q))⟩
  · have hf := mo_neg hf c_1
    by_cases c_2 : (s.1 1874) < (0 : Int32)
    · have hf := mo_pos hf c_2
      obtain ⟨rfl, rfl⟩ := mo_pair hf
      exact ⟨11, (And.intro (fun q => absurd q c_1) (fun _ => (And.intro (fun _ => (And.intro rfl hK)) (fun q => absurd c_2 q))))⟩
    · have hf := mo_neg hf c_2
      obtain ⟨rfl, rfl⟩ := mo_pair hf
      exact ⟨12, (And.intro (fun q => absurd q c_1) (fun _ => (And.intro (fun q => absurd q c_2) (fun _ => (And.intro rfl hK)))))⟩
def xk_1_hasPair (C : mm_C) : Prop := ∀ (pt : Value) (ps : Value) (pr : Value) (s : xs_S)  (v : Int32) (s2 : xs_S) (Q : mm_R), xf_1_hasPair s = some (v, s2) → Q (some (.int v)) (xs_H pt ps (.ref 9) pr s2) → C 144 [.ref 117] (xs_H pt ps (.ref 9) pr s) Q
-- 11_slopeOf
noncomputable def xf_11_slopeOf (a0 : Int32) : Option (Int32) :=
some ((a0 / (14 : Int32)))
set_option maxHeartbeats 4000000 in
theorem xb_11_slopeOf {C : mm_C} {Q : mm_R}  {h : mm_H} (a0 : Int32) (v : Int32) (hf : xf_11_slopeOf a0 = some v) (hK : Q (some (.int v)) h) : mm_go C mm_Mk mm_Fk P_X11_slopeOf Q P_X11_slopeOf [(0, .int a0)] [] h 0 0 := by
  unfold xf_11_slopeOf at hf
  obtain rfl := Option.some.inj hf
  exact ⟨4, (And.intro (by decide) hK)⟩
def xk_11_slopeOf (C : mm_C) : Prop := ∀ (h : mm_H) (a0 : Int32) (v : Int32) (Q : mm_R), xf_11_slopeOf a0 = some v → Q (some (.int v)) h → C 270 [.int a0] h Q
-- 11_isAwake
noncomputable def xf_11_isAwake (a0 : Int32) : Option (Int32) :=
((xf_11_slopeOf (a0)).bind fun v_1 =>
(if v_1 ≤ (0 : Int32) then
some ((1 : Int32))
else
(if v_1 < (20 : Int32) then
some ((0 : Int32))
else
some ((1 : Int32)))))
set_option maxHeartbeats 4000000 in
theorem xb_11_isAwake {C : mm_C} {Q : mm_R} (h_11_slopeOf : xk_11_slopeOf C) {h : mm_H} (a0 : Int32) (v : Int32) (hf : xf_11_isAwake a0 = some v) (hK : Q (some (.int v)) h) : mm_go C mm_Mk mm_Fk P_X11_isAwake Q P_X11_isAwake [(0, .int a0)] [] h 0 0 := by
  unfold xf_11_isAwake at hf
  obtain ⟨v_1, hr_1, hf⟩ := mo_bind hf
  by_cases c_2 : v_1 ≤ (0 : Int32)
  · have hf := mo_pos hf c_2
    obtain rfl := Option.some.inj hf
    exact ⟨8, (h_11_slopeOf _ (a0) v_1 _ hr_1 (And.intro (fun _ => (And.intro rfl hK)) (fun q => absurd c_2 q)))⟩
  · have hf := mo_neg hf c_2
    by_cases c_3 : v_1 < (20 : Int32)
    · have hf := mo_pos hf c_3
      obtain rfl := Option.some.inj hf
      exact ⟨10, (h_11_slopeOf _ (a0) v_1 _ hr_1 (And.intro (fun q => absurd q c_2) (fun _ => (And.intro (fun _ => (And.intro rfl hK)) (fun q => absurd c_3 q)))))⟩
    · have hf := mo_neg hf c_3
      obtain rfl := Option.some.inj hf
      exact ⟨11, (h_11_slopeOf _ (a0) v_1 _ hr_1 (And.intro (fun q => absurd q c_2) (fun _ => (And.intro (fun q => absurd q c_3) (fun _ => (And.intro rfl hK))))))⟩
def xk_11_isAwake (C : mm_C) : Prop := ∀ (h : mm_H) (a0 : Int32) (v : Int32) (Q : mm_R), xf_11_isAwake a0 = some v → Q (some (.int v)) h → C 273 [.int a0] h Q
-- 11_lastOf
noncomputable def xf_11_lastOf (a0 : Int32) : Option (Int32) :=
some (((a0 - a0 / (7 : Int32) * (7 : Int32)) - (1 : Int32)))
set_option maxHeartbeats 4000000 in
theorem xb_11_lastOf {C : mm_C} {Q : mm_R}  {h : mm_H} (a0 : Int32) (v : Int32) (hf : xf_11_lastOf a0 = some v) (hK : Q (some (.int v)) h) : mm_go C mm_Mk mm_Fk P_X11_lastOf Q P_X11_lastOf [(0, .int a0)] [] h 0 0 := by
  unfold xf_11_lastOf at hf
  obtain rfl := Option.some.inj hf
  exact ⟨6, (And.intro (by decide) hK)⟩
def xk_11_lastOf (C : mm_C) : Prop := ∀ (h : mm_H) (a0 : Int32) (v : Int32) (Q : mm_R), xf_11_lastOf a0 = some v → Q (some (.int v)) h → C 272 [.int a0] h Q
-- 11_turnOf
noncomputable def xf_11_turnOf (a0 : Int32) : Option (Int32) :=
some (((a0 / (7 : Int32)) - (a0 / (7 : Int32)) / (2 : Int32) * (2 : Int32)))
set_option maxHeartbeats 4000000 in
theorem xb_11_turnOf {C : mm_C} {Q : mm_R}  {h : mm_H} (a0 : Int32) (v : Int32) (hf : xf_11_turnOf a0 = some v) (hK : Q (some (.int v)) h) : mm_go C mm_Mk mm_Fk P_X11_turnOf Q P_X11_turnOf [(0, .int a0)] [] h 0 0 := by
  unfold xf_11_turnOf at hf
  obtain rfl := Option.some.inj hf
  exact ⟨6, (And.intro (by decide) (And.intro (by decide) hK))⟩
def xk_11_turnOf (C : mm_C) : Prop := ∀ (h : mm_H) (a0 : Int32) (v : Int32) (Q : mm_R), xf_11_turnOf a0 = some v → Q (some (.int v)) h → C 271 [.int a0] h Q
-- 7_tongueOf_9
noncomputable def xf_7_tongueOf_9 (s : xs_S) (a0 : Int32) : Option (Int32 × xs_S) :=
((xf_7_hasSpeaker_9 s (a0)).bind fun (v_1, s_1) =>
(if v_1 = (0 : Int32) then
some ((0 : Int32), s_1)
else
((mo_ag 5 (s_1.2.1 10) a0).bind fun x_3 =>
some (x_3, s_1))))
set_option maxHeartbeats 4000000 in
theorem xb_7_tongueOf_9 {C : mm_C} {Q : mm_R} {pt : Value} {ps : Value} {pg : Value} {pr : Value} (h_7_hasSpeaker_9 : xk_7_hasSpeaker_9 C) (s : xs_S) (a0 : Int32) (v : Int32) (s2 : xs_S) (hf : xf_7_tongueOf_9 s a0 = some (v, s2)) (hK : Q (some (.int v)) (xs_H pt ps pg pr s2)) : mm_go C mm_Mk mm_Fk P_X7_tongueOf Q P_X7_tongueOf [(0, .ref 9), (1, .int a0)] [] (xs_H pt ps pg pr s) 0 0 := by
  unfold xf_7_tongueOf_9 at hf
  obtain ⟨r_1, hr_1, hf⟩ := mo_bind hf
  obtain ⟨v_1, s_1⟩ := r_1
  by_cases c_2 : v_1 = (0 : Int32)
  · have hf := mo_pos hf c_2
    obtain ⟨rfl, rfl⟩ := mo_pair hf
    exact ⟨6, (h_7_hasSpeaker_9 pt ps pg pr s (a0) v_1 s_1 _ hr_1 (And.intro (fun _ => hK) (fun q => absurd c_2 q)))⟩
  · have hf := mo_neg hf c_2
    obtain ⟨x_3, hx_3, hf⟩ := mo_bind hf
    obtain ⟨hi_3, rfl⟩ := mo_ag_inv hx_3
    obtain ⟨rfl, rfl⟩ := mo_pair hf
    exact ⟨10, (h_7_hasSpeaker_9 pt ps pg pr s (a0) v_1 s_1 _ hr_1 (And.intro (fun q => absurd q c_2) (fun _ => (And.intro hi_3 hK))))⟩
def xk_7_tongueOf_9 (C : mm_C) : Prop := ∀ (pt : Value) (ps : Value) (pg : Value) (pr : Value) (s : xs_S) (a0 : Int32) (v : Int32) (s2 : xs_S) (Q : mm_R), xf_7_tongueOf_9 s a0 = some (v, s2) → Q (some (.int v)) (xs_H pt ps pg pr s2) → C 194 [.ref 9, .int a0] (xs_H pt ps pg pr s) Q
-- 3_reckon
noncomputable def xf_3_reckon (a0 : Int32) (a1 : Int32) (a2 : Int32) : Option (Int32) :=
(if a0 = (20000 : Int32) then
some ((a1 + a2))
else
(if a0 = (20001 : Int32) then
some ((a1 - a2))
else
(if a0 = (20002 : Int32) then
some ((a1 * a2))
else
(if a2 = (0 : Int32) then
some ((0 : Int32))
else
(if a2 = 0 then none else some ((a1 / a2)))))))
set_option maxHeartbeats 4000000 in
theorem xb_3_reckon {C : mm_C} {Q : mm_R}  {h : mm_H} (a0 : Int32) (a1 : Int32) (a2 : Int32) (v : Int32) (hf : xf_3_reckon a0 a1 a2 = some v) (hK : Q (some (.int v)) h) : mm_go C mm_Mk mm_Fk P_X3_reckon Q P_X3_reckon [(0, .int a0), (1, .int a1), (2, .int a2)] [] h 0 0 := by
  unfold xf_3_reckon at hf
  by_cases c_1_0 : a0 = (20000 : Int32)
  · have hf := mo_pos hf c_1_0
    obtain rfl := Option.some.inj hf
    exact ⟨6, (And.intro (fun _ => hK) (fun q => absurd c_1_0 q))⟩
  replace hf := mo_neg hf c_1_0
  by_cases c_1_1 : a0 = (20001 : Int32)
  · have hf := mo_pos hf c_1_1
    obtain rfl := Option.some.inj hf
    exact ⟨6, (And.intro (fun q => absurd q c_1_0) (fun _ => (And.intro (fun _ => hK) (fun q => absurd c_1_1 q))))⟩
  replace hf := mo_neg hf c_1_1
  by_cases c_1_2 : a0 = (20002 : Int32)
  · have hf := mo_pos hf c_1_2
    obtain rfl := Option.some.inj hf
    exact ⟨6, (And.intro (fun q => absurd q c_1_0) (fun _ => (And.intro (fun q => absurd q c_1_1) (fun _ => (And.intro (fun _ => hK) (fun q => absurd c_1_2 q))))))⟩
  replace hf := mo_neg hf c_1_2
  by_cases c_2 : a2 = (0 : Int32)
  · have hf := mo_pos hf c_2
    obtain rfl := Option.some.inj hf
    exact ⟨7, (And.intro (fun q => absurd q c_1_0) (fun _ => (And.intro (fun q => absurd q c_1_1) (fun _ => (And.intro (fun q => absurd q c_1_2) (fun _ => (And.intro (fun q => absurd c_2 q) (fun _ => hK))))))))⟩
  · have hf := mo_neg hf c_2
    obtain ⟨hz_3, hf⟩ := mo_nz hf
    obtain rfl := Option.some.inj hf
    exact ⟨8, (And.intro (fun q => absurd q c_1_0) (fun _ => (And.intro (fun q => absurd q c_1_1) (fun _ => (And.intro (fun q => absurd q c_1_2) (fun _ => (And.intro (fun _ => (And.intro hz_3 hK)) (fun q => absurd c_2 q))))))))⟩
def xk_3_reckon (C : mm_C) : Prop := ∀ (h : mm_H) (a0 : Int32) (a1 : Int32) (a2 : Int32) (v : Int32) (Q : mm_R), xf_3_reckon a0 a1 a2 = some v → Q (some (.int v)) h → C 156 [.int a0, .int a1, .int a2] h Q
-- 3_untold_12
noncomputable def xf_3_untold_12 (s : xs_S) (a0 : Int32) : Option (Int32 × xs_S) :=
(if a0 = (0 : Int32) then
some (((s.2.1 15) 0), s)
else
(if a0 = (1 : Int32) then
some (((s.2.1 15) 1), s)
else
some ((0 : Int32), s)))
set_option maxHeartbeats 4000000 in
theorem xb_3_untold_12 {C : mm_C} {Q : mm_R} {pt : Value} {ps : Value} {pg : Value} {pr : Value}  (s : xs_S) (a0 : Int32) (v : Int32) (s2 : xs_S) (hf : xf_3_untold_12 s a0 = some (v, s2)) (hK : Q (some (.int v)) (xs_H pt ps pg pr s2)) : mm_go C mm_Mk mm_Fk P_X3_untold Q P_X3_untold [(0, .ref 12), (1, .int a0)] [] (xs_H pt ps pg pr s) 0 0 := by
  unfold xf_3_untold_12 at hf
  by_cases c_1 : a0 = (0 : Int32)
  · have hf := mo_pos hf c_1
    obtain ⟨rfl, rfl⟩ := mo_pair hf
    exact ⟨7, (And.intro (fun q => absurd c_1 q) (fun _ => (And.intro (mm_vi rfl) hK)))⟩
  · have hf := mo_neg hf c_1
    by_cases c_2 : a0 = (1 : Int32)
    · have hf := mo_pos hf c_2
      obtain ⟨rfl, rfl⟩ := mo_pair hf
      exact ⟨11, (And.intro (fun _ => (And.intro (fun q => absurd c_2 q) (fun _ => (And.intro (mm_vi rfl) hK)))) (fun q => absurd c_1 q))⟩
    · have hf := mo_neg hf c_2
      obtain ⟨rfl, rfl⟩ := mo_pair hf
      exact ⟨7, (And.intro (fun _ => (And.intro (fun _ => hK) (fun q => absurd c_2 q))) (fun q => absurd c_1 q))⟩
def xk_3_untold_12 (C : mm_C) : Prop := ∀ (pt : Value) (ps : Value) (pg : Value) (pr : Value) (s : xs_S) (a0 : Int32) (v : Int32) (s2 : xs_S) (Q : mm_R), xf_3_untold_12 s a0 = some (v, s2) → Q (some (.int v)) (xs_H pt ps pg pr s2) → C 155 [.ref 12, .int a0] (xs_H pt ps pg pr s) Q
-- 3_value_12
noncomputable def xf_3_value_12_j128 (s : xs_S) (v2 : Int32) (v3 : Int32) (v4 : Int32) : Option ((Int32 × Int32 × Int32 × xs_S) ⊕ ((Int32 × xs_S) ⊕ (xs_S) ⊕ (xs_S) ⊕ (xs_S) ⊕ (xs_S))) :=
some (.inl (v2, v3, (v4 + (1 : Int32)), s))
set_option maxHeartbeats 4000000 in
theorem xb_3_value_12_j128 {C : mm_C} {Q : mm_R} {pt : Value} {ps : Value} {pg : Value} {pr : Value} (h_3_reckon : xk_3_reckon C) (h_3_untold_12 : xk_3_untold_12 C) (s : xs_S) (v2 : Int32) (v3 : Int32) (v4 : Int32) (r : (Int32 × Int32 × Int32 × xs_S) ⊕ ((Int32 × xs_S) ⊕ (xs_S) ⊕ (xs_S) ⊕ (xs_S) ⊕ (xs_S))) (hf : xf_3_value_12_j128 s v2 v3 v4 = some r) (hK : mo_sum (mo_c2 (fun y2 => (mo_c2 (fun y3 => (mo_c2 (fun y4 sy => mm_go C mm_Mk mm_Fk P_X3_value Q (P_X3_value.drop 15) [(0, .ref 12), (2, .int y2), (3, .int y3), (4, .int y4)] [] (xs_H pt ps pg pr sy) 0 0))))))  (mo_sum (mo_c2 (fun y3 sy => mm_go C mm_Mk mm_Fk P_X3_value Q (P_X3_value.drop 33) [(0, .ref 12), (3, .int y3)] [] (xs_H pt ps pg pr sy) 0 0)) (mo_sum (fun sy => mm_go C mm_Mk mm_Fk P_X3_value Q (P_X3_value.drop 51) [] [] (xs_H pt ps pg pr sy) 0 0) (mo_sum (fun sy => mm_go C mm_Mk mm_Fk P_X3_value Q (P_X3_value.drop 77) [] [] (xs_H pt ps pg pr sy) 0 0) (mo_sum (fun sy => mm_go C mm_Mk mm_Fk P_X3_value Q (P_X3_value.drop 115) [] [] (xs_H pt ps pg pr sy) 0 0) (fun sy => mm_go C mm_Mk mm_Fk P_X3_value Q (P_X3_value.drop 130) [] [] (xs_H pt ps pg pr sy) 0 0)))))  r) : mm_go C mm_Mk mm_Fk P_X3_value Q (P_X3_value.drop 128) [(0, .ref 12), (2, .int v2), (3, .int v3), (4, .int v4)] [] (xs_H pt ps pg pr s) 0 0 := by
  unfold xf_3_value_12_j128 at hf
  obtain rfl := Option.some.inj hf
  refine mm_adv 2 (cs' := P_X3_value.drop 15) (l' := [(4, .int (v4 + (1 : Int32))), (0, .ref 12), (2, .int v2), (3, .int v3)]) (st' := []) (h' := (xs_H pt ps pg pr s)) (bc' := 0) (bs' := 0) (fun n g => g) ?_
  exact mm_re (c := [(0, .ref 12), (2, .int v2), (3, .int v3), (4, .int (v4 + (1 : Int32)))]) hK rfl rfl
noncomputable def xf_3_value_12_j108 (s : xs_S) (v3 : Int32) (v4 : Int32) (k0 : Int32) : Option ((Int32 × Int32 × Int32 × xs_S) ⊕ ((Int32 × xs_S) ⊕ (xs_S) ⊕ (xs_S) ⊕ (xs_S) ⊕ (xs_S))) :=
(xf_3_value_12_j128 (s) (k0) (v3) (v4))
set_option maxHeartbeats 4000000 in
theorem xb_3_value_12_j108 {C : mm_C} {Q : mm_R} {pt : Value} {ps : Value} {pg : Value} {pr : Value} (h_3_reckon : xk_3_reckon C) (h_3_untold_12 : xk_3_untold_12 C) (s : xs_S) (v3 : Int32) (v4 : Int32) (k0 : Int32) (r : (Int32 × Int32 × Int32 × xs_S) ⊕ ((Int32 × xs_S) ⊕ (xs_S) ⊕ (xs_S) ⊕ (xs_S) ⊕ (xs_S))) (hf : xf_3_value_12_j108 s v3 v4 k0 = some r) (hK : mo_sum (mo_c2 (fun y2 => (mo_c2 (fun y3 => (mo_c2 (fun y4 sy => mm_go C mm_Mk mm_Fk P_X3_value Q (P_X3_value.drop 15) [(0, .ref 12), (2, .int y2), (3, .int y3), (4, .int y4)] [] (xs_H pt ps pg pr sy) 0 0))))))  (mo_sum (mo_c2 (fun y3 sy => mm_go C mm_Mk mm_Fk P_X3_value Q (P_X3_value.drop 33) [(0, .ref 12), (3, .int y3)] [] (xs_H pt ps pg pr sy) 0 0)) (mo_sum (fun sy => mm_go C mm_Mk mm_Fk P_X3_value Q (P_X3_value.drop 51) [] [] (xs_H pt ps pg pr sy) 0 0) (mo_sum (fun sy => mm_go C mm_Mk mm_Fk P_X3_value Q (P_X3_value.drop 77) [] [] (xs_H pt ps pg pr sy) 0 0) (mo_sum (fun sy => mm_go C mm_Mk mm_Fk P_X3_value Q (P_X3_value.drop 115) [] [] (xs_H pt ps pg pr sy) 0 0) (fun sy => mm_go C mm_Mk mm_Fk P_X3_value Q (P_X3_value.drop 130) [] [] (xs_H pt ps pg pr sy) 0 0)))))  r) : mm_go C mm_Mk mm_Fk P_X3_value Q (P_X3_value.drop 108) [(0, .ref 12), (3, .int v3), (4, .int v4)] [.int k0] (xs_H pt ps pg pr s) 0 0 := by
  unfold xf_3_value_12_j108 at hf
  refine mm_adv 2 (cs' := P_X3_value.drop 128) (l' := [(2, .int k0), (0, .ref 12), (3, .int v3), (4, .int v4)]) (st' := []) (h' := (xs_H pt ps pg pr s)) (bc' := 0) (bs' := 0) (fun n g => g) ?_
  refine mm_re (l' := [(0, .ref 12), (2, .int k0), (3, .int v3), (4, .int v4)]) (c := [(0, .ref 12), (2, .int k0), (3, .int v3), (4, .int v4)]) ?_ rfl rfl
  exact xb_3_value_12_j128 h_3_reckon h_3_untold_12 s (k0) (v3) (v4) _ hf hK
noncomputable def xf_3_value_12_j117 (s : xs_S) (v2 : Int32) (v3 : Int32) (v4 : Int32) (v5 : Int32) (v6 : Int32) (v7 : Int32) : Option ((Int32 × Int32 × Int32 × xs_S) ⊕ ((Int32 × xs_S) ⊕ (xs_S) ⊕ (xs_S) ⊕ (xs_S) ⊕ (xs_S))) :=
((xf_3_reckon (v5) (v6) (v7)).bind fun v_17 =>
(bif mo_in ((v3 + (-1 : Int32)) - (1 : Int32)) 24 then (xf_3_value_12_j128 ((xs_sA s 16 (upd (s.2.1 16) (((v3 + (-1 : Int32)) - (1 : Int32))).toNatClampNeg (v_17)))) (v2) ((v3 + (-1 : Int32))) (v4)) else none))
set_option maxHeartbeats 4000000 in
theorem xb_3_value_12_j117 {C : mm_C} {Q : mm_R} {pt : Value} {ps : Value} {pg : Value} {pr : Value} (h_3_reckon : xk_3_reckon C) (h_3_untold_12 : xk_3_untold_12 C) (s : xs_S) (v2 : Int32) (v3 : Int32) (v4 : Int32) (v5 : Int32) (v6 : Int32) (v7 : Int32) (r : (Int32 × Int32 × Int32 × xs_S) ⊕ ((Int32 × xs_S) ⊕ (xs_S) ⊕ (xs_S) ⊕ (xs_S) ⊕ (xs_S))) (hf : xf_3_value_12_j117 s v2 v3 v4 v5 v6 v7 = some r) (hK : mo_sum (mo_c2 (fun y2 => (mo_c2 (fun y3 => (mo_c2 (fun y4 sy => mm_go C mm_Mk mm_Fk P_X3_value Q (P_X3_value.drop 15) [(0, .ref 12), (2, .int y2), (3, .int y3), (4, .int y4)] [] (xs_H pt ps pg pr sy) 0 0))))))  (mo_sum (mo_c2 (fun y3 sy => mm_go C mm_Mk mm_Fk P_X3_value Q (P_X3_value.drop 33) [(0, .ref 12), (3, .int y3)] [] (xs_H pt ps pg pr sy) 0 0)) (mo_sum (fun sy => mm_go C mm_Mk mm_Fk P_X3_value Q (P_X3_value.drop 51) [] [] (xs_H pt ps pg pr sy) 0 0) (mo_sum (fun sy => mm_go C mm_Mk mm_Fk P_X3_value Q (P_X3_value.drop 77) [] [] (xs_H pt ps pg pr sy) 0 0) (mo_sum (fun sy => mm_go C mm_Mk mm_Fk P_X3_value Q (P_X3_value.drop 115) [] [] (xs_H pt ps pg pr sy) 0 0) (fun sy => mm_go C mm_Mk mm_Fk P_X3_value Q (P_X3_value.drop 130) [] [] (xs_H pt ps pg pr sy) 0 0)))))  r) : mm_go C mm_Mk mm_Fk P_X3_value Q (P_X3_value.drop 117) [(0, .ref 12), (2, .int v2), (3, .int v3), (4, .int v4), (5, .int v5), (6, .int v6), (7, .int v7)] [] (xs_H pt ps pg pr s) 0 0 := by
  unfold xf_3_value_12_j117 at hf
  obtain ⟨v_17, hr_17, hf⟩ := mo_bind hf
  obtain ⟨hi_18, hf⟩ := mo_if hf
  refine mm_adv 11 (cs' := P_X3_value.drop 128) (l' := [(3, .int (v3 + (-1 : Int32))), (0, .ref 12), (2, .int v2), (4, .int v4), (5, .int v5), (6, .int v6), (7, .int v7)]) (st' := []) (h' := (xs_H pt ps pg pr (xs_sA s 16 (upd (s.2.1 16) (((v3 + (-1 : Int32)) - (1 : Int32))).toNatClampNeg (v_17))))) (bc' := 0) (bs' := 0) (fun n g => (h_3_reckon _ (v5) (v6) (v7) v_17 _ hr_17 (And.intro hi_18 g))) ?_
  refine mm_re (l' := [(0, .ref 12), (2, .int v2), (3, .int (v3 + (-1 : Int32))), (4, .int v4)]) (c := [(0, .ref 12), (2, .int v2), (3, .int (v3 + (-1 : Int32))), (4, .int v4)]) ?_ rfl rfl
  exact xb_3_value_12_j128 h_3_reckon h_3_untold_12 (xs_sA s 16 (upd (s.2.1 16) (((v3 + (-1 : Int32)) - (1 : Int32))).toNatClampNeg (v_17))) (v2) ((v3 + (-1 : Int32))) (v4) _ hf hK
noncomputable def xf_3_value_12_j67 (s : xs_S) (v2 : Int32) (v3 : Int32) (v4 : Int32) (k0 : Int32) (k1 : Int32) : Option ((Int32 × Int32 × Int32 × xs_S) ⊕ ((Int32 × xs_S) ⊕ (xs_S) ⊕ (xs_S) ⊕ (xs_S) ⊕ (xs_S))) :=
(bif mo_in k1 24 then (xf_3_value_12_j128 ((xs_sA s 16 (upd (s.2.1 16) (k1).toNatClampNeg (k0)))) (v2) ((v3 + (1 : Int32))) (v4)) else none)
set_option maxHeartbeats 4000000 in
theorem xb_3_value_12_j67 {C : mm_C} {Q : mm_R} {pt : Value} {ps : Value} {pg : Value} {pr : Value} (h_3_reckon : xk_3_reckon C) (h_3_untold_12 : xk_3_untold_12 C) (s : xs_S) (v2 : Int32) (v3 : Int32) (v4 : Int32) (k0 : Int32) (k1 : Int32) (r : (Int32 × Int32 × Int32 × xs_S) ⊕ ((Int32 × xs_S) ⊕ (xs_S) ⊕ (xs_S) ⊕ (xs_S) ⊕ (xs_S))) (hf : xf_3_value_12_j67 s v2 v3 v4 k0 k1 = some r) (hK : mo_sum (mo_c2 (fun y2 => (mo_c2 (fun y3 => (mo_c2 (fun y4 sy => mm_go C mm_Mk mm_Fk P_X3_value Q (P_X3_value.drop 15) [(0, .ref 12), (2, .int y2), (3, .int y3), (4, .int y4)] [] (xs_H pt ps pg pr sy) 0 0))))))  (mo_sum (mo_c2 (fun y3 sy => mm_go C mm_Mk mm_Fk P_X3_value Q (P_X3_value.drop 33) [(0, .ref 12), (3, .int y3)] [] (xs_H pt ps pg pr sy) 0 0)) (mo_sum (fun sy => mm_go C mm_Mk mm_Fk P_X3_value Q (P_X3_value.drop 51) [] [] (xs_H pt ps pg pr sy) 0 0) (mo_sum (fun sy => mm_go C mm_Mk mm_Fk P_X3_value Q (P_X3_value.drop 77) [] [] (xs_H pt ps pg pr sy) 0 0) (mo_sum (fun sy => mm_go C mm_Mk mm_Fk P_X3_value Q (P_X3_value.drop 115) [] [] (xs_H pt ps pg pr sy) 0 0) (fun sy => mm_go C mm_Mk mm_Fk P_X3_value Q (P_X3_value.drop 130) [] [] (xs_H pt ps pg pr sy) 0 0)))))  r) : mm_go C mm_Mk mm_Fk P_X3_value Q (P_X3_value.drop 67) [(0, .ref 12), (2, .int v2), (3, .int v3), (4, .int v4)] [.int k0, .int k1, .ref 16] (xs_H pt ps pg pr s) 0 0 := by
  unfold xf_3_value_12_j67 at hf
  obtain ⟨hi_22, hf⟩ := mo_if hf
  refine mm_adv 3 (cs' := P_X3_value.drop 128) (l' := [(3, .int (v3 + (1 : Int32))), (0, .ref 12), (2, .int v2), (4, .int v4)]) (st' := []) (h' := (xs_H pt ps pg pr (xs_sA s 16 (upd (s.2.1 16) (k1).toNatClampNeg (k0))))) (bc' := 0) (bs' := 0) (fun n g => (And.intro hi_22 g)) ?_
  refine mm_re (l' := [(0, .ref 12), (2, .int v2), (3, .int (v3 + (1 : Int32))), (4, .int v4)]) (c := [(0, .ref 12), (2, .int v2), (3, .int (v3 + (1 : Int32))), (4, .int v4)]) ?_ rfl rfl
  exact xb_3_value_12_j128 h_3_reckon h_3_untold_12 (xs_sA s 16 (upd (s.2.1 16) (k1).toNatClampNeg (k0))) (v2) ((v3 + (1 : Int32))) (v4) _ hf hK
noncomputable def xf_3_value_12_l15  : (Int32 × Int32 × Int32 × xs_S) → Option ((Int32 × Int32 × Int32 × xs_S) ⊕ ((Int32 × xs_S) ⊕ (xs_S) ⊕ (xs_S) ⊕ (xs_S) ⊕ (xs_S))) := fun (w2, w3, w4, s) =>
(if (Int32.ofNat 401) ≤ w4 then
some (.inr (.inr (.inr (.inr (.inr (s))))))
else
(if (s.1 193) ≤ w2 then
some (.inr (.inr (.inr (.inr (.inr (s))))))
else
((mo_ag 401 (s.2.1 13) w2).bind fun x_5 =>
(if x_5 = (20005 : Int32) then
some (.inr (.inl (w3, s)))
else
(if (20000 : Int32) ≤ x_5 then
(if w3 < (2 : Int32) then
some (.inr (.inr (.inr (.inl (s)))))
else
(if (w2 + (1 : Int32)) < (s.1 193) then
((mo_ag 24 (s.2.1 16) (w3 - (2 : Int32))).bind fun x_10 =>
((mo_ag 24 (s.2.1 16) (w3 - (1 : Int32))).bind fun x_11 =>
(if x_5 = (20004 : Int32) then
(if x_11 ≤ x_10 then
((mo_ag 401 (s.2.1 13) (w2 + (1 : Int32))).bind fun x_14 =>
(xf_3_value_12_j108 (s) ((w3 + (-2 : Int32))) (w4) (x_14)))
else
(xf_3_value_12_j108 (s) ((w3 + (-2 : Int32))) (w4) (((w2 + (1 : Int32)) + (1 : Int32)))))
else
(if x_5 = (20003 : Int32) then
(if x_11 = (0 : Int32) then
some (.inr (.inr (.inr (.inr (.inl (s))))))
else
(xf_3_value_12_j117 (s) ((w2 + (1 : Int32))) (w3) (w4) (x_5) (x_10) (x_11)))
else
(xf_3_value_12_j117 (s) ((w2 + (1 : Int32))) (w3) (w4) (x_5) (x_10) (x_11))))))
else
some (.inr (.inr (.inr (.inl (s)))))))
else
(if w3 < (24 : Int32) then
(if (10000 : Int32) ≤ x_5 then
((mo_ag 9 (s.2.1 15) (x_5 - (10000 : Int32))).bind fun x_21 =>
(xf_3_value_12_j67 (s) ((w2 + (1 : Int32))) (w3) (w4) (x_21) (w3)))
else
(xf_3_value_12_j67 (s) ((w2 + (1 : Int32))) (w3) (w4) (x_5) (w3)))
else
some (.inr (.inr (.inl (s))))))))))
set_option maxHeartbeats 4000000 in
theorem xb_3_value_12_l15 {C : mm_C} {Q : mm_R} {pt : Value} {ps : Value} {pg : Value} {pr : Value} (h_3_reckon : xk_3_reckon C) (h_3_untold_12 : xk_3_untold_12 C)  (t : Int32 × Int32 × Int32 × xs_S) (x : (Int32 × xs_S) ⊕ (xs_S) ⊕ (xs_S) ⊕ (xs_S) ⊕ (xs_S)) (hl : mo_loop (xf_3_value_12_l15 ) t = some x) (hK : (mo_sum (mo_c2 (fun y3 sy => mm_go C mm_Mk mm_Fk P_X3_value Q (P_X3_value.drop 33) [(0, .ref 12), (3, .int y3)] [] (xs_H pt ps pg pr sy) 0 0)) (mo_sum (fun sy => mm_go C mm_Mk mm_Fk P_X3_value Q (P_X3_value.drop 51) [] [] (xs_H pt ps pg pr sy) 0 0) (mo_sum (fun sy => mm_go C mm_Mk mm_Fk P_X3_value Q (P_X3_value.drop 77) [] [] (xs_H pt ps pg pr sy) 0 0) (mo_sum (fun sy => mm_go C mm_Mk mm_Fk P_X3_value Q (P_X3_value.drop 115) [] [] (xs_H pt ps pg pr sy) 0 0) (fun sy => mm_go C mm_Mk mm_Fk P_X3_value Q (P_X3_value.drop 130) [] [] (xs_H pt ps pg pr sy) 0 0))))) x) : (mo_c2 (fun y2 => (mo_c2 (fun y3 => (mo_c2 (fun y4 sy => mm_go C mm_Mk mm_Fk P_X3_value Q (P_X3_value.drop 15) [(0, .ref 12), (2, .int y2), (3, .int y3), (4, .int y4)] [] (xs_H pt ps pg pr sy) 0 0)))))) t := by
  refine mo_loop_go (G := (mo_c2 (fun y2 => (mo_c2 (fun y3 => (mo_c2 (fun y4 sy => mm_go C mm_Mk mm_Fk P_X3_value Q (P_X3_value.drop 15) [(0, .ref 12), (2, .int y2), (3, .int y3), (4, .int y4)] [] (xs_H pt ps pg pr sy) 0 0)))))) ) (K := (mo_sum (mo_c2 (fun y3 sy => mm_go C mm_Mk mm_Fk P_X3_value Q (P_X3_value.drop 33) [(0, .ref 12), (3, .int y3)] [] (xs_H pt ps pg pr sy) 0 0)) (mo_sum (fun sy => mm_go C mm_Mk mm_Fk P_X3_value Q (P_X3_value.drop 51) [] [] (xs_H pt ps pg pr sy) 0 0) (mo_sum (fun sy => mm_go C mm_Mk mm_Fk P_X3_value Q (P_X3_value.drop 77) [] [] (xs_H pt ps pg pr sy) 0 0) (mo_sum (fun sy => mm_go C mm_Mk mm_Fk P_X3_value Q (P_X3_value.drop 115) [] [] (xs_H pt ps pg pr sy) 0 0) (fun sy => mm_go C mm_Mk mm_Fk P_X3_value Q (P_X3_value.drop 130) [] [] (xs_H pt ps pg pr sy) 0 0))))) ) ?_ t x hl hK
  intro t r hf hK
  obtain ⟨w2, w3, w4, s⟩ := t
  unfold xf_3_value_12_l15 at hf
  by_cases c_3 : (Int32.ofNat 401) ≤ w4
  · have hf := mo_pos hf c_3
    obtain rfl := Option.some.inj hf
    refine mm_adv 5 (cs' := P_X3_value.drop 130) (l' := [(0, .ref 12), (2, .int w2), (3, .int w3), (4, .int w4)]) (st' := []) (h' := (xs_H pt ps pg pr s)) (bc' := 0) (bs' := 0) (fun n g => (And.intro (fun _ => g) (fun q => absurd c_3 q))) ?_
    exact mm_re (c := []) hK rfl rfl
  · have hf := mo_neg hf c_3
    by_cases c_4 : (s.1 193) ≤ w2
    · have hf := mo_pos hf c_4
      obtain rfl := Option.some.inj hf
      refine mm_adv 9 (cs' := P_X3_value.drop 130) (l' := [(0, .ref 12), (2, .int w2), (3, .int w3), (4, .int w4)]) (st' := []) (h' := (xs_H pt ps pg pr s)) (bc' := 0) (bs' := 0) (fun n g => (And.intro (fun q => absurd q c_3) (fun _ => (And.intro (fun _ => g) (fun q => absurd c_4 q))))) ?_
      exact mm_re (c := []) hK rfl rfl
    · have hf := mo_neg hf c_4
      obtain ⟨x_5, hx_5, hf⟩ := mo_bind hf
      obtain ⟨hi_5, rfl⟩ := mo_ag_inv hx_5
      by_cases c_6 : ((s.2.1 13) (w2).toNatClampNeg) = (20005 : Int32)
      · have hf := mo_pos hf c_6
        obtain rfl := Option.some.inj hf
        refine mm_adv 18 (cs' := P_X3_value.drop 33) (l' := [(2, .int (w2 + (1 : Int32))), (5, .int ((s.2.1 13) (w2).toNatClampNeg)), (0, .ref 12), (3, .int w3), (4, .int w4)]) (st' := []) (h' := (xs_H pt ps pg pr s)) (bc' := 0) (bs' := 0) (fun n g => (And.intro (fun q => absurd q c_3) (fun _ => (And.intro (fun q => absurd q c_4) (fun _ => (And.intro hi_5 (And.intro (fun q => absurd c_6 q) (fun _ => g)))))))) ?_
        exact mm_re (c := [(0, .ref 12), (3, .int w3)]) hK rfl rfl
      · have hf := mo_neg hf c_6
        by_cases c_7 : (20000 : Int32) ≤ ((s.2.1 13) (w2).toNatClampNeg)
        · have hf := mo_pos hf c_7
          by_cases c_8 : w3 < (2 : Int32)
          · have hf := mo_pos hf c_8
            obtain rfl := Option.some.inj hf
            refine mm_adv 24 (cs' := P_X3_value.drop 77) (l' := [(2, .int (w2 + (1 : Int32))), (5, .int ((s.2.1 13) (w2).toNatClampNeg)), (0, .ref 12), (3, .int w3), (4, .int w4)]) (st' := []) (h' := (xs_H pt ps pg pr s)) (bc' := 0) (bs' := 0) (fun n g => (And.intro (fun q => absurd q c_3) (fun _ => (And.intro (fun q => absurd q c_4) (fun _ => (And.intro hi_5 (And.intro (fun _ => (And.intro (fun _ => (And.intro (fun _ => g) (fun q => absurd c_8 q))) (fun q => absurd c_7 q))) (fun q => absurd c_6 q)))))))) ?_
            exact mm_re (c := []) hK rfl rfl
          · have hf := mo_neg hf c_8
            by_cases c_9 : (w2 + (1 : Int32)) < (s.1 193)
            · have hf := mo_pos hf c_9
              obtain ⟨x_10, hx_10, hf⟩ := mo_bind hf
              obtain ⟨hi_10, rfl⟩ := mo_ag_inv hx_10
              obtain ⟨x_11, hx_11, hf⟩ := mo_bind hf
              obtain ⟨hi_11, rfl⟩ := mo_ag_inv hx_11
              by_cases c_12 : ((s.2.1 13) (w2).toNatClampNeg) = (20004 : Int32)
              · have hf := mo_pos hf c_12
                by_cases c_13 : ((s.2.1 16) ((w3 - (1 : Int32))).toNatClampNeg) ≤ ((s.2.1 16) ((w3 - (2 : Int32))).toNatClampNeg)
                · have hf := mo_pos hf c_13
                  obtain ⟨x_14, hx_14, hf⟩ := mo_bind hf
                  obtain ⟨hi_14, rfl⟩ := mo_ag_inv hx_14
                  refine mm_adv 53 (cs' := P_X3_value.drop 108) (l' := [(3, .int (w3 + (-2 : Int32))), (7, .int ((s.2.1 16) ((w3 - (1 : Int32))).toNatClampNeg)), (6, .int ((s.2.1 16) ((w3 - (2 : Int32))).toNatClampNeg)), (2, .int (w2 + (1 : Int32))), (5, .int ((s.2.1 13) (w2).toNatClampNeg)), (0, .ref 12), (4, .int w4)]) (st' := [.int ((s.2.1 13) ((w2 + (1 : Int32))).toNatClampNeg)]) (h' := (xs_H pt ps pg pr s)) (bc' := 0) (bs' := 0) (fun n g => (And.intro (fun q => absurd q c_3) (fun _ => (And.intro (fun q => absurd q c_4) (fun _ => (And.intro hi_5 (And.intro (fun _ => (And.intro (fun _ => (And.intro (fun q => absurd q c_8) (fun _ => (And.intro (fun _ => (And.intro hi_10 (And.intro hi_11 (And.intro (fun q => absurd c_12 q) (fun _ => (And.intro (fun _ => (And.intro hi_14 g)) (fun q => absurd c_13 q))))))) (fun q => absurd c_9 q))))) (fun q => absurd c_7 q))) (fun q => absurd c_6 q)))))))) ?_
                  refine mm_re (l' := [(0, .ref 12), (3, .int (w3 + (-2 : Int32))), (4, .int w4)]) (c := [(0, .ref 12), (3, .int (w3 + (-2 : Int32))), (4, .int w4)]) ?_ rfl rfl
                  exact xb_3_value_12_j108 h_3_reckon h_3_untold_12 s ((w3 + (-2 : Int32))) (w4) (((s.2.1 13) ((w2 + (1 : Int32))).toNatClampNeg)) _ hf hK
                · have hf := mo_neg hf c_13
                  refine mm_adv 53 (cs' := P_X3_value.drop 108) (l' := [(3, .int (w3 + (-2 : Int32))), (7, .int ((s.2.1 16) ((w3 - (1 : Int32))).toNatClampNeg)), (6, .int ((s.2.1 16) ((w3 - (2 : Int32))).toNatClampNeg)), (2, .int (w2 + (1 : Int32))), (5, .int ((s.2.1 13) (w2).toNatClampNeg)), (0, .ref 12), (4, .int w4)]) (st' := [.int ((w2 + (1 : Int32)) + (1 : Int32))]) (h' := (xs_H pt ps pg pr s)) (bc' := 0) (bs' := 0) (fun n g => (And.intro (fun q => absurd q c_3) (fun _ => (And.intro (fun q => absurd q c_4) (fun _ => (And.intro hi_5 (And.intro (fun _ => (And.intro (fun _ => (And.intro (fun q => absurd q c_8) (fun _ => (And.intro (fun _ => (And.intro hi_10 (And.intro hi_11 (And.intro (fun q => absurd c_12 q) (fun _ => (And.intro (fun q => absurd q c_13) (fun _ => g))))))) (fun q => absurd c_9 q))))) (fun q => absurd c_7 q))) (fun q => absurd c_6 q)))))))) ?_
                  refine mm_re (l' := [(0, .ref 12), (3, .int (w3 + (-2 : Int32))), (4, .int w4)]) (c := [(0, .ref 12), (3, .int (w3 + (-2 : Int32))), (4, .int w4)]) ?_ rfl rfl
                  exact xb_3_value_12_j108 h_3_reckon h_3_untold_12 s ((w3 + (-2 : Int32))) (w4) (((w2 + (1 : Int32)) + (1 : Int32))) _ hf hK
              · have hf := mo_neg hf c_12
                by_cases c_15 : ((s.2.1 13) (w2).toNatClampNeg) = (20003 : Int32)
                · have hf := mo_pos hf c_15
                  by_cases c_16 : ((s.2.1 16) ((w3 - (1 : Int32))).toNatClampNeg) = (0 : Int32)
                  · have hf := mo_pos hf c_16
                    obtain rfl := Option.some.inj hf
                    refine mm_adv 50 (cs' := P_X3_value.drop 115) (l' := [(7, .int ((s.2.1 16) ((w3 - (1 : Int32))).toNatClampNeg)), (6, .int ((s.2.1 16) ((w3 - (2 : Int32))).toNatClampNeg)), (2, .int (w2 + (1 : Int32))), (5, .int ((s.2.1 13) (w2).toNatClampNeg)), (0, .ref 12), (3, .int w3), (4, .int w4)]) (st' := []) (h' := (xs_H pt ps pg pr s)) (bc' := 0) (bs' := 0) (fun n g => (And.intro (fun q => absurd q c_3) (fun _ => (And.intro (fun q => absurd q c_4) (fun _ => (And.intro hi_5 (And.intro (fun _ => (And.intro (fun _ => (And.intro (fun q => absurd q c_8) (fun _ => (And.intro (fun _ => (And.intro hi_10 (And.intro hi_11 (And.intro (fun _ => (And.intro (fun q => absurd c_15 q) (fun _ => (And.intro (fun q => absurd c_16 q) (fun _ => g))))) (fun q => absurd c_12 q))))) (fun q => absurd c_9 q))))) (fun q => absurd c_7 q))) (fun q => absurd c_6 q)))))))) ?_
                    exact mm_re (c := []) hK rfl rfl
                  · have hf := mo_neg hf c_16
                    refine mm_adv 50 (cs' := P_X3_value.drop 117) (l' := [(7, .int ((s.2.1 16) ((w3 - (1 : Int32))).toNatClampNeg)), (6, .int ((s.2.1 16) ((w3 - (2 : Int32))).toNatClampNeg)), (2, .int (w2 + (1 : Int32))), (5, .int ((s.2.1 13) (w2).toNatClampNeg)), (0, .ref 12), (3, .int w3), (4, .int w4)]) (st' := []) (h' := (xs_H pt ps pg pr s)) (bc' := 0) (bs' := 0) (fun n g => (And.intro (fun q => absurd q c_3) (fun _ => (And.intro (fun q => absurd q c_4) (fun _ => (And.intro hi_5 (And.intro (fun _ => (And.intro (fun _ => (And.intro (fun q => absurd q c_8) (fun _ => (And.intro (fun _ => (And.intro hi_10 (And.intro hi_11 (And.intro (fun _ => (And.intro (fun q => absurd c_15 q) (fun _ => (And.intro (fun _ => g) (fun q => absurd c_16 q))))) (fun q => absurd c_12 q))))) (fun q => absurd c_9 q))))) (fun q => absurd c_7 q))) (fun q => absurd c_6 q)))))))) ?_
                    refine mm_re (l' := [(0, .ref 12), (2, .int (w2 + (1 : Int32))), (3, .int w3), (4, .int w4), (5, .int ((s.2.1 13) (w2).toNatClampNeg)), (6, .int ((s.2.1 16) ((w3 - (2 : Int32))).toNatClampNeg)), (7, .int ((s.2.1 16) ((w3 - (1 : Int32))).toNatClampNeg))]) (c := [(0, .ref 12), (2, .int (w2 + (1 : Int32))), (3, .int w3), (4, .int w4), (5, .int ((s.2.1 13) (w2).toNatClampNeg)), (6, .int ((s.2.1 16) ((w3 - (2 : Int32))).toNatClampNeg)), (7, .int ((s.2.1 16) ((w3 - (1 : Int32))).toNatClampNeg))]) ?_ rfl rfl
                    exact xb_3_value_12_j117 h_3_reckon h_3_untold_12 s ((w2 + (1 : Int32))) (w3) (w4) (((s.2.1 13) (w2).toNatClampNeg)) (((s.2.1 16) ((w3 - (2 : Int32))).toNatClampNeg)) (((s.2.1 16) ((w3 - (1 : Int32))).toNatClampNeg)) _ hf hK
                · have hf := mo_neg hf c_15
                  refine mm_adv 48 (cs' := P_X3_value.drop 117) (l' := [(7, .int ((s.2.1 16) ((w3 - (1 : Int32))).toNatClampNeg)), (6, .int ((s.2.1 16) ((w3 - (2 : Int32))).toNatClampNeg)), (2, .int (w2 + (1 : Int32))), (5, .int ((s.2.1 13) (w2).toNatClampNeg)), (0, .ref 12), (3, .int w3), (4, .int w4)]) (st' := []) (h' := (xs_H pt ps pg pr s)) (bc' := 0) (bs' := 0) (fun n g => (And.intro (fun q => absurd q c_3) (fun _ => (And.intro (fun q => absurd q c_4) (fun _ => (And.intro hi_5 (And.intro (fun _ => (And.intro (fun _ => (And.intro (fun q => absurd q c_8) (fun _ => (And.intro (fun _ => (And.intro hi_10 (And.intro hi_11 (And.intro (fun _ => (And.intro (fun _ => g) (fun q => absurd c_15 q))) (fun q => absurd c_12 q))))) (fun q => absurd c_9 q))))) (fun q => absurd c_7 q))) (fun q => absurd c_6 q)))))))) ?_
                  refine mm_re (l' := [(0, .ref 12), (2, .int (w2 + (1 : Int32))), (3, .int w3), (4, .int w4), (5, .int ((s.2.1 13) (w2).toNatClampNeg)), (6, .int ((s.2.1 16) ((w3 - (2 : Int32))).toNatClampNeg)), (7, .int ((s.2.1 16) ((w3 - (1 : Int32))).toNatClampNeg))]) (c := [(0, .ref 12), (2, .int (w2 + (1 : Int32))), (3, .int w3), (4, .int w4), (5, .int ((s.2.1 13) (w2).toNatClampNeg)), (6, .int ((s.2.1 16) ((w3 - (2 : Int32))).toNatClampNeg)), (7, .int ((s.2.1 16) ((w3 - (1 : Int32))).toNatClampNeg))]) ?_ rfl rfl
                  exact xb_3_value_12_j117 h_3_reckon h_3_untold_12 s ((w2 + (1 : Int32))) (w3) (w4) (((s.2.1 13) (w2).toNatClampNeg)) (((s.2.1 16) ((w3 - (2 : Int32))).toNatClampNeg)) (((s.2.1 16) ((w3 - (1 : Int32))).toNatClampNeg)) _ hf hK
            · have hf := mo_neg hf c_9
              obtain rfl := Option.some.inj hf
              refine mm_adv 28 (cs' := P_X3_value.drop 77) (l' := [(2, .int (w2 + (1 : Int32))), (5, .int ((s.2.1 13) (w2).toNatClampNeg)), (0, .ref 12), (3, .int w3), (4, .int w4)]) (st' := []) (h' := (xs_H pt ps pg pr s)) (bc' := 0) (bs' := 0) (fun n g => (And.intro (fun q => absurd q c_3) (fun _ => (And.intro (fun q => absurd q c_4) (fun _ => (And.intro hi_5 (And.intro (fun _ => (And.intro (fun _ => (And.intro (fun q => absurd q c_8) (fun _ => (And.intro (fun q => absurd q c_9) (fun _ => g))))) (fun q => absurd c_7 q))) (fun q => absurd c_6 q)))))))) ?_
              exact mm_re (c := []) hK rfl rfl
        · have hf := mo_neg hf c_7
          by_cases c_19 : w3 < (24 : Int32)
          · have hf := mo_pos hf c_19
            by_cases c_20 : (10000 : Int32) ≤ ((s.2.1 13) (w2).toNatClampNeg)
            · have hf := mo_pos hf c_20
              obtain ⟨x_21, hx_21, hf⟩ := mo_bind hf
              obtain ⟨hi_21, rfl⟩ := mo_ag_inv hx_21
              refine mm_adv 36 (cs' := P_X3_value.drop 67) (l' := [(2, .int (w2 + (1 : Int32))), (5, .int ((s.2.1 13) (w2).toNatClampNeg)), (0, .ref 12), (3, .int w3), (4, .int w4)]) (st' := [.int ((s.2.1 15) ((((s.2.1 13) (w2).toNatClampNeg) - (10000 : Int32))).toNatClampNeg), .int w3, .ref 16]) (h' := (xs_H pt ps pg pr s)) (bc' := 0) (bs' := 0) (fun n g => (And.intro (fun q => absurd q c_3) (fun _ => (And.intro (fun q => absurd q c_4) (fun _ => (And.intro hi_5 (And.intro (fun _ => (And.intro (fun q => absurd q c_7) (fun _ => (And.intro (fun _ => (And.intro (fun _ => (And.intro hi_21 g)) (fun q => absurd c_20 q))) (fun q => absurd c_19 q))))) (fun q => absurd c_6 q)))))))) ?_
              refine mm_re (l' := [(0, .ref 12), (2, .int (w2 + (1 : Int32))), (3, .int w3), (4, .int w4)]) (c := [(0, .ref 12), (2, .int (w2 + (1 : Int32))), (3, .int w3), (4, .int w4)]) ?_ rfl rfl
              exact xb_3_value_12_j67 h_3_reckon h_3_untold_12 s ((w2 + (1 : Int32))) (w3) (w4) (((s.2.1 15) ((((s.2.1 13) (w2).toNatClampNeg) - (10000 : Int32))).toNatClampNeg)) (w3) _ hf hK
            · have hf := mo_neg hf c_20
              refine mm_adv 32 (cs' := P_X3_value.drop 67) (l' := [(2, .int (w2 + (1 : Int32))), (5, .int ((s.2.1 13) (w2).toNatClampNeg)), (0, .ref 12), (3, .int w3), (4, .int w4)]) (st' := [.int ((s.2.1 13) (w2).toNatClampNeg), .int w3, .ref 16]) (h' := (xs_H pt ps pg pr s)) (bc' := 0) (bs' := 0) (fun n g => (And.intro (fun q => absurd q c_3) (fun _ => (And.intro (fun q => absurd q c_4) (fun _ => (And.intro hi_5 (And.intro (fun _ => (And.intro (fun q => absurd q c_7) (fun _ => (And.intro (fun _ => (And.intro (fun q => absurd q c_20) (fun _ => g))) (fun q => absurd c_19 q))))) (fun q => absurd c_6 q)))))))) ?_
              refine mm_re (l' := [(0, .ref 12), (2, .int (w2 + (1 : Int32))), (3, .int w3), (4, .int w4)]) (c := [(0, .ref 12), (2, .int (w2 + (1 : Int32))), (3, .int w3), (4, .int w4)]) ?_ rfl rfl
              exact xb_3_value_12_j67 h_3_reckon h_3_untold_12 s ((w2 + (1 : Int32))) (w3) (w4) (((s.2.1 13) (w2).toNatClampNeg)) (w3) _ hf hK
          · have hf := mo_neg hf c_19
            obtain rfl := Option.some.inj hf
            refine mm_adv 24 (cs' := P_X3_value.drop 51) (l' := [(2, .int (w2 + (1 : Int32))), (5, .int ((s.2.1 13) (w2).toNatClampNeg)), (0, .ref 12), (3, .int w3), (4, .int w4)]) (st' := []) (h' := (xs_H pt ps pg pr s)) (bc' := 0) (bs' := 0) (fun n g => (And.intro (fun q => absurd q c_3) (fun _ => (And.intro (fun q => absurd q c_4) (fun _ => (And.intro hi_5 (And.intro (fun _ => (And.intro (fun q => absurd q c_7) (fun _ => (And.intro (fun q => absurd q c_19) (fun _ => g))))) (fun q => absurd c_6 q)))))))) ?_
            exact mm_re (c := []) hK rfl rfl
noncomputable def xf_3_value_12 (s : xs_S) (a0 : Int32) : Option (Int32 × xs_S) :=
((mo_ag 4 (s.2.1 14) a0).bind fun x_1 =>
(if (0 : Int32) ≤ x_1 then
((mo_loop (xf_3_value_12_l15 ) (x_1, (0 : Int32), (0 : Int32), s)).bind fun x_23 =>
match x_23 with
| (.inl (e3_23, s_23)) => (if (1 : Int32) ≤ e3_23 then
((mo_ag 24 (s_23.2.1 16) (e3_23 - (1 : Int32))).bind fun x_25 =>
some (x_25, s_23))
else
some ((0 : Int32), s_23))
| (.inr (.inl s_23)) => some ((0 : Int32), s_23)
| (.inr (.inr (.inl s_23))) => some ((0 : Int32), s_23)
| (.inr (.inr (.inr (.inl s_23)))) => some ((0 : Int32), s_23)
| (.inr (.inr (.inr (.inr s_23)))) => some ((0 : Int32), s_23)
)
else
((xf_3_untold_12 s (a0)).bind fun (v_26, s_26) =>
some (v_26, s_26))))
set_option maxHeartbeats 4000000 in
theorem xb_3_value_12 {C : mm_C} {Q : mm_R} {pt : Value} {ps : Value} {pg : Value} {pr : Value} (h_3_reckon : xk_3_reckon C) (h_3_untold_12 : xk_3_untold_12 C) (s : xs_S) (a0 : Int32) (v : Int32) (s2 : xs_S) (hf : xf_3_value_12 s a0 = some (v, s2)) (hK : Q (some (.int v)) (xs_H pt ps pg pr s2)) : mm_go C mm_Mk mm_Fk P_X3_value Q P_X3_value [(0, .ref 12), (1, .int a0)] [] (xs_H pt ps pg pr s) 0 0 := by
  unfold xf_3_value_12 at hf
  obtain ⟨x_1, hx_1, hf⟩ := mo_bind hf
  obtain ⟨hi_1, rfl⟩ := mo_ag_inv hx_1
  by_cases c_2 : (0 : Int32) ≤ ((s.2.1 14) (a0).toNatClampNeg)
  · have hf := mo_pos hf c_2
    obtain ⟨x_23, hl_23, hf⟩ := mo_bind hf
    refine mm_adv 11 (cs' := P_X3_value.drop 15) (l' := [(4, .int (0 : Int32)), (3, .int (0 : Int32)), (2, .int ((s.2.1 14) (a0).toNatClampNeg)), (0, .ref 12), (1, .int a0)]) (st' := []) (h' := (xs_H pt ps pg pr s)) (bc' := 0) (bs' := 0) (fun n g => (And.intro hi_1 (And.intro (fun _ => g) (fun q => absurd c_2 q)))) ?_
    refine mm_re (l' := [(0, .ref 12), (2, .int ((s.2.1 14) (a0).toNatClampNeg)), (3, .int (0 : Int32)), (4, .int (0 : Int32))]) (c := [(0, .ref 12), (2, .int ((s.2.1 14) (a0).toNatClampNeg)), (3, .int (0 : Int32)), (4, .int (0 : Int32))]) ?_ rfl rfl
    refine xb_3_value_12_l15 h_3_reckon h_3_untold_12  (((s.2.1 14) (a0).toNatClampNeg), (0 : Int32), (0 : Int32), s) x_23 hl_23 ?_
    cases x_23 with
    | inl y_23 =>
      obtain ⟨e3_23, s_23⟩ := y_23
      by_cases c_24 : (1 : Int32) ≤ e3_23
      · have hf := mo_pos hf c_24
        obtain ⟨x_25, hx_25, hf⟩ := mo_bind hf
        obtain ⟨hi_25, rfl⟩ := mo_ag_inv hx_25
        obtain ⟨rfl, rfl⟩ := mo_pair hf
        exact ⟨10, (And.intro (fun _ => (And.intro hi_25 hK)) (fun q => absurd c_24 q))⟩
      · have hf := mo_neg hf c_24
        obtain ⟨rfl, rfl⟩ := mo_pair hf
        exact ⟨6, (And.intro (fun q => absurd q c_24) (fun _ => hK))⟩
    | inr z_23_0 =>
      cases z_23_0 with
      | inl y_23 =>
        obtain ⟨s_23, rfl⟩ : ∃ q, q = y_23 := ⟨_, rfl⟩
        obtain ⟨rfl, rfl⟩ := mo_pair hf
        exact ⟨2, hK⟩
      | inr z_23_1 =>
        cases z_23_1 with
        | inl y_23 =>
          obtain ⟨s_23, rfl⟩ : ∃ q, q = y_23 := ⟨_, rfl⟩
          obtain ⟨rfl, rfl⟩ := mo_pair hf
          exact ⟨2, hK⟩
        | inr z_23_2 =>
          cases z_23_2 with
          | inl y_23 =>
            obtain ⟨s_23, rfl⟩ : ∃ q, q = y_23 := ⟨_, rfl⟩
            obtain ⟨rfl, rfl⟩ := mo_pair hf
            exact ⟨2, hK⟩
          | inr z_23_3 =>
            obtain ⟨s_23, rfl⟩ : ∃ q, q = z_23_3 := ⟨_, rfl⟩
            obtain ⟨rfl, rfl⟩ := mo_pair hf
            exact ⟨2, hK⟩
  · have hf := mo_neg hf c_2
    obtain ⟨r_26, hr_26, hf⟩ := mo_bind hf
    obtain ⟨v_26, s_26⟩ := r_26
    obtain ⟨rfl, rfl⟩ := mo_pair hf
    exact ⟨11, (And.intro hi_1 (And.intro (fun q => absurd q c_2) (fun _ => (h_3_untold_12 pt ps pg pr s (a0) v_26 s_26 _ hr_26 hK))))⟩
def xk_3_value_12 (C : mm_C) : Prop := ∀ (pt : Value) (ps : Value) (pg : Value) (pr : Value) (s : xs_S) (a0 : Int32) (v : Int32) (s2 : xs_S) (Q : mm_R), xf_3_value_12 s a0 = some (v, s2) → Q (some (.int v)) (xs_H pt ps pg pr s2) → C 154 [.ref 12, .int a0] (xs_H pt ps pg pr s) Q
