/-! the class, method by method, 11 -/
-- 11_together
noncomputable def xf_11_together (s : xs_S)  : Option (Int32 × xs_S) :=
((xf_0_longestAsleep s ((s.1 400)) ((200 : Int32))).bind fun (v_1, s_1) =>
some (v_1, s_1))
set_option maxHeartbeats 4000000 in
theorem xb_11_together {C : mm_C} {Q : mm_R} {pt : Value} {ps : Value} {pr : Value} (h_0_longestAsleep : xk_0_longestAsleep C) (s : xs_S)  (v : Int32) (s2 : xs_S) (hf : xf_11_together s = some (v, s2)) (hK : Q (some (.int v)) (xs_H pt ps (.ref 9) pr s2)) : mm_go C mm_Mk mm_Fk P_X11_together Q P_X11_together [(0, .ref 0)] [] (xs_H pt ps (.ref 9) pr s) 0 0 := by
  unfold xf_11_together at hf
  obtain ⟨r_1, hr_1, hf⟩ := mo_bind hf
  obtain ⟨v_1, s_1⟩ := r_1
  obtain ⟨rfl, rfl⟩ := mo_pair hf
  exact ⟨8, (h_0_longestAsleep pt ps pr s ((s.1 400)) ((200 : Int32)) v_1 s_1 _ hr_1 hK)⟩
def xk_11_together (C : mm_C) : Prop := ∀ (pt : Value) (ps : Value) (pr : Value) (s : xs_S)  (v : Int32) (s2 : xs_S) (Q : mm_R), xf_11_together s = some (v, s2) → Q (some (.int v)) (xs_H pt ps (.ref 9) pr s2) → C 240 [.ref 0] (xs_H pt ps (.ref 9) pr s) Q
-- 11_leanOf
noncomputable def xf_11_leanOf (a0 : Int32) : Option (Int32) :=
((xf_11_slopeOf (a0)).bind fun v_1 =>
some ((mm_abs ((v_1 - (10 : Int32))))))
set_option maxHeartbeats 4000000 in
theorem xb_11_leanOf {C : mm_C} {Q : mm_R} (h_11_slopeOf : xk_11_slopeOf C) {h : mm_H} (a0 : Int32) (v : Int32) (hf : xf_11_leanOf a0 = some v) (hK : Q (some (.int v)) h) : mm_go C mm_Mk mm_Fk P_X11_leanOf Q P_X11_leanOf [(0, .int a0)] [] h 0 0 := by
  unfold xf_11_leanOf at hf
  obtain ⟨v_1, hr_1, hf⟩ := mo_bind hf
  obtain rfl := Option.some.inj hf
  exact ⟨6, (h_11_slopeOf _ (a0) v_1 _ hr_1 hK)⟩
def xk_11_leanOf (C : mm_C) : Prop := ∀ (h : mm_H) (a0 : Int32) (v : Int32) (Q : mm_R), xf_11_leanOf a0 = some v → Q (some (.int v)) h → C 274 [.int a0] h Q
-- 0_shortestRing
noncomputable def xf_0_shortestRing_l12 (v1 : Int32) (v2 : Int32) : (Int32 × xs_S) → Option ((Int32 × xs_S) ⊕ ((xs_S) ⊕ (xs_S))) := fun (w3, s) =>
(if (7 : Int32) ≤ w3 then
some (.inr (.inr (s)))
else
((mo_ag 294 (s.2.1 127) v2).bind fun x_4 =>
((xf_1_after s (x_4) (w3) ((0 : Int32))).bind fun (v_5, s_5) =>
(if v_5 = v1 then
some (.inr (.inl (s_5)))
else
some (.inl ((w3 + (1 : Int32)), s_5))))))
set_option maxHeartbeats 4000000 in
theorem xb_0_shortestRing_l12 {C : mm_C} {Q : mm_R} {pt : Value} {ps : Value} {pr : Value} (h_0_spread : xk_0_spread C) (h_1_after : xk_1_after C) (v1 : Int32) (v2 : Int32) (t : Int32 × xs_S) (x : (xs_S) ⊕ (xs_S)) (hl : mo_loop (xf_0_shortestRing_l12 v1 v2) t = some x) (hK : (mo_sum (fun sy => mm_go C mm_Mk mm_Fk P_X0_shortestRing Q (P_X0_shortestRing.drop 26) [(0, .ref 126), (2, .int v2)] [] (xs_H pt ps (.ref 9) pr sy) 0 0) (fun sy => mm_go C mm_Mk mm_Fk P_X0_shortestRing Q (P_X0_shortestRing.drop 38) [(0, .ref 126), (1, .int v1), (2, .int v2)] [] (xs_H pt ps (.ref 9) pr sy) 0 0)) x) : (mo_c2 (fun y3 sy => mm_go C mm_Mk mm_Fk P_X0_shortestRing Q (P_X0_shortestRing.drop 12) [(0, .ref 126), (1, .int v1), (2, .int v2), (3, .int y3)] [] (xs_H pt ps (.ref 9) pr sy) 0 0)) t := by
  refine mo_loop_go (G := (mo_c2 (fun y3 sy => mm_go C mm_Mk mm_Fk P_X0_shortestRing Q (P_X0_shortestRing.drop 12) [(0, .ref 126), (1, .int v1), (2, .int v2), (3, .int y3)] [] (xs_H pt ps (.ref 9) pr sy) 0 0)) ) (K := (mo_sum (fun sy => mm_go C mm_Mk mm_Fk P_X0_shortestRing Q (P_X0_shortestRing.drop 26) [(0, .ref 126), (2, .int v2)] [] (xs_H pt ps (.ref 9) pr sy) 0 0) (fun sy => mm_go C mm_Mk mm_Fk P_X0_shortestRing Q (P_X0_shortestRing.drop 38) [(0, .ref 126), (1, .int v1), (2, .int v2)] [] (xs_H pt ps (.ref 9) pr sy) 0 0)) ) ?_ t x hl hK
  intro t r hf hK
  obtain ⟨w3, s⟩ := t
  unfold xf_0_shortestRing_l12 at hf
  by_cases c_3 : (7 : Int32) ≤ w3
  · have hf := mo_pos hf c_3
    obtain rfl := Option.some.inj hf
    refine mm_adv 3 (cs' := P_X0_shortestRing.drop 38) (l' := [(0, .ref 126), (1, .int v1), (2, .int v2), (3, .int w3)]) (st' := []) (h' := (xs_H pt ps (.ref 9) pr s)) (bc' := 0) (bs' := 0) (fun n g => (And.intro (fun _ => g) (fun q => absurd c_3 q))) ?_
    exact mm_re (c := [(0, .ref 126), (1, .int v1), (2, .int v2)]) hK rfl rfl
  · have hf := mo_neg hf c_3
    obtain ⟨x_4, hx_4, hf⟩ := mo_bind hf
    obtain ⟨hi_4, rfl⟩ := mo_ag_inv hx_4
    obtain ⟨r_5, hr_5, hf⟩ := mo_bind hf
    obtain ⟨v_5, s_5⟩ := r_5
    by_cases c_6 : v_5 = v1
    · have hf := mo_pos hf c_6
      obtain rfl := Option.some.inj hf
      refine mm_adv 14 (cs' := P_X0_shortestRing.drop 26) (l' := [(0, .ref 126), (1, .int v1), (2, .int v2), (3, .int w3)]) (st' := []) (h' := (xs_H pt ps (.ref 9) pr s_5)) (bc' := 0) (bs' := 0) (fun n g => (And.intro (fun q => absurd q c_3) (fun _ => (And.intro hi_4 (h_1_after pt ps (.ref 9) pr s (((s.2.1 127) (v2).toNatClampNeg)) (w3) ((0 : Int32)) v_5 s_5 _ hr_5 (And.intro (fun q => absurd c_6 q) (fun _ => g))))))) ?_
      exact mm_re (c := [(0, .ref 126), (2, .int v2)]) hK rfl rfl
    · have hf := mo_neg hf c_6
      obtain rfl := Option.some.inj hf
      refine mm_adv 16 (cs' := P_X0_shortestRing.drop 12) (l' := [(3, .int (w3 + (1 : Int32))), (0, .ref 126), (1, .int v1), (2, .int v2)]) (st' := []) (h' := (xs_H pt ps (.ref 9) pr s_5)) (bc' := 0) (bs' := 0) (fun n g => (And.intro (fun q => absurd q c_3) (fun _ => (And.intro hi_4 (h_1_after pt ps (.ref 9) pr s (((s.2.1 127) (v2).toNatClampNeg)) (w3) ((0 : Int32)) v_5 s_5 _ hr_5 (And.intro (fun _ => g) (fun q => absurd c_6 q))))))) ?_
      exact mm_re (c := [(0, .ref 126), (1, .int v1), (2, .int v2), (3, .int (w3 + (1 : Int32)))]) hK rfl rfl
noncomputable def xf_0_shortestRing_l6 (v1 : Int32) : (Int32 × xs_S) → Option ((Int32 × xs_S) ⊕ ((Int32 × xs_S) ⊕ (xs_S))) := fun (w2, s) =>
(if (s.1 2018) ≤ w2 then
some (.inr (.inr (s)))
else
((mo_loop (xf_0_shortestRing_l12 (v1) (w2)) ((0 : Int32), s)).bind fun x_7 =>
match x_7 with
| (.inl s_7) => some (.inr (.inl (w2, s_7)))
| (.inr s_7) => some (.inl ((w2 + (1 : Int32)), s_7))
))
set_option maxHeartbeats 4000000 in
theorem xb_0_shortestRing_l6 {C : mm_C} {Q : mm_R} {pt : Value} {ps : Value} {pr : Value} (h_0_spread : xk_0_spread C) (h_1_after : xk_1_after C) (v1 : Int32) (t : Int32 × xs_S) (x : (Int32 × xs_S) ⊕ (xs_S)) (hl : mo_loop (xf_0_shortestRing_l6 v1) t = some x) (hK : (mo_sum (mo_c2 (fun y2 sy => mm_go C mm_Mk mm_Fk P_X0_shortestRing Q (P_X0_shortestRing.drop 26) [(0, .ref 126), (2, .int y2)] [] (xs_H pt ps (.ref 9) pr sy) 0 0)) (fun sy => mm_go C mm_Mk mm_Fk P_X0_shortestRing Q (P_X0_shortestRing.drop 40) [] [] (xs_H pt ps (.ref 9) pr sy) 0 0)) x) : (mo_c2 (fun y2 sy => mm_go C mm_Mk mm_Fk P_X0_shortestRing Q (P_X0_shortestRing.drop 6) [(0, .ref 126), (1, .int v1), (2, .int y2)] [] (xs_H pt ps (.ref 9) pr sy) 0 0)) t := by
  refine mo_loop_go (G := (mo_c2 (fun y2 sy => mm_go C mm_Mk mm_Fk P_X0_shortestRing Q (P_X0_shortestRing.drop 6) [(0, .ref 126), (1, .int v1), (2, .int y2)] [] (xs_H pt ps (.ref 9) pr sy) 0 0)) ) (K := (mo_sum (mo_c2 (fun y2 sy => mm_go C mm_Mk mm_Fk P_X0_shortestRing Q (P_X0_shortestRing.drop 26) [(0, .ref 126), (2, .int y2)] [] (xs_H pt ps (.ref 9) pr sy) 0 0)) (fun sy => mm_go C mm_Mk mm_Fk P_X0_shortestRing Q (P_X0_shortestRing.drop 40) [] [] (xs_H pt ps (.ref 9) pr sy) 0 0)) ) ?_ t x hl hK
  intro t r hf hK
  obtain ⟨w2, s⟩ := t
  unfold xf_0_shortestRing_l6 at hf
  by_cases c_2 : (s.1 2018) ≤ w2
  · have hf := mo_pos hf c_2
    obtain rfl := Option.some.inj hf
    refine mm_adv 4 (cs' := P_X0_shortestRing.drop 40) (l' := [(0, .ref 126), (1, .int v1), (2, .int w2)]) (st' := []) (h' := (xs_H pt ps (.ref 9) pr s)) (bc' := 0) (bs' := 0) (fun n g => (And.intro (fun _ => g) (fun q => absurd c_2 q))) ?_
    exact mm_re (c := []) hK rfl rfl
  · have hf := mo_neg hf c_2
    obtain ⟨x_7, hl_7, hf⟩ := mo_bind hf
    refine mm_adv 6 (cs' := P_X0_shortestRing.drop 12) (l' := [(3, .int (0 : Int32)), (0, .ref 126), (1, .int v1), (2, .int w2)]) (st' := []) (h' := (xs_H pt ps (.ref 9) pr s)) (bc' := 0) (bs' := 0) (fun n g => (And.intro (fun q => absurd q c_2) (fun _ => g))) ?_
    refine mm_re (l' := [(0, .ref 126), (1, .int v1), (2, .int w2), (3, .int (0 : Int32))]) (c := [(0, .ref 126), (1, .int v1), (2, .int w2), (3, .int (0 : Int32))]) ?_ rfl rfl
    refine xb_0_shortestRing_l12 h_0_spread h_1_after (v1) (w2) ((0 : Int32), s) x_7 hl_7 ?_
    cases x_7 with
    | inl y_7 =>
      obtain ⟨s_7, rfl⟩ : ∃ q, q = y_7 := ⟨_, rfl⟩
      obtain rfl := Option.some.inj hf
      exact mm_re (c := [(0, .ref 126), (2, .int w2)]) hK rfl rfl
    | inr z_7_0 =>
      obtain ⟨s_7, rfl⟩ : ∃ q, q = z_7_0 := ⟨_, rfl⟩
      obtain rfl := Option.some.inj hf
      refine mm_adv 2 (cs' := P_X0_shortestRing.drop 6) (l' := [(2, .int (w2 + (1 : Int32))), (0, .ref 126), (1, .int v1)]) (st' := []) (h' := (xs_H pt ps (.ref 9) pr s_7)) (bc' := 0) (bs' := 0) (fun n g => g) ?_
      exact mm_re (c := [(0, .ref 126), (1, .int v1), (2, .int (w2 + (1 : Int32)))]) hK rfl rfl
noncomputable def xf_0_shortestRing (s : xs_S) (a0 : Int32) : Option (Int32 × xs_S) :=
((xf_0_spread s (a0) ((0 : Int32))).bind fun s_1 =>
((mo_loop (xf_0_shortestRing_l6 (a0)) ((0 : Int32), s_1)).bind fun x_8 =>
match x_8 with
| (.inl (e2_8, s_8)) => ((mo_ag 294 (s_8.2.1 127) e2_8).bind fun x_9 =>
((mo_ag 294 (s_8.2.1 128) x_9).bind fun x_10 =>
some ((x_10 + (1 : Int32)), s_8)))
| (.inr s_8) => some ((-2 : Int32), s_8)
))
set_option maxHeartbeats 4000000 in
theorem xb_0_shortestRing {C : mm_C} {Q : mm_R} {pt : Value} {ps : Value} {pr : Value} (h_0_spread : xk_0_spread C) (h_1_after : xk_1_after C) (s : xs_S) (a0 : Int32) (v : Int32) (s2 : xs_S) (hf : xf_0_shortestRing s a0 = some (v, s2)) (hK : Q (some (.int v)) (xs_H pt ps (.ref 9) pr s2)) : mm_go C mm_Mk mm_Fk P_X0_shortestRing Q P_X0_shortestRing [(0, .ref 126), (1, .int a0)] [] (xs_H pt ps (.ref 9) pr s) 0 0 := by
  unfold xf_0_shortestRing at hf
  obtain ⟨s_1, hr_1, hf⟩ := mo_bind hf
  obtain ⟨x_8, hl_8, hf⟩ := mo_bind hf
  refine mm_adv 6 (cs' := P_X0_shortestRing.drop 6) (l' := [(2, .int (0 : Int32)), (0, .ref 126), (1, .int a0)]) (st' := []) (h' := (xs_H pt ps (.ref 9) pr s_1)) (bc' := 0) (bs' := 0) (fun n g => (h_0_spread pt ps pr s (a0) ((0 : Int32)) s_1 _ hr_1 g)) ?_
  refine mm_re (l' := [(0, .ref 126), (1, .int a0), (2, .int (0 : Int32))]) (c := [(0, .ref 126), (1, .int a0), (2, .int (0 : Int32))]) ?_ rfl rfl
  refine xb_0_shortestRing_l6 h_0_spread h_1_after (a0) ((0 : Int32), s_1) x_8 hl_8 ?_
  cases x_8 with
  | inl y_8 =>
    obtain ⟨e2_8, s_8⟩ := y_8
    obtain ⟨x_9, hx_9, hf⟩ := mo_bind hf
    obtain ⟨hi_9, rfl⟩ := mo_ag_inv hx_9
    obtain ⟨x_10, hx_10, hf⟩ := mo_bind hf
    obtain ⟨hi_10, rfl⟩ := mo_ag_inv hx_10
    obtain ⟨rfl, rfl⟩ := mo_pair hf
    exact ⟨10, (And.intro hi_9 (And.intro hi_10 hK))⟩
  | inr z_8_0 =>
    obtain ⟨s_8, rfl⟩ : ∃ q, q = z_8_0 := ⟨_, rfl⟩
    obtain ⟨rfl, rfl⟩ := mo_pair hf
    exact ⟨2, hK⟩
def xk_0_shortestRing (C : mm_C) : Prop := ∀ (pt : Value) (ps : Value) (pr : Value) (s : xs_S) (a0 : Int32) (v : Int32) (s2 : xs_S) (Q : mm_R), xf_0_shortestRing s a0 = some (v, s2) → Q (some (.int v)) (xs_H pt ps (.ref 9) pr s2) → C 128 [.ref 126, .int a0] (xs_H pt ps (.ref 9) pr s) Q
-- 11_ring
noncomputable def xf_11_ring (s : xs_S)  : Option (Int32 × xs_S) :=
((xf_0_shortestRing s ((s.1 400))).bind fun (v_1, s_1) =>
some (v_1, s_1))
set_option maxHeartbeats 4000000 in
theorem xb_11_ring {C : mm_C} {Q : mm_R} {pt : Value} {ps : Value} {pr : Value} (h_0_shortestRing : xk_0_shortestRing C) (s : xs_S)  (v : Int32) (s2 : xs_S) (hf : xf_11_ring s = some (v, s2)) (hK : Q (some (.int v)) (xs_H pt ps (.ref 9) pr s2)) : mm_go C mm_Mk mm_Fk P_X11_ring Q P_X11_ring [(0, .ref 0)] [] (xs_H pt ps (.ref 9) pr s) 0 0 := by
  unfold xf_11_ring at hf
  obtain ⟨r_1, hr_1, hf⟩ := mo_bind hf
  obtain ⟨v_1, s_1⟩ := r_1
  obtain ⟨rfl, rfl⟩ := mo_pair hf
  exact ⟨7, (h_0_shortestRing pt ps pr s ((s.1 400)) v_1 s_1 _ hr_1 hK)⟩
def xk_11_ring (C : mm_C) : Prop := ∀ (pt : Value) (ps : Value) (pr : Value) (s : xs_S)  (v : Int32) (s2 : xs_S) (Q : mm_R), xf_11_ring s = some (v, s2) → Q (some (.int v)) (xs_H pt ps (.ref 9) pr s2) → C 244 [.ref 0] (xs_H pt ps (.ref 9) pr s) Q
-- 11_reach
noncomputable def xf_11_reach (s : xs_S)  : Option (Int32 × xs_S) :=
((xf_0_spread s ((s.1 400)) ((0 : Int32))).bind fun s_1 =>
some ((s_1.1 2018), s_1))
set_option maxHeartbeats 4000000 in
theorem xb_11_reach {C : mm_C} {Q : mm_R} {pt : Value} {ps : Value} {pr : Value} (h_0_spread : xk_0_spread C) (s : xs_S)  (v : Int32) (s2 : xs_S) (hf : xf_11_reach s = some (v, s2)) (hK : Q (some (.int v)) (xs_H pt ps (.ref 9) pr s2)) : mm_go C mm_Mk mm_Fk P_X11_reach Q P_X11_reach [(0, .ref 0)] [] (xs_H pt ps (.ref 9) pr s) 0 0 := by
  unfold xf_11_reach at hf
  obtain ⟨s_1, hr_1, hf⟩ := mo_bind hf
  obtain ⟨rfl, rfl⟩ := mo_pair hf
  exact ⟨11, (h_0_spread pt ps pr s ((s.1 400)) ((0 : Int32)) s_1 _ hr_1 hK)⟩
def xk_11_reach (C : mm_C) : Prop := ∀ (pt : Value) (ps : Value) (pr : Value) (s : xs_S)  (v : Int32) (s2 : xs_S) (Q : mm_R), xf_11_reach s = some (v, s2) → Q (some (.int v)) (xs_H pt ps (.ref 9) pr s2) → C 245 [.ref 0] (xs_H pt ps (.ref 9) pr s) Q
-- 0_slopeBits
noncomputable def xf_0_slopeBits_l4  : (Int32 × Int32 × xs_S) → Option ((Int32 × Int32 × xs_S) ⊕ ((Int32 × xs_S))) := fun (w1, w2, s) =>
(if (s.1 2018) ≤ w2 then
some (.inr (w1, s))
else
((mo_ag 294 (s.2.1 127) w2).bind fun x_2 =>
((xf_11_slopeOf (x_2)).bind fun v_3 =>
some (.inl ((w1 ||| ((1 : Int32) <<< (v_3 &&& 31))), (w2 + (1 : Int32)), s)))))
set_option maxHeartbeats 4000000 in
theorem xb_0_slopeBits_l4 {C : mm_C} {Q : mm_R} {pt : Value} {ps : Value} {pg : Value} {pr : Value} (h_11_slopeOf : xk_11_slopeOf C)  (t : Int32 × Int32 × xs_S) (x : (Int32 × xs_S)) (hl : mo_loop (xf_0_slopeBits_l4 ) t = some x) (hK : (mo_c2 (fun y1 sy => mm_go C mm_Mk mm_Fk P_X0_slopeBits Q (P_X0_slopeBits.drop 20) [(1, .int y1)] [] (xs_H pt ps pg pr sy) 0 0)) x) : (mo_c2 (fun y1 => (mo_c2 (fun y2 sy => mm_go C mm_Mk mm_Fk P_X0_slopeBits Q (P_X0_slopeBits.drop 4) [(0, .ref 126), (1, .int y1), (2, .int y2)] [] (xs_H pt ps pg pr sy) 0 0)))) t := by
  refine mo_loop_go (G := (mo_c2 (fun y1 => (mo_c2 (fun y2 sy => mm_go C mm_Mk mm_Fk P_X0_slopeBits Q (P_X0_slopeBits.drop 4) [(0, .ref 126), (1, .int y1), (2, .int y2)] [] (xs_H pt ps pg pr sy) 0 0)))) ) (K := (mo_c2 (fun y1 sy => mm_go C mm_Mk mm_Fk P_X0_slopeBits Q (P_X0_slopeBits.drop 20) [(1, .int y1)] [] (xs_H pt ps pg pr sy) 0 0)) ) ?_ t x hl hK
  intro t r hf hK
  obtain ⟨w1, w2, s⟩ := t
  unfold xf_0_slopeBits_l4 at hf
  by_cases c_1 : (s.1 2018) ≤ w2
  · have hf := mo_pos hf c_1
    obtain rfl := Option.some.inj hf
    refine mm_adv 4 (cs' := P_X0_slopeBits.drop 20) (l' := [(0, .ref 126), (1, .int w1), (2, .int w2)]) (st' := []) (h' := (xs_H pt ps pg pr s)) (bc' := 0) (bs' := 0) (fun n g => (And.intro (fun _ => g) (fun q => absurd c_1 q))) ?_
    exact mm_re (c := [(1, .int w1)]) hK rfl rfl
  · have hf := mo_neg hf c_1
    obtain ⟨x_2, hx_2, hf⟩ := mo_bind hf
    obtain ⟨hi_2, rfl⟩ := mo_ag_inv hx_2
    obtain ⟨v_3, hr_3, hf⟩ := mo_bind hf
    obtain rfl := Option.some.inj hf
    refine mm_adv 16 (cs' := P_X0_slopeBits.drop 4) (l' := [(2, .int (w2 + (1 : Int32))), (1, .int (w1 ||| ((1 : Int32) <<< (v_3 &&& 31)))), (0, .ref 126)]) (st' := []) (h' := (xs_H pt ps pg pr s)) (bc' := 0) (bs' := 0) (fun n g => (And.intro (fun q => absurd q c_1) (fun _ => (And.intro hi_2 (h_11_slopeOf _ (((s.2.1 127) (w2).toNatClampNeg)) v_3 _ hr_3 g))))) ?_
    exact mm_re (c := [(0, .ref 126), (1, .int (w1 ||| ((1 : Int32) <<< (v_3 &&& 31)))), (2, .int (w2 + (1 : Int32)))]) hK rfl rfl
noncomputable def xf_0_slopeBits (s : xs_S)  : Option (Int32 × xs_S) :=
((mo_loop (xf_0_slopeBits_l4 ) ((0 : Int32), (0 : Int32), s)).bind fun (e1_4, s_4) =>
some (e1_4, s_4))
set_option maxHeartbeats 4000000 in
theorem xb_0_slopeBits {C : mm_C} {Q : mm_R} {pt : Value} {ps : Value} {pg : Value} {pr : Value} (h_11_slopeOf : xk_11_slopeOf C) (s : xs_S)  (v : Int32) (s2 : xs_S) (hf : xf_0_slopeBits s = some (v, s2)) (hK : Q (some (.int v)) (xs_H pt ps pg pr s2)) : mm_go C mm_Mk mm_Fk P_X0_slopeBits Q P_X0_slopeBits [(0, .ref 126)] [] (xs_H pt ps pg pr s) 0 0 := by
  unfold xf_0_slopeBits at hf
  obtain ⟨x_4, hl_4, hf⟩ := mo_bind hf
  refine mm_adv 4 (cs' := P_X0_slopeBits.drop 4) (l' := [(2, .int (0 : Int32)), (1, .int (0 : Int32)), (0, .ref 126)]) (st' := []) (h' := (xs_H pt ps pg pr s)) (bc' := 0) (bs' := 0) (fun n g => g) ?_
  refine mm_re (l' := [(0, .ref 126), (1, .int (0 : Int32)), (2, .int (0 : Int32))]) (c := [(0, .ref 126), (1, .int (0 : Int32)), (2, .int (0 : Int32))]) ?_ rfl rfl
  refine xb_0_slopeBits_l4 h_11_slopeOf  ((0 : Int32), (0 : Int32), s) x_4 hl_4 ?_
  obtain ⟨e1_4, s_4⟩ := x_4
  obtain ⟨rfl, rfl⟩ := mo_pair hf
  exact ⟨2, hK⟩
def xk_0_slopeBits (C : mm_C) : Prop := ∀ (pt : Value) (ps : Value) (pg : Value) (pr : Value) (s : xs_S)  (v : Int32) (s2 : xs_S) (Q : mm_R), xf_0_slopeBits s = some (v, s2) → Q (some (.int v)) (xs_H pt ps pg pr s2) → C 127 [.ref 126] (xs_H pt ps pg pr s) Q
-- 11_slopes
noncomputable def xf_11_slopes (s : xs_S)  : Option (Int32 × xs_S) :=
((xf_0_spread s ((s.1 400)) ((0 : Int32))).bind fun s_1 =>
((xf_0_slopeBits s_1 ).bind fun (v_2, s_2) =>
some (v_2, s_2)))
set_option maxHeartbeats 4000000 in
theorem xb_11_slopes {C : mm_C} {Q : mm_R} {pt : Value} {ps : Value} {pr : Value} (h_0_spread : xk_0_spread C) (h_0_slopeBits : xk_0_slopeBits C) (s : xs_S)  (v : Int32) (s2 : xs_S) (hf : xf_11_slopes s = some (v, s2)) (hK : Q (some (.int v)) (xs_H pt ps (.ref 9) pr s2)) : mm_go C mm_Mk mm_Fk P_X11_slopes Q P_X11_slopes [(0, .ref 0)] [] (xs_H pt ps (.ref 9) pr s) 0 0 := by
  unfold xf_11_slopes at hf
  obtain ⟨s_1, hr_1, hf⟩ := mo_bind hf
  obtain ⟨r_2, hr_2, hf⟩ := mo_bind hf
  obtain ⟨v_2, s_2⟩ := r_2
  obtain ⟨rfl, rfl⟩ := mo_pair hf
  exact ⟨11, (h_0_spread pt ps pr s ((s.1 400)) ((0 : Int32)) s_1 _ hr_1 (h_0_slopeBits pt ps (.ref 9) pr s_1  v_2 s_2 _ hr_2 hK))⟩
def xk_11_slopes (C : mm_C) : Prop := ∀ (pt : Value) (ps : Value) (pr : Value) (s : xs_S)  (v : Int32) (s2 : xs_S) (Q : mm_R), xf_11_slopes s = some (v, s2) → Q (some (.int v)) (xs_H pt ps (.ref 9) pr s2) → C 246 [.ref 0] (xs_H pt ps (.ref 9) pr s) Q
-- 11_hangs
noncomputable def xf_11_hangs_j34 (s : xs_S) (v1 : Int32) (v2 : Int32) (v3 : Int32) : Option ((Int32 × Int32 × xs_S) ⊕ ((Int32 × xs_S))) :=
some (.inl (v2, (v3 + (1 : Int32)), s))
set_option maxHeartbeats 4000000 in
theorem xb_11_hangs_j34 {C : mm_C} {Q : mm_R} {ps : Value} {pr : Value} (h_0_foresee : xk_0_foresee C) (s : xs_S) (v1 : Int32) (v2 : Int32) (v3 : Int32) (r : (Int32 × Int32 × xs_S) ⊕ ((Int32 × xs_S))) (hf : xf_11_hangs_j34 s v1 v2 v3 = some r) (hK : mo_sum (mo_c2 (fun y2 => (mo_c2 (fun y3 sy => mm_go C mm_Mk mm_Fk P_X11_hangs Q (P_X11_hangs.drop 12) [(0, .ref 0), (1, .int v1), (2, .int y2), (3, .int y3)] [] (xs_H (.ref 9) ps (.ref 9) pr sy) 0 0))))  (mo_c2 (fun y2 sy => mm_go C mm_Mk mm_Fk P_X11_hangs Q (P_X11_hangs.drop 36) [(2, .int y2)] [] (xs_H (.ref 9) ps (.ref 9) pr sy) 0 0))  r) : mm_go C mm_Mk mm_Fk P_X11_hangs Q (P_X11_hangs.drop 34) [(0, .ref 0), (1, .int v1), (2, .int v2), (3, .int v3)] [] (xs_H (.ref 9) ps (.ref 9) pr s) 0 0 := by
  unfold xf_11_hangs_j34 at hf
  obtain rfl := Option.some.inj hf
  refine mm_adv 2 (cs' := P_X11_hangs.drop 12) (l' := [(3, .int (v3 + (1 : Int32))), (0, .ref 0), (1, .int v1), (2, .int v2)]) (st' := []) (h' := (xs_H (.ref 9) ps (.ref 9) pr s)) (bc' := 0) (bs' := 0) (fun n g => g) ?_
  exact mm_re (c := [(0, .ref 0), (1, .int v1), (2, .int v2), (3, .int (v3 + (1 : Int32)))]) hK rfl rfl
noncomputable def xf_11_hangs_l12 (v1 : Int32) : (Int32 × Int32 × xs_S) → Option ((Int32 × Int32 × xs_S) ⊕ ((Int32 × xs_S))) := fun (w2, w3, s) =>
(if (s.1 148) ≤ w3 then
some (.inr (w2, s))
else
((xf_0_foresee s ((s.1 400)) (((1 : Int32) <<< (w3 &&& 31)))).bind fun (v_3, s_3) =>
(if v_3 = v1 then
(xf_11_hangs_j34 (s_3) (v1) (w2) (w3))
else
(xf_11_hangs_j34 (s_3) (v1) ((w2 ||| ((1 : Int32) <<< (w3 &&& 31)))) (w3)))))
set_option maxHeartbeats 4000000 in
theorem xb_11_hangs_l12 {C : mm_C} {Q : mm_R} {ps : Value} {pr : Value} (h_0_foresee : xk_0_foresee C) (v1 : Int32) (t : Int32 × Int32 × xs_S) (x : (Int32 × xs_S)) (hl : mo_loop (xf_11_hangs_l12 v1) t = some x) (hK : (mo_c2 (fun y2 sy => mm_go C mm_Mk mm_Fk P_X11_hangs Q (P_X11_hangs.drop 36) [(2, .int y2)] [] (xs_H (.ref 9) ps (.ref 9) pr sy) 0 0)) x) : (mo_c2 (fun y2 => (mo_c2 (fun y3 sy => mm_go C mm_Mk mm_Fk P_X11_hangs Q (P_X11_hangs.drop 12) [(0, .ref 0), (1, .int v1), (2, .int y2), (3, .int y3)] [] (xs_H (.ref 9) ps (.ref 9) pr sy) 0 0)))) t := by
  refine mo_loop_go (G := (mo_c2 (fun y2 => (mo_c2 (fun y3 sy => mm_go C mm_Mk mm_Fk P_X11_hangs Q (P_X11_hangs.drop 12) [(0, .ref 0), (1, .int v1), (2, .int y2), (3, .int y3)] [] (xs_H (.ref 9) ps (.ref 9) pr sy) 0 0)))) ) (K := (mo_c2 (fun y2 sy => mm_go C mm_Mk mm_Fk P_X11_hangs Q (P_X11_hangs.drop 36) [(2, .int y2)] [] (xs_H (.ref 9) ps (.ref 9) pr sy) 0 0)) ) ?_ t x hl hK
  intro t r hf hK
  obtain ⟨w2, w3, s⟩ := t
  unfold xf_11_hangs_l12 at hf
  by_cases c_2 : (s.1 148) ≤ w3
  · have hf := mo_pos hf c_2
    obtain rfl := Option.some.inj hf
    refine mm_adv 5 (cs' := P_X11_hangs.drop 36) (l' := [(0, .ref 0), (1, .int v1), (2, .int w2), (3, .int w3)]) (st' := []) (h' := (xs_H (.ref 9) ps (.ref 9) pr s)) (bc' := 0) (bs' := 0) (fun n g => (And.intro (fun _ => g) (fun q => absurd c_2 q))) ?_
    exact mm_re (c := [(2, .int w2)]) hK rfl rfl
  · have hf := mo_neg hf c_2
    obtain ⟨r_3, hr_3, hf⟩ := mo_bind hf
    obtain ⟨v_3, s_3⟩ := r_3
    by_cases c_4 : v_3 = v1
    · have hf := mo_pos hf c_4
      refine mm_adv 16 (cs' := P_X11_hangs.drop 34) (l' := [(0, .ref 0), (1, .int v1), (2, .int w2), (3, .int w3)]) (st' := []) (h' := (xs_H (.ref 9) ps (.ref 9) pr s_3)) (bc' := 0) (bs' := 0) (fun n g => (And.intro (fun q => absurd q c_2) (fun _ => (h_0_foresee (.ref 9) ps pr s ((s.1 400)) (((1 : Int32) <<< (w3 &&& 31))) v_3 s_3 _ hr_3 (And.intro (fun _ => g) (fun q => absurd c_4 q)))))) ?_
      refine mm_re (l' := [(0, .ref 0), (1, .int v1), (2, .int w2), (3, .int w3)]) (c := [(0, .ref 0), (1, .int v1), (2, .int w2), (3, .int w3)]) ?_ rfl rfl
      exact xb_11_hangs_j34 h_0_foresee s_3 (v1) (w2) (w3) _ hf hK
    · have hf := mo_neg hf c_4
      refine mm_adv 22 (cs' := P_X11_hangs.drop 34) (l' := [(2, .int (w2 ||| ((1 : Int32) <<< (w3 &&& 31)))), (0, .ref 0), (1, .int v1), (3, .int w3)]) (st' := []) (h' := (xs_H (.ref 9) ps (.ref 9) pr s_3)) (bc' := 0) (bs' := 0) (fun n g => (And.intro (fun q => absurd q c_2) (fun _ => (h_0_foresee (.ref 9) ps pr s ((s.1 400)) (((1 : Int32) <<< (w3 &&& 31))) v_3 s_3 _ hr_3 (And.intro (fun q => absurd q c_4) (fun _ => g)))))) ?_
      refine mm_re (l' := [(0, .ref 0), (1, .int v1), (2, .int (w2 ||| ((1 : Int32) <<< (w3 &&& 31)))), (3, .int w3)]) (c := [(0, .ref 0), (1, .int v1), (2, .int (w2 ||| ((1 : Int32) <<< (w3 &&& 31)))), (3, .int w3)]) ?_ rfl rfl
      exact xb_11_hangs_j34 h_0_foresee s_3 (v1) ((w2 ||| ((1 : Int32) <<< (w3 &&& 31)))) (w3) _ hf hK
noncomputable def xf_11_hangs (s : xs_S)  : Option (Int32 × xs_S) :=
((xf_0_foresee s ((s.1 400)) ((0 : Int32))).bind fun (v_1, s_1) =>
((mo_loop (xf_11_hangs_l12 (v_1)) ((0 : Int32), (0 : Int32), s_1)).bind fun (e2_5, s_5) =>
some (e2_5, s_5)))
set_option maxHeartbeats 4000000 in
theorem xb_11_hangs {C : mm_C} {Q : mm_R} {ps : Value} {pr : Value} (h_0_foresee : xk_0_foresee C) (s : xs_S)  (v : Int32) (s2 : xs_S) (hf : xf_11_hangs s = some (v, s2)) (hK : Q (some (.int v)) (xs_H (.ref 9) ps (.ref 9) pr s2)) : mm_go C mm_Mk mm_Fk P_X11_hangs Q P_X11_hangs [(0, .ref 0)] [] (xs_H (.ref 9) ps (.ref 9) pr s) 0 0 := by
  unfold xf_11_hangs at hf
  obtain ⟨r_1, hr_1, hf⟩ := mo_bind hf
  obtain ⟨v_1, s_1⟩ := r_1
  obtain ⟨x_5, hl_5, hf⟩ := mo_bind hf
  refine mm_adv 12 (cs' := P_X11_hangs.drop 12) (l' := [(3, .int (0 : Int32)), (2, .int (0 : Int32)), (1, .int v_1), (0, .ref 0)]) (st' := []) (h' := (xs_H (.ref 9) ps (.ref 9) pr s_1)) (bc' := 0) (bs' := 0) (fun n g => (h_0_foresee (.ref 9) ps pr s ((s.1 400)) ((0 : Int32)) v_1 s_1 _ hr_1 g)) ?_
  refine mm_re (l' := [(0, .ref 0), (1, .int v_1), (2, .int (0 : Int32)), (3, .int (0 : Int32))]) (c := [(0, .ref 0), (1, .int v_1), (2, .int (0 : Int32)), (3, .int (0 : Int32))]) ?_ rfl rfl
  refine xb_11_hangs_l12 h_0_foresee (v_1) ((0 : Int32), (0 : Int32), s_1) x_5 hl_5 ?_
  obtain ⟨e2_5, s_5⟩ := x_5
  obtain ⟨rfl, rfl⟩ := mo_pair hf
  exact ⟨2, hK⟩
def xk_11_hangs (C : mm_C) : Prop := ∀ (ps : Value) (pr : Value) (s : xs_S)  (v : Int32) (s2 : xs_S) (Q : mm_R), xf_11_hangs s = some (v, s2) → Q (some (.int v)) (xs_H (.ref 9) ps (.ref 9) pr s2) → C 247 [.ref 0] (xs_H (.ref 9) ps (.ref 9) pr s) Q
-- 11_scale
noncomputable def xf_11_scale (s : xs_S) (a0 : Int32) : Option (Int32 × xs_S) :=
((xf_7_hasWord_9 s (a0)).bind fun (v_1, s_1) =>
(if v_1 = (0 : Int32) then
some ((-1 : Int32), s_1)
else
((xf_1_open s_1 ((s_1.1 400))).bind fun s_3 =>
((xf_1_after s_3 ((s_3.1 400)) (a0) ((0 : Int32))).bind fun (v_4, s_4) =>
(if v_4 = (-1 : Int32) then
some ((-2 : Int32), s_4)
else
((xf_0_foresee s_4 (v_4) ((0 : Int32))).bind fun (v_6, s_6) =>
some (v_6, s_6)))))))
set_option maxHeartbeats 4000000 in
theorem xb_11_scale {C : mm_C} {Q : mm_R} {ps : Value} {pr : Value} (h_7_hasWord_9 : xk_7_hasWord_9 C) (h_1_open : xk_1_open C) (h_1_after : xk_1_after C) (h_0_foresee : xk_0_foresee C) (s : xs_S) (a0 : Int32) (v : Int32) (s2 : xs_S) (hf : xf_11_scale s a0 = some (v, s2)) (hK : Q (some (.int v)) (xs_H (.ref 9) ps (.ref 9) pr s2)) : mm_go C mm_Mk mm_Fk P_X11_scale Q P_X11_scale [(0, .ref 0), (1, .int a0)] [] (xs_H (.ref 9) ps (.ref 9) pr s) 0 0 := by
  unfold xf_11_scale at hf
  obtain ⟨r_1, hr_1, hf⟩ := mo_bind hf
  obtain ⟨v_1, s_1⟩ := r_1
  by_cases c_2 : v_1 = (0 : Int32)
  · have hf := mo_pos hf c_2
    obtain ⟨rfl, rfl⟩ := mo_pair hf
    exact ⟨7, (h_7_hasWord_9 (.ref 9) ps (.ref 9) pr s (a0) v_1 s_1 _ hr_1 (And.intro (fun q => absurd c_2 q) (fun _ => hK)))⟩
  · have hf := mo_neg hf c_2
    obtain ⟨s_3, hr_3, hf⟩ := mo_bind hf
    obtain ⟨r_4, hr_4, hf⟩ := mo_bind hf
    obtain ⟨v_4, s_4⟩ := r_4
    by_cases c_5 : v_4 = (-1 : Int32)
    · have hf := mo_pos hf c_5
      obtain ⟨rfl, rfl⟩ := mo_pair hf
      exact ⟨26, (h_7_hasWord_9 (.ref 9) ps (.ref 9) pr s (a0) v_1 s_1 _ hr_1 (And.intro (fun _ => (h_1_open (.ref 9) ps pr s_1 ((s_1.1 400)) s_3 _ hr_3 (h_1_after (.ref 9) ps (.ref 9) pr s_3 ((s_3.1 400)) (a0) ((0 : Int32)) v_4 s_4 _ hr_4 (And.intro (fun q => absurd c_5 q) (fun _ => hK))))) (fun q => absurd c_2 q)))⟩
    · have hf := mo_neg hf c_5
      obtain ⟨r_6, hr_6, hf⟩ := mo_bind hf
      obtain ⟨v_6, s_6⟩ := r_6
      obtain ⟨rfl, rfl⟩ := mo_pair hf
      exact ⟨29, (h_7_hasWord_9 (.ref 9) ps (.ref 9) pr s (a0) v_1 s_1 _ hr_1 (And.intro (fun _ => (h_1_open (.ref 9) ps pr s_1 ((s_1.1 400)) s_3 _ hr_3 (h_1_after (.ref 9) ps (.ref 9) pr s_3 ((s_3.1 400)) (a0) ((0 : Int32)) v_4 s_4 _ hr_4 (And.intro (fun _ => (h_0_foresee (.ref 9) ps pr s_4 (v_4) ((0 : Int32)) v_6 s_6 _ hr_6 hK)) (fun q => absurd c_5 q))))) (fun q => absurd c_2 q)))⟩
def xk_11_scale (C : mm_C) : Prop := ∀ (ps : Value) (pr : Value) (s : xs_S) (a0 : Int32) (v : Int32) (s2 : xs_S) (Q : mm_R), xf_11_scale s a0 = some (v, s2) → Q (some (.int v)) (xs_H (.ref 9) ps (.ref 9) pr s2) → C 248 [.ref 0, .int a0] (xs_H (.ref 9) ps (.ref 9) pr s) Q
-- 11_calmOf
noncomputable def xf_11_calmOf (s : xs_S) (a0 : Int32) (a1 : Int32) : Option (Int32 × xs_S) :=
((mo_ag 25 (s.2.1 138) ((a0 * (5 : Int32)) + a1)).bind fun x_1 =>
(if x_1 = (-1 : Int32) then
((xf_1_lay_9 s (a0) (a1)).bind fun s_3 =>
((xf_7_evenStanding_9 s_3 ).bind fun (v_4, s_4) =>
((xf_0_foresee s_4 (v_4) ((0 : Int32))).bind fun (v_5, s_5) =>
(bif mo_in ((a0 * (5 : Int32)) + a1) 25 then ((xf_1_lay_9 (xs_sA s_5 138 (upd (s_5.2.1 138) (((a0 * (5 : Int32)) + a1)).toNatClampNeg (v_5))) ((s_5.1 401)) ((s_5.1 402))).bind fun s_7 =>
((mo_ag 25 (s_7.2.1 138) ((a0 * (5 : Int32)) + a1)).bind fun x_8 =>
some (x_8, s_7))) else none))))
else
((mo_ag 25 (s.2.1 138) ((a0 * (5 : Int32)) + a1)).bind fun x_9 =>
some (x_9, s))))
set_option maxHeartbeats 4000000 in
theorem xb_11_calmOf {C : mm_C} {Q : mm_R} {ps : Value} {pr : Value} (h_1_lay_9 : xk_1_lay_9 C) (h_7_evenStanding_9 : xk_7_evenStanding_9 C) (h_0_foresee : xk_0_foresee C) (s : xs_S) (a0 : Int32) (a1 : Int32) (v : Int32) (s2 : xs_S) (hf : xf_11_calmOf s a0 a1 = some (v, s2)) (hK : Q (some (.int v)) (xs_H (.ref 9) ps (.ref 9) pr s2)) : mm_go C mm_Mk mm_Fk P_X11_calmOf Q P_X11_calmOf [(0, .ref 0), (1, .int a0), (2, .int a1)] [] (xs_H (.ref 9) ps (.ref 9) pr s) 0 0 := by
  unfold xf_11_calmOf at hf
  obtain ⟨x_1, hx_1, hf⟩ := mo_bind hf
  obtain ⟨hi_1, rfl⟩ := mo_ag_inv hx_1
  by_cases c_2 : ((s.2.1 138) (((a0 * (5 : Int32)) + a1)).toNatClampNeg) = (-1 : Int32)
  · have hf := mo_pos hf c_2
    obtain ⟨s_3, hr_3, hf⟩ := mo_bind hf
    obtain ⟨r_4, hr_4, hf⟩ := mo_bind hf
    obtain ⟨v_4, s_4⟩ := r_4
    obtain ⟨r_5, hr_5, hf⟩ := mo_bind hf
    obtain ⟨v_5, s_5⟩ := r_5
    obtain ⟨hi_6, hf⟩ := mo_if hf
    obtain ⟨s_7, hr_7, hf⟩ := mo_bind hf
    obtain ⟨x_8, hx_8, hf⟩ := mo_bind hf
    obtain ⟨hi_8, rfl⟩ := mo_ag_inv hx_8
    obtain ⟨rfl, rfl⟩ := mo_pair hf
    exact ⟨46, (And.intro hi_1 (And.intro (fun q => absurd c_2 q) (fun _ => (h_1_lay_9 (.ref 9) ps pr s (a0) (a1) s_3 _ hr_3 (h_7_evenStanding_9 (.ref 9) ps (.ref 9) pr s_3  v_4 s_4 _ hr_4 (h_0_foresee (.ref 9) ps pr s_4 (v_4) ((0 : Int32)) v_5 s_5 _ hr_5 (And.intro hi_6 (h_1_lay_9 (.ref 9) ps pr (xs_sA s_5 138 (upd (s_5.2.1 138) (((a0 * (5 : Int32)) + a1)).toNatClampNeg (v_5))) ((s_5.1 401)) ((s_5.1 402)) s_7 _ hr_7 (And.intro hi_8 hK)))))))))⟩
  · have hf := mo_neg hf c_2
    obtain ⟨x_9, hx_9, hf⟩ := mo_bind hf
    obtain ⟨hi_9, rfl⟩ := mo_ag_inv hx_9
    obtain ⟨rfl, rfl⟩ := mo_pair hf
    exact ⟨17, (And.intro hi_1 (And.intro (fun _ => (And.intro hi_9 hK)) (fun q => absurd c_2 q)))⟩
def xk_11_calmOf (C : mm_C) : Prop := ∀ (ps : Value) (pr : Value) (s : xs_S) (a0 : Int32) (a1 : Int32) (v : Int32) (s2 : xs_S) (Q : mm_R), xf_11_calmOf s a0 a1 = some (v, s2) → Q (some (.int v)) (xs_H (.ref 9) ps (.ref 9) pr s2) → C 266 [.ref 0, .int a0, .int a1] (xs_H (.ref 9) ps (.ref 9) pr s) Q
-- 11_calm
noncomputable def xf_11_calm (s : xs_S) (a0 : Int32) (a1 : Int32) : Option (Int32 × xs_S) :=
((xf_11_areTwo s (a0) (a1)).bind fun (v_1, s_1) =>
(if v_1 = (0 : Int32) then
some ((-1 : Int32), s_1)
else
((xf_11_calmOf s_1 (a0) (a1)).bind fun (v_3, s_3) =>
some (v_3, s_3))))
set_option maxHeartbeats 4000000 in
theorem xb_11_calm {C : mm_C} {Q : mm_R} {ps : Value} {pr : Value} (h_11_areTwo : xk_11_areTwo C) (h_11_calmOf : xk_11_calmOf C) (s : xs_S) (a0 : Int32) (a1 : Int32) (v : Int32) (s2 : xs_S) (hf : xf_11_calm s a0 a1 = some (v, s2)) (hK : Q (some (.int v)) (xs_H (.ref 9) ps (.ref 9) pr s2)) : mm_go C mm_Mk mm_Fk P_X11_calm Q P_X11_calm [(0, .ref 0), (1, .int a0), (2, .int a1)] [] (xs_H (.ref 9) ps (.ref 9) pr s) 0 0 := by
  unfold xf_11_calm at hf
  obtain ⟨r_1, hr_1, hf⟩ := mo_bind hf
  obtain ⟨v_1, s_1⟩ := r_1
  by_cases c_2 : v_1 = (0 : Int32)
  · have hf := mo_pos hf c_2
    obtain ⟨rfl, rfl⟩ := mo_pair hf
    exact ⟨7, (h_11_areTwo ps (.ref 9) pr s (a0) (a1) v_1 s_1 _ hr_1 (And.intro (fun _ => hK) (fun q => absurd c_2 q)))⟩
  · have hf := mo_neg hf c_2
    obtain ⟨r_3, hr_3, hf⟩ := mo_bind hf
    obtain ⟨v_3, s_3⟩ := r_3
    obtain ⟨rfl, rfl⟩ := mo_pair hf
    exact ⟨11, (h_11_areTwo ps (.ref 9) pr s (a0) (a1) v_1 s_1 _ hr_1 (And.intro (fun q => absurd q c_2) (fun _ => (h_11_calmOf ps pr s_1 (a0) (a1) v_3 s_3 _ hr_3 hK))))⟩
def xk_11_calm (C : mm_C) : Prop := ∀ (ps : Value) (pr : Value) (s : xs_S) (a0 : Int32) (a1 : Int32) (v : Int32) (s2 : xs_S) (Q : mm_R), xf_11_calm s a0 a1 = some (v, s2) → Q (some (.int v)) (xs_H (.ref 9) ps (.ref 9) pr s2) → C 249 [.ref 0, .int a0, .int a1] (xs_H (.ref 9) ps (.ref 9) pr s) Q
-- 7_fill_53178_136
noncomputable def xf_7_fill_53178_136_l5 (v1 : Int32) (v3 : Int32) : (Int32 × xs_S) → Option ((Int32 × xs_S) ⊕ ((xs_S))) := fun (w2, s) =>
(if v3 ≤ w2 then
some (.inr (s))
else
(bif mo_in w2 5 then some (.inl ((w2 + (1 : Int32)), (xs_sA s 136 (upd (s.2.1 136) (w2).toNatClampNeg (v1))))) else none))
set_option maxHeartbeats 4000000 in
theorem xb_7_fill_53178_136_l5 {C : mm_C} {Q : mm_R} {pt : Value} {ps : Value} {pg : Value} {pr : Value}  (v1 : Int32) (v3 : Int32) (t : Int32 × xs_S) (x : (xs_S)) (hl : mo_loop (xf_7_fill_53178_136_l5 v1 v3) t = some x) (hK : (fun sy => mm_go C mm_Mk mm_Fk P_J7_fill_53178 Q (P_J7_fill_53178.drop 14) [] [] (xs_H pt ps pg pr sy) 0 0) x) : (mo_c2 (fun y2 sy => mm_go C mm_Mk mm_Fk P_J7_fill_53178 Q (P_J7_fill_53178.drop 5) [(0, .ref 136), (1, .int v1), (2, .int y2), (3, .int v3)] [] (xs_H pt ps pg pr sy) 0 0)) t := by
  refine mo_loop_go (G := (mo_c2 (fun y2 sy => mm_go C mm_Mk mm_Fk P_J7_fill_53178 Q (P_J7_fill_53178.drop 5) [(0, .ref 136), (1, .int v1), (2, .int y2), (3, .int v3)] [] (xs_H pt ps pg pr sy) 0 0)) ) (K := (fun sy => mm_go C mm_Mk mm_Fk P_J7_fill_53178 Q (P_J7_fill_53178.drop 14) [] [] (xs_H pt ps pg pr sy) 0 0) ) ?_ t x hl hK
  intro t r hf hK
  obtain ⟨w2, s⟩ := t
  unfold xf_7_fill_53178_136_l5 at hf
  by_cases c_1 : v3 ≤ w2
  · have hf := mo_pos hf c_1
    obtain rfl := Option.some.inj hf
    refine mm_adv 3 (cs' := P_J7_fill_53178.drop 14) (l' := [(0, .ref 136), (1, .int v1), (2, .int w2), (3, .int v3)]) (st' := []) (h' := (xs_H pt ps pg pr s)) (bc' := 0) (bs' := 0) (fun n g => (And.intro (fun _ => g) (fun q => absurd c_1 q))) ?_
    exact mm_re (c := []) hK rfl rfl
  · have hf := mo_neg hf c_1
    obtain ⟨hi_2, hf⟩ := mo_if hf
    obtain rfl := Option.some.inj hf
    refine mm_adv 9 (cs' := P_J7_fill_53178.drop 5) (l' := [(2, .int (w2 + (1 : Int32))), (0, .ref 136), (1, .int v1), (3, .int v3)]) (st' := []) (h' := (xs_H pt ps pg pr (xs_sA s 136 (upd (s.2.1 136) (w2).toNatClampNeg (v1))))) (bc' := 0) (bs' := 0) (fun n g => (And.intro (fun q => absurd q c_1) (fun _ => (And.intro hi_2 g)))) ?_
    exact mm_re (c := [(0, .ref 136), (1, .int v1), (2, .int (w2 + (1 : Int32))), (3, .int v3)]) hK rfl rfl
noncomputable def xf_7_fill_53178_136 (s : xs_S) (a1 : Int32) : Option (xs_S) :=
((mo_loop (xf_7_fill_53178_136_l5 (a1) ((Int32.ofNat 5))) ((0 : Int32), s)).bind fun s_3 =>
some s_3)
set_option maxHeartbeats 4000000 in
theorem xb_7_fill_53178_136 {C : mm_C} {Q : mm_R} {pt : Value} {ps : Value} {pg : Value} {pr : Value}  (s : xs_S) (a1 : Int32) (s2 : xs_S) (hf : xf_7_fill_53178_136 s a1 = some s2) (hK : Q (none) (xs_H pt ps pg pr s2)) : mm_go C mm_Mk mm_Fk P_J7_fill_53178 Q P_J7_fill_53178 [(0, .ref 136), (1, .int a1)] [] (xs_H pt ps pg pr s) 0 0 := by
  unfold xf_7_fill_53178_136 at hf
  obtain ⟨x_3, hl_3, hf⟩ := mo_bind hf
  refine mm_adv 5 (cs' := P_J7_fill_53178.drop 5) (l' := [(3, .int (Int32.ofNat 5)), (2, .int (0 : Int32)), (0, .ref 136), (1, .int a1)]) (st' := []) (h' := (xs_H pt ps pg pr s)) (bc' := 0) (bs' := 0) (fun n g => g) ?_
  refine mm_re (l' := [(0, .ref 136), (1, .int a1), (2, .int (0 : Int32)), (3, .int (Int32.ofNat 5))]) (c := [(0, .ref 136), (1, .int a1), (2, .int (0 : Int32)), (3, .int (Int32.ofNat 5))]) ?_ rfl rfl
  refine xb_7_fill_53178_136_l5  (a1) ((Int32.ofNat 5)) ((0 : Int32), s) x_3 hl_3 ?_
  obtain ⟨s_3, rfl⟩ : ∃ q, q = x_3 := ⟨_, rfl⟩
  obtain rfl := Option.some.inj hf
  exact ⟨1, hK⟩
def xk_7_fill_53178_136 (C : mm_C) : Prop := ∀ (pt : Value) (ps : Value) (pg : Value) (pr : Value) (s : xs_S) (a1 : Int32) (s2 : xs_S) (Q : mm_R), xf_7_fill_53178_136 s a1 = some s2 → Q (none) (xs_H pt ps pg pr s2) → C 123 [.ref 136, .int a1] (xs_H pt ps pg pr s) Q
-- 4_begin
noncomputable def xf_4_begin (s : xs_S) (a0 : Int32) : Option (xs_S) :=
((xf_7_fill_53178_136 (xs_sI (xs_sI s 2147 ((mm_min (a0) ((5 : Int32))))) 2148 ((-1 : Int32))) ((-2 : Int32))).bind fun s_1 =>
some s_1)
set_option maxHeartbeats 4000000 in
theorem xb_4_begin {C : mm_C} {Q : mm_R} {pt : Value} {ps : Value} {pg : Value} {pr : Value} (h_7_fill_53178_136 : xk_7_fill_53178_136 C) (s : xs_S) (a0 : Int32) (s2 : xs_S) (hf : xf_4_begin s a0 = some s2) (hK : Q (none) (xs_H pt ps pg pr s2)) : mm_go C mm_Mk mm_Fk P_X4_begin Q P_X4_begin [(0, .ref 134), (1, .int a0)] [] (xs_H pt ps pg pr s) 0 0 := by
  unfold xf_4_begin at hf
  obtain ⟨s_1, hr_1, hf⟩ := mo_bind hf
  obtain rfl := Option.some.inj hf
  exact ⟨13, (And.intro trivial (And.intro trivial (h_7_fill_53178_136 pt ps pg pr (xs_sI (xs_sI s 2147 ((mm_min (a0) ((5 : Int32))))) 2148 ((-1 : Int32))) ((-2 : Int32)) s_1 _ hr_1 hK)))⟩
def xk_4_begin (C : mm_C) : Prop := ∀ (pt : Value) (ps : Value) (pg : Value) (pr : Value) (s : xs_S) (a0 : Int32) (s2 : xs_S) (Q : mm_R), xf_4_begin s a0 = some s2 → Q (none) (xs_H pt ps pg pr s2) → C 158 [.ref 134, .int a0] (xs_H pt ps pg pr s) Q
-- 4_allow
noncomputable def xf_4_allow (s : xs_S) (a0 : Int32) (a1 : Int32) (a2 : Int32) : Option (xs_S) :=
(bif mo_in ((a0 * (5 : Int32)) + a1) 25 then some (xs_sA s 135 (upd (s.2.1 135) (((a0 * (5 : Int32)) + a1)).toNatClampNeg ((vp_nar .boolean a2)))) else none)
set_option maxHeartbeats 4000000 in
theorem xb_4_allow {C : mm_C} {Q : mm_R} {pt : Value} {ps : Value} {pg : Value} {pr : Value}  (s : xs_S) (a0 : Int32) (a1 : Int32) (a2 : Int32) (s2 : xs_S) (hf : xf_4_allow s a0 a1 a2 = some s2) (hK : Q (none) (xs_H pt ps pg pr s2)) : mm_go C mm_Mk mm_Fk P_X4_allow Q P_X4_allow [(0, .ref 134), (1, .int a0), (2, .int a1), (3, .int a2)] [] (xs_H pt ps pg pr s) 0 0 := by
  unfold xf_4_allow at hf
  obtain ⟨hi_1, hf⟩ := mo_if hf
  obtain rfl := Option.some.inj hf
  exact ⟨10, (And.intro hi_1 hK)⟩
def xk_4_allow (C : mm_C) : Prop := ∀ (pt : Value) (ps : Value) (pg : Value) (pr : Value) (s : xs_S) (a0 : Int32) (a1 : Int32) (a2 : Int32) (s2 : xs_S) (Q : mm_R), xf_4_allow s a0 a1 a2 = some s2 → Q (none) (xs_H pt ps pg pr s2) → C 159 [.ref 134, .int a0, .int a1, .int a2] (xs_H pt ps pg pr s) Q
-- xr X4_matchFrom
def xr_4_matchFrom (rec : xs_S → Int32 → Int32 → Option xs_S) (C : mm_C) : Prop := ∀ (pt : Value) (ps : Value) (pg : Value) (pr : Value) (s : xs_S) (a0 : Int32) (a1 : Int32) (s2 : xs_S) (Q : mm_R), rec s a0 a1 = some s2 → Q none (xs_H pt ps pg pr s2) → C 161 [.ref 134, .int a0, .int a1] (xs_H pt ps pg pr s) Q
-- 4_matchFrom
noncomputable def xg_4_matchFrom_j77 (rec : xs_S → Int32 → Int32 → Option xs_S) (s : xs_S) (v1 : Int32) (v2 : Int32) (v3 : Int32) : Option ((Int32 × xs_S) ⊕ ((xs_S))) :=
some (.inl ((v3 + (1 : Int32)), s))
set_option maxHeartbeats 4000000 in
theorem xb_4_matchFrom_j77 {C : mm_C} {Q : mm_R} {pt : Value} {ps : Value} {pg : Value} {pr : Value} {rec : xs_S → Int32 → Int32 → Option xs_S} (hrec : xr_4_matchFrom rec C)  (s : xs_S) (v1 : Int32) (v2 : Int32) (v3 : Int32) (r : (Int32 × xs_S) ⊕ ((xs_S))) (hf : xg_4_matchFrom_j77 rec s v1 v2 v3 = some r) (hK : mo_sum (mo_c2 (fun y3 sy => mm_go C mm_Mk mm_Fk P_X4_matchFrom Q (P_X4_matchFrom.drop 30) [(0, .ref 134), (1, .int v1), (2, .int v2), (3, .int y3)] [] (xs_H pt ps pg pr sy) 0 0))  (fun sy => mm_go C mm_Mk mm_Fk P_X4_matchFrom Q (P_X4_matchFrom.drop 79) [(0, .ref 134), (1, .int v1), (2, .int v2)] [] (xs_H pt ps pg pr sy) 0 0)  r) : mm_go C mm_Mk mm_Fk P_X4_matchFrom Q (P_X4_matchFrom.drop 77) [(0, .ref 134), (1, .int v1), (2, .int v2), (3, .int v3)] [] (xs_H pt ps pg pr s) 0 0 := by
  unfold xg_4_matchFrom_j77 at hf
  obtain rfl := Option.some.inj hf
  refine mm_adv 2 (cs' := P_X4_matchFrom.drop 30) (l' := [(3, .int (v3 + (1 : Int32))), (0, .ref 134), (1, .int v1), (2, .int v2)]) (st' := []) (h' := (xs_H pt ps pg pr s)) (bc' := 0) (bs' := 0) (fun n g => g) ?_
  exact mm_re (c := [(0, .ref 134), (1, .int v1), (2, .int v2), (3, .int (v3 + (1 : Int32)))]) hK rfl rfl
noncomputable def xg_4_matchFrom_l30 (rec : xs_S → Int32 → Int32 → Option xs_S) (v1 : Int32) (v2 : Int32) : (Int32 × xs_S) → Option ((Int32 × xs_S) ⊕ ((xs_S))) := fun (w3, s) =>
(if (s.1 2147) ≤ w3 then
some (.inr (s))
else
((mo_ag 5 (s.2.1 136) w3).bind fun x_5 =>
(if x_5 = (-2 : Int32) then
((mo_ag 25 (s.2.1 135) ((v1 * (5 : Int32)) + w3)).bind fun x_7 =>
(if x_7 = (0 : Int32) then
(xg_4_matchFrom_j77 rec (s) (v1) (v2) (w3))
else
(bif mo_in v1 5 then (bif mo_in w3 5 then ((rec (xs_sA s 136 (upd (upd (s.2.1 136) (v1).toNatClampNeg (w3)) (w3).toNatClampNeg (v1))) ((v1 + (1 : Int32))) ((v2 + (1 : Int32)))).bind fun s_11 =>
(bif mo_in w3 5 then (bif mo_in v1 5 then (xg_4_matchFrom_j77 rec ((xs_sA s_11 136 (upd (upd (s_11.2.1 136) (w3).toNatClampNeg ((-2 : Int32))) (v1).toNatClampNeg ((-2 : Int32))))) (v1) (v2) (w3)) else none) else none)) else none) else none)))
else
(xg_4_matchFrom_j77 rec (s) (v1) (v2) (w3)))))
set_option maxHeartbeats 4000000 in
theorem xb_4_matchFrom_l30 {C : mm_C} {Q : mm_R} {pt : Value} {ps : Value} {pg : Value} {pr : Value} {rec : xs_S → Int32 → Int32 → Option xs_S} (hrec : xr_4_matchFrom rec C)  (v1 : Int32) (v2 : Int32) (t : Int32 × xs_S) (x : (xs_S)) (hl : mo_loop (xg_4_matchFrom_l30 rec v1 v2) t = some x) (hK : (fun sy => mm_go C mm_Mk mm_Fk P_X4_matchFrom Q (P_X4_matchFrom.drop 79) [(0, .ref 134), (1, .int v1), (2, .int v2)] [] (xs_H pt ps pg pr sy) 0 0) x) : (mo_c2 (fun y3 sy => mm_go C mm_Mk mm_Fk P_X4_matchFrom Q (P_X4_matchFrom.drop 30) [(0, .ref 134), (1, .int v1), (2, .int v2), (3, .int y3)] [] (xs_H pt ps pg pr sy) 0 0)) t := by
  refine mo_loop_go (G := (mo_c2 (fun y3 sy => mm_go C mm_Mk mm_Fk P_X4_matchFrom Q (P_X4_matchFrom.drop 30) [(0, .ref 134), (1, .int v1), (2, .int v2), (3, .int y3)] [] (xs_H pt ps pg pr sy) 0 0)) ) (K := (fun sy => mm_go C mm_Mk mm_Fk P_X4_matchFrom Q (P_X4_matchFrom.drop 79) [(0, .ref 134), (1, .int v1), (2, .int v2)] [] (xs_H pt ps pg pr sy) 0 0) ) ?_ t x hl hK
  intro t r hf hK
  obtain ⟨w3, s⟩ := t
  unfold xg_4_matchFrom_l30 at hf
  by_cases c_4 : (s.1 2147) ≤ w3
  · have hf := mo_pos hf c_4
    obtain rfl := Option.some.inj hf
    refine mm_adv 4 (cs' := P_X4_matchFrom.drop 79) (l' := [(0, .ref 134), (1, .int v1), (2, .int v2), (3, .int w3)]) (st' := []) (h' := (xs_H pt ps pg pr s)) (bc' := 0) (bs' := 0) (fun n g => (And.intro (fun _ => g) (fun q => absurd c_4 q))) ?_
    exact mm_re (c := [(0, .ref 134), (1, .int v1), (2, .int v2)]) hK rfl rfl
  · have hf := mo_neg hf c_4
    obtain ⟨x_5, hx_5, hf⟩ := mo_bind hf
    obtain ⟨hi_5, rfl⟩ := mo_ag_inv hx_5
    by_cases c_6 : ((s.2.1 136) (w3).toNatClampNeg) = (-2 : Int32)
    · have hf := mo_pos hf c_6
      obtain ⟨x_7, hx_7, hf⟩ := mo_bind hf
      obtain ⟨hi_7, rfl⟩ := mo_ag_inv hx_7
      by_cases c_8 : ((s.2.1 135) (((v1 * (5 : Int32)) + w3)).toNatClampNeg) = (0 : Int32)
      · have hf := mo_pos hf c_8
        refine mm_adv 19 (cs' := P_X4_matchFrom.drop 77) (l' := [(0, .ref 134), (1, .int v1), (2, .int v2), (3, .int w3)]) (st' := []) (h' := (xs_H pt ps pg pr s)) (bc' := 0) (bs' := 0) (fun n g => (And.intro (fun q => absurd q c_4) (fun _ => (And.intro hi_5 (And.intro (fun q => absurd c_6 q) (fun _ => (And.intro hi_7 (And.intro (fun _ => g) (fun q => absurd c_8 q))))))))) ?_
        refine mm_re (l' := [(0, .ref 134), (1, .int v1), (2, .int v2), (3, .int w3)]) (c := [(0, .ref 134), (1, .int v1), (2, .int v2), (3, .int w3)]) ?_ rfl rfl
        exact xb_4_matchFrom_j77 hrec  s (v1) (v2) (w3) _ hf hK
      · have hf := mo_neg hf c_8
        obtain ⟨hi_9, hf⟩ := mo_if hf
        obtain ⟨hi_10, hf⟩ := mo_if hf
        obtain ⟨s_11, hr_11, hf⟩ := mo_bind hf
        obtain ⟨hi_12, hf⟩ := mo_if hf
        obtain ⟨hi_13, hf⟩ := mo_if hf
        refine mm_adv 47 (cs' := P_X4_matchFrom.drop 77) (l' := [(0, .ref 134), (1, .int v1), (2, .int v2), (3, .int w3)]) (st' := []) (h' := (xs_H pt ps pg pr (xs_sA s_11 136 (upd (upd (s_11.2.1 136) (w3).toNatClampNeg ((-2 : Int32))) (v1).toNatClampNeg ((-2 : Int32)))))) (bc' := 0) (bs' := 0) (fun n g => (And.intro (fun q => absurd q c_4) (fun _ => (And.intro hi_5 (And.intro (fun q => absurd c_6 q) (fun _ => (And.intro hi_7 (And.intro (fun q => absurd q c_8) (fun _ => (And.intro hi_9 (And.intro hi_10 (hrec pt ps pg pr (xs_sA s 136 (upd (upd (s.2.1 136) (v1).toNatClampNeg (w3)) (w3).toNatClampNeg (v1))) ((v1 + (1 : Int32))) ((v2 + (1 : Int32))) s_11 _ hr_11 (And.intro hi_12 (And.intro hi_13 g)))))))))))))) ?_
        refine mm_re (l' := [(0, .ref 134), (1, .int v1), (2, .int v2), (3, .int w3)]) (c := [(0, .ref 134), (1, .int v1), (2, .int v2), (3, .int w3)]) ?_ rfl rfl
        exact xb_4_matchFrom_j77 hrec  (xs_sA s_11 136 (upd (upd (s_11.2.1 136) (w3).toNatClampNeg ((-2 : Int32))) (v1).toNatClampNeg ((-2 : Int32)))) (v1) (v2) (w3) _ hf hK
    · have hf := mo_neg hf c_6
      refine mm_adv 10 (cs' := P_X4_matchFrom.drop 77) (l' := [(0, .ref 134), (1, .int v1), (2, .int v2), (3, .int w3)]) (st' := []) (h' := (xs_H pt ps pg pr s)) (bc' := 0) (bs' := 0) (fun n g => (And.intro (fun q => absurd q c_4) (fun _ => (And.intro hi_5 (And.intro (fun _ => g) (fun q => absurd c_6 q)))))) ?_
      refine mm_re (l' := [(0, .ref 134), (1, .int v1), (2, .int v2), (3, .int w3)]) (c := [(0, .ref 134), (1, .int v1), (2, .int v2), (3, .int w3)]) ?_ rfl rfl
      exact xb_4_matchFrom_j77 hrec  s (v1) (v2) (w3) _ hf hK
noncomputable def xg_4_matchFrom_j79 (rec : xs_S → Int32 → Int32 → Option xs_S) (s : xs_S) (v1 : Int32) (v2 : Int32) : Option (xs_S) :=
((rec s ((v1 + (1 : Int32))) (v2)).bind fun s_15 =>
some s_15)
set_option maxHeartbeats 4000000 in
theorem xb_4_matchFrom_j79 {C : mm_C} {Q : mm_R} {pt : Value} {ps : Value} {pg : Value} {pr : Value} {rec : xs_S → Int32 → Int32 → Option xs_S} (hrec : xr_4_matchFrom rec C)  (s : xs_S) (v1 : Int32) (v2 : Int32) (s2 : xs_S) (hf : xg_4_matchFrom_j79 rec s v1 v2 = some s2) (hK : Q (none) (xs_H pt ps pg pr s2)) : mm_go C mm_Mk mm_Fk P_X4_matchFrom Q (P_X4_matchFrom.drop 79) [(0, .ref 134), (1, .int v1), (2, .int v2)] [] (xs_H pt ps pg pr s) 0 0 := by
  unfold xg_4_matchFrom_j79 at hf
  obtain ⟨s_15, hr_15, hf⟩ := mo_bind hf
  obtain rfl := Option.some.inj hf
  exact ⟨7, (hrec pt ps pg pr s ((v1 + (1 : Int32))) (v2) s_15 _ hr_15 hK)⟩
noncomputable def xg_4_matchFrom (rec : xs_S → Int32 → Int32 → Option xs_S) (s : xs_S) (a0 : Int32) (a1 : Int32) : Option (xs_S) :=
(if a0 < (s.1 2147) then
((mo_ag 5 (s.2.1 136) a0).bind fun x_2 =>
(if x_2 = (-2 : Int32) then
((mo_loop (xg_4_matchFrom_l30 rec (a0) (a1)) ((a0 + (1 : Int32)), s)).bind fun s_14 =>
(xg_4_matchFrom_j79 rec (s_14) (a0) (a1)))
else
(xg_4_matchFrom_j79 rec (s) (a0) (a1))))
else
(if a1 ≤ (s.1 2148) then
some s
else
some (xs_sA (xs_sI s 2148 (a1)) 137 (va_cpy (s.2.1 136) (s.2.1 137) 0 0 5))))
set_option maxHeartbeats 4000000 in
theorem xb_4_matchFrom {C : mm_C} {Q : mm_R} {pt : Value} {ps : Value} {pg : Value} {pr : Value} {rec : xs_S → Int32 → Int32 → Option xs_S} (hrec : xr_4_matchFrom rec C)  (s : xs_S) (a0 : Int32) (a1 : Int32) (s2 : xs_S) (hf : xg_4_matchFrom rec s a0 a1 = some s2) (hK : Q (none) (xs_H pt ps pg pr s2)) : mm_go C mm_Mk mm_Fk P_X4_matchFrom Q P_X4_matchFrom [(0, .ref 134), (1, .int a0), (2, .int a1)] [] (xs_H pt ps pg pr s) 0 0 := by
  unfold xg_4_matchFrom at hf
  by_cases c_1 : a0 < (s.1 2147)
  · have hf := mo_pos hf c_1
    obtain ⟨x_2, hx_2, hf⟩ := mo_bind hf
    obtain ⟨hi_2, rfl⟩ := mo_ag_inv hx_2
    by_cases c_3 : ((s.2.1 136) (a0).toNatClampNeg) = (-2 : Int32)
    · have hf := mo_pos hf c_3
      obtain ⟨x_14, hl_14, hf⟩ := mo_bind hf
      refine mm_adv 14 (cs' := P_X4_matchFrom.drop 30) (l' := [(3, .int (a0 + (1 : Int32))), (0, .ref 134), (1, .int a0), (2, .int a1)]) (st' := []) (h' := (xs_H pt ps pg pr s)) (bc' := 0) (bs' := 0) (fun n g => (And.intro (fun _ => (And.intro hi_2 (And.intro (fun q => absurd c_3 q) (fun _ => g)))) (fun q => absurd c_1 q))) ?_
      refine mm_re (l' := [(0, .ref 134), (1, .int a0), (2, .int a1), (3, .int (a0 + (1 : Int32)))]) (c := [(0, .ref 134), (1, .int a0), (2, .int a1), (3, .int (a0 + (1 : Int32)))]) ?_ rfl rfl
      refine xb_4_matchFrom_l30 hrec  (a0) (a1) ((a0 + (1 : Int32)), s) x_14 hl_14 ?_
      obtain ⟨s_14, rfl⟩ : ∃ q, q = x_14 := ⟨_, rfl⟩
      refine mm_re (l' := [(0, .ref 134), (1, .int a0), (2, .int a1)]) (c := [(0, .ref 134), (1, .int a0), (2, .int a1)]) ?_ rfl rfl
      exact xb_4_matchFrom_j79 hrec  s_14 (a0) (a1) _ hf hK
    · have hf := mo_neg hf c_3
      refine mm_adv 10 (cs' := P_X4_matchFrom.drop 79) (l' := [(0, .ref 134), (1, .int a0), (2, .int a1)]) (st' := []) (h' := (xs_H pt ps pg pr s)) (bc' := 0) (bs' := 0) (fun n g => (And.intro (fun _ => (And.intro hi_2 (And.intro (fun _ => g) (fun q => absurd c_3 q)))) (fun q => absurd c_1 q))) ?_
      refine mm_re (l' := [(0, .ref 134), (1, .int a0), (2, .int a1)]) (c := [(0, .ref 134), (1, .int a0), (2, .int a1)]) ?_ rfl rfl
      exact xb_4_matchFrom_j79 hrec  s (a0) (a1) _ hf hK
  · have hf := mo_neg hf c_1
    by_cases c_16 : a1 ≤ (s.1 2148)
    · have hf := mo_pos hf c_16
      obtain rfl := Option.some.inj hf
      exact ⟨9, (And.intro (fun q => absurd q c_1) (fun _ => (And.intro (fun _ => hK) (fun q => absurd c_16 q))))⟩
    · have hf := mo_neg hf c_16
      obtain rfl := Option.some.inj hf
      exact ⟨20, (And.intro (fun q => absurd q c_1) (fun _ => (And.intro (fun q => absurd q c_16) (fun _ => (And.intro trivial (And.intro (by decide) hK))))))⟩
noncomputable def xf_4_matchFrom : Nat → xs_S → Int32 → Int32 → Option xs_S
  | 0 => fun _ _ _ => none
  | n + 1 => xg_4_matchFrom (xf_4_matchFrom n)
def xk_4_matchFrom (n : Nat) (C : mm_C) : Prop := ∀ (pt : Value) (ps : Value) (pg : Value) (pr : Value) (s : xs_S) (a0 : Int32) (a1 : Int32) (s2 : xs_S) (Q : mm_R), xf_4_matchFrom n s a0 a1 = some s2 → Q (none) (xs_H pt ps pg pr s2) → C 161 [.ref 134, .int a0, .int a1] (xs_H pt ps pg pr s) Q
-- 4_match
noncomputable def xf_4_match (s : xs_S)  : Option (xs_S) :=
((xf_4_matchFrom 7 s ((0 : Int32)) ((0 : Int32))).bind fun s_1 =>
some s_1)
set_option maxHeartbeats 4000000 in
theorem xb_4_match {C : mm_C} {Q : mm_R} {pt : Value} {ps : Value} {pg : Value} {pr : Value} (h_4_matchFrom : xk_4_matchFrom 7 C) (s : xs_S)  (s2 : xs_S) (hf : xf_4_match s = some s2) (hK : Q (none) (xs_H pt ps pg pr s2)) : mm_go C mm_Mk mm_Fk P_X4_match Q P_X4_match [(0, .ref 134)] [] (xs_H pt ps pg pr s) 0 0 := by
  unfold xf_4_match at hf
  obtain ⟨s_1, hr_1, hf⟩ := mo_bind hf
  obtain rfl := Option.some.inj hf
  exact ⟨5, (h_4_matchFrom pt ps pg pr s ((0 : Int32)) ((0 : Int32)) s_1 _ hr_1 hK)⟩
def xk_4_match (C : mm_C) : Prop := ∀ (pt : Value) (ps : Value) (pg : Value) (pr : Value) (s : xs_S)  (s2 : xs_S) (Q : mm_R), xf_4_match s = some s2 → Q (none) (xs_H pt ps pg pr s2) → C 160 [.ref 134] (xs_H pt ps pg pr s) Q
