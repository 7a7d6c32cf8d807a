/-! the class, method by method, 0 -/
-- 8_append
noncomputable def xf_8_append_l2 (v1 : Int32) : (Int32 × xs_S) → Option ((Int32 × xs_S) ⊕ ((xs_S))) := fun (w2, s) =>
(if w2 < (0 : Int32) then
some (.inr (s))
else
(if (2000 : Int32) ≤ (s.1 17) then
some (.inr (s))
else
(bif mo_in (s.1 17) 2000 then some (.inl ((w2 + (-8 : Int32)), (xs_sA (xs_sI s 17 (((s.1 17) + (1 : Int32)))) 2 (upd (s.2.1 2) ((s.1 17)).toNatClampNeg ((vp_nar .byte (((v1).toUInt32 >>> ((w2).toUInt32 &&& Int32.toUInt32 31)).toInt32).toInt8.toInt32)))))) else none)))
set_option maxHeartbeats 4000000 in
theorem xb_8_append_l2 {C : mm_C} {Q : mm_R} {pt : Value} {ps : Value} {pg : Value} {pr : Value}  (v1 : Int32) (t : Int32 × xs_S) (x : (xs_S)) (hl : mo_loop (xf_8_append_l2 v1) t = some x) (hK : (fun sy => mm_go C mm_Mk mm_Fk P_X8_append Q (P_X8_append.drop 25) [] [] (xs_H pt ps pg pr sy) 0 0) x) : (mo_c2 (fun y2 sy => mm_go C mm_Mk mm_Fk P_X8_append Q (P_X8_append.drop 2) [(0, .ref 1), (1, .int v1), (2, .int y2)] [] (xs_H pt ps pg pr sy) 0 0)) t := by
  refine mo_loop_go (G := (mo_c2 (fun y2 sy => mm_go C mm_Mk mm_Fk P_X8_append Q (P_X8_append.drop 2) [(0, .ref 1), (1, .int v1), (2, .int y2)] [] (xs_H pt ps pg pr sy) 0 0)) ) (K := (fun sy => mm_go C mm_Mk mm_Fk P_X8_append Q (P_X8_append.drop 25) [] [] (xs_H pt ps pg pr sy) 0 0) ) ?_ t x hl hK
  intro t r hf hK
  obtain ⟨w2, s⟩ := t
  unfold xf_8_append_l2 at hf
  by_cases c_1 : w2 < (0 : Int32)
  · have hf := mo_pos hf c_1
    obtain rfl := Option.some.inj hf
    refine mm_adv 2 (cs' := P_X8_append.drop 25) (l' := [(0, .ref 1), (1, .int v1), (2, .int w2)]) (st' := []) (h' := (xs_H pt ps pg pr s)) (bc' := 0) (bs' := 0) (fun n g => (And.intro (fun _ => g) (fun q => absurd c_1 q))) ?_
    exact mm_re (c := []) hK rfl rfl
  · have hf := mo_neg hf c_1
    by_cases c_2 : (2000 : Int32) ≤ (s.1 17)
    · have hf := mo_pos hf c_2
      obtain rfl := Option.some.inj hf
      refine mm_adv 6 (cs' := P_X8_append.drop 25) (l' := [(0, .ref 1), (1, .int v1), (2, .int w2)]) (st' := []) (h' := (xs_H pt ps pg pr s)) (bc' := 0) (bs' := 0) (fun n g => (And.intro (fun q => absurd q c_1) (fun _ => (And.intro (fun _ => g) (fun q => absurd c_2 q))))) ?_
      exact mm_re (c := []) hK rfl rfl
    · have hf := mo_neg hf c_2
      obtain ⟨hi_3, hf⟩ := mo_if hf
      obtain rfl := Option.some.inj hf
      refine mm_adv 23 (cs' := P_X8_append.drop 2) (l' := [(2, .int (w2 + (-8 : Int32))), (0, .ref 1), (1, .int v1)]) (st' := []) (h' := (xs_H pt ps pg pr (xs_sA (xs_sI s 17 (((s.1 17) + (1 : Int32)))) 2 (upd (s.2.1 2) ((s.1 17)).toNatClampNeg ((vp_nar .byte (((v1).toUInt32 >>> ((w2).toUInt32 &&& Int32.toUInt32 31)).toInt32).toInt8.toInt32)))))) (bc' := 0) (bs' := 0) (fun n g => (And.intro (fun q => absurd q c_1) (fun _ => (And.intro (fun q => absurd q c_2) (fun _ => (And.intro hi_3 (And.intro trivial g))))))) ?_
      exact mm_re (c := [(0, .ref 1), (1, .int v1), (2, .int (w2 + (-8 : Int32)))]) hK rfl rfl
noncomputable def xf_8_append (s : xs_S) (a0 : Int32) : Option (xs_S) :=
((mo_loop (xf_8_append_l2 (a0)) ((24 : Int32), s)).bind fun s_4 =>
some s_4)
set_option maxHeartbeats 4000000 in
theorem xb_8_append {C : mm_C} {Q : mm_R} {pt : Value} {ps : Value} {pg : Value} {pr : Value}  (s : xs_S) (a0 : Int32) (s2 : xs_S) (hf : xf_8_append s a0 = some s2) (hK : Q (none) (xs_H pt ps pg pr s2)) : mm_go C mm_Mk mm_Fk P_X8_append Q P_X8_append [(0, .ref 1), (1, .int a0)] [] (xs_H pt ps pg pr s) 0 0 := by
  unfold xf_8_append at hf
  obtain ⟨x_4, hl_4, hf⟩ := mo_bind hf
  refine mm_adv 2 (cs' := P_X8_append.drop 2) (l' := [(2, .int (24 : Int32)), (0, .ref 1), (1, .int a0)]) (st' := []) (h' := (xs_H pt ps pg pr s)) (bc' := 0) (bs' := 0) (fun n g => g) ?_
  refine mm_re (l' := [(0, .ref 1), (1, .int a0), (2, .int (24 : Int32))]) (c := [(0, .ref 1), (1, .int a0), (2, .int (24 : Int32))]) ?_ rfl rfl
  refine xb_8_append_l2  (a0) ((24 : Int32), s) x_4 hl_4 ?_
  obtain ⟨s_4, rfl⟩ : ∃ q, q = x_4 := ⟨_, rfl⟩
  obtain rfl := Option.some.inj hf
  exact ⟨1, hK⟩
def xk_8_append (C : mm_C) : Prop := ∀ (pt : Value) (ps : Value) (pg : Value) (pr : Value) (s : xs_S) (a0 : Int32) (s2 : xs_S) (Q : mm_R), xf_8_append s a0 = some s2 → Q (none) (xs_H pt ps pg pr s2) → C 196 [.ref 1, .int a0] (xs_H pt ps pg pr s) Q
-- 11_feed
noncomputable def xf_11_feed (s : xs_S) (a0 : Int32) (a1 : Int32) (a2 : Int32) (a3 : Int32) (a4 : Int32) : Option (Int32 × xs_S) :=
(if ((s.1 17) + (20 : Int32)) ≤ (2000 : Int32) then
((xf_8_append s (a0)).bind fun s_2 =>
((xf_8_append s_2 (a1)).bind fun s_3 =>
((xf_8_append s_3 (a2)).bind fun s_4 =>
((xf_8_append s_4 (a3)).bind fun s_5 =>
((xf_8_append s_5 (a4)).bind fun s_6 =>
some ((s_6.1 17), s_6))))))
else
some ((-1 : Int32), s))
set_option maxHeartbeats 4000000 in
theorem xb_11_feed {C : mm_C} {Q : mm_R} {pt : Value} {ps : Value} {pg : Value} {pr : Value} (h_8_append : xk_8_append C) (s : xs_S) (a0 : Int32) (a1 : Int32) (a2 : Int32) (a3 : Int32) (a4 : Int32) (v : Int32) (s2 : xs_S) (hf : xf_11_feed s a0 a1 a2 a3 a4 = some (v, s2)) (hK : Q (some (.int v)) (xs_H pt ps pg pr s2)) : mm_go C mm_Mk mm_Fk P_X11_feed Q P_X11_feed [(0, .ref 0), (1, .int a0), (2, .int a1), (3, .int a2), (4, .int a3), (5, .int a4)] [] (xs_H pt ps pg pr s) 0 0 := by
  unfold xf_11_feed at hf
  by_cases c_1 : ((s.1 17) + (20 : Int32)) ≤ (2000 : Int32)
  · have hf := mo_pos hf c_1
    obtain ⟨s_2, hr_2, hf⟩ := mo_bind hf
    obtain ⟨s_3, hr_3, hf⟩ := mo_bind hf
    obtain ⟨s_4, hr_4, hf⟩ := mo_bind hf
    obtain ⟨s_5, hr_5, hf⟩ := mo_bind hf
    obtain ⟨s_6, hr_6, hf⟩ := mo_bind hf
    obtain ⟨rfl, rfl⟩ := mo_pair hf
    exact ⟨31, (And.intro (fun _ => (h_8_append pt ps pg pr s (a0) s_2 _ hr_2 (h_8_append pt ps pg pr s_2 (a1) s_3 _ hr_3 (h_8_append pt ps pg pr s_3 (a2) s_4 _ hr_4 (h_8_append pt ps pg pr s_4 (a3) s_5 _ hr_5 (h_8_append pt ps pg pr s_5 (a4) s_6 _ hr_6 hK)))))) (fun q => absurd c_1 q))⟩
  · have hf := mo_neg hf c_1
    obtain ⟨rfl, rfl⟩ := mo_pair hf
    exact ⟨9, (And.intro (fun q => absurd q c_1) (fun _ => hK))⟩
def xk_11_feed (C : mm_C) : Prop := ∀ (pt : Value) (ps : Value) (pg : Value) (pr : Value) (s : xs_S) (a0 : Int32) (a1 : Int32) (a2 : Int32) (a3 : Int32) (a4 : Int32) (v : Int32) (s2 : xs_S) (Q : mm_R), xf_11_feed s a0 a1 a2 a3 a4 = some (v, s2) → Q (some (.int v)) (xs_H pt ps pg pr s2) → C 225 [.ref 0, .int a0, .int a1, .int a2, .int a3, .int a4] (xs_H pt ps pg pr s) Q
-- 11_back
noncomputable def xf_11_back (s : xs_S) (a0 : Int32) : Option (Int32 × xs_S) :=
(if a0 < (0 : Int32) then
some ((-1 : Int32), s)
else
(if a0 ≤ (s.1 17) then
some (((s.1 17) - a0), (xs_sI s 17 (((s.1 17) - a0))))
else
some ((-1 : Int32), s)))
set_option maxHeartbeats 4000000 in
theorem xb_11_back {C : mm_C} {Q : mm_R} {pt : Value} {ps : Value} {pg : Value} {pr : Value}  (s : xs_S) (a0 : Int32) (v : Int32) (s2 : xs_S) (hf : xf_11_back s a0 = some (v, s2)) (hK : Q (some (.int v)) (xs_H pt ps pg pr s2)) : mm_go C mm_Mk mm_Fk P_X11_back Q P_X11_back [(0, .ref 0), (1, .int a0)] [] (xs_H pt ps pg pr s) 0 0 := by
  unfold xf_11_back at hf
  by_cases c_1 : a0 < (0 : Int32)
  · have hf := mo_pos hf c_1
    obtain ⟨rfl, rfl⟩ := mo_pair hf
    exact ⟨4, (And.intro (fun _ => hK) (fun q => absurd c_1 q))⟩
  · have hf := mo_neg hf c_1
    by_cases c_2 : a0 ≤ (s.1 17)
    · have hf := mo_pos hf c_2
      obtain ⟨rfl, rfl⟩ := mo_pair hf
      exact ⟨18, (And.intro (fun q => absurd q c_1) (fun _ => (And.intro (fun _ => (And.intro trivial hK)) (fun q => absurd c_2 q))))⟩
    · have hf := mo_neg hf c_2
      obtain ⟨rfl, rfl⟩ := mo_pair hf
      exact ⟨9, (And.intro (fun q => absurd q c_1) (fun _ => (And.intro (fun q => absurd q c_2) (fun _ => hK))))⟩
def xk_11_back (C : mm_C) : Prop := ∀ (pt : Value) (ps : Value) (pg : Value) (pr : Value) (s : xs_S) (a0 : Int32) (v : Int32) (s2 : xs_S) (Q : mm_R), xf_11_back s a0 = some (v, s2) → Q (some (.int v)) (xs_H pt ps pg pr s2) → C 226 [.ref 0, .int a0] (xs_H pt ps pg pr s) Q
-- 7_fill_53178_22
noncomputable def xf_7_fill_53178_22_l5 (v1 : Int32) (v3 : Int32) : (Int32 × xs_S) → Option ((Int32 × xs_S) ⊕ ((xs_S))) := fun (w2, s) =>
(if v3 ≤ w2 then
some (.inr (s))
else
(bif mo_in w2 4 then some (.inl ((w2 + (1 : Int32)), (xs_sA s 22 (upd (s.2.1 22) (w2).toNatClampNeg (v1))))) else none))
set_option maxHeartbeats 4000000 in
theorem xb_7_fill_53178_22_l5 {C : mm_C} {Q : mm_R} {pt : Value} {ps : Value} {pg : Value} {pr : Value}  (v1 : Int32) (v3 : Int32) (t : Int32 × xs_S) (x : (xs_S)) (hl : mo_loop (xf_7_fill_53178_22_l5 v1 v3) t = some x) (hK : (fun sy => mm_go C mm_Mk mm_Fk P_J7_fill_53178 Q (P_J7_fill_53178.drop 14) [] [] (xs_H pt ps pg pr sy) 0 0) x) : (mo_c2 (fun y2 sy => mm_go C mm_Mk mm_Fk P_J7_fill_53178 Q (P_J7_fill_53178.drop 5) [(0, .ref 22), (1, .int v1), (2, .int y2), (3, .int v3)] [] (xs_H pt ps pg pr sy) 0 0)) t := by
  refine mo_loop_go (G := (mo_c2 (fun y2 sy => mm_go C mm_Mk mm_Fk P_J7_fill_53178 Q (P_J7_fill_53178.drop 5) [(0, .ref 22), (1, .int v1), (2, .int y2), (3, .int v3)] [] (xs_H pt ps pg pr sy) 0 0)) ) (K := (fun sy => mm_go C mm_Mk mm_Fk P_J7_fill_53178 Q (P_J7_fill_53178.drop 14) [] [] (xs_H pt ps pg pr sy) 0 0) ) ?_ t x hl hK
  intro t r hf hK
  obtain ⟨w2, s⟩ := t
  unfold xf_7_fill_53178_22_l5 at hf
  by_cases c_1 : v3 ≤ w2
  · have hf := mo_pos hf c_1
    obtain rfl := Option.some.inj hf
    refine mm_adv 3 (cs' := P_J7_fill_53178.drop 14) (l' := [(0, .ref 22), (1, .int v1), (2, .int w2), (3, .int v3)]) (st' := []) (h' := (xs_H pt ps pg pr s)) (bc' := 0) (bs' := 0) (fun n g => (And.intro (fun _ => g) (fun q => absurd c_1 q))) ?_
    exact mm_re (c := []) hK rfl rfl
  · have hf := mo_neg hf c_1
    obtain ⟨hi_2, hf⟩ := mo_if hf
    obtain rfl := Option.some.inj hf
    refine mm_adv 9 (cs' := P_J7_fill_53178.drop 5) (l' := [(2, .int (w2 + (1 : Int32))), (0, .ref 22), (1, .int v1), (3, .int v3)]) (st' := []) (h' := (xs_H pt ps pg pr (xs_sA s 22 (upd (s.2.1 22) (w2).toNatClampNeg (v1))))) (bc' := 0) (bs' := 0) (fun n g => (And.intro (fun q => absurd q c_1) (fun _ => (And.intro hi_2 g)))) ?_
    exact mm_re (c := [(0, .ref 22), (1, .int v1), (2, .int (w2 + (1 : Int32))), (3, .int v3)]) hK rfl rfl
noncomputable def xf_7_fill_53178_22 (s : xs_S) (a1 : Int32) : Option (xs_S) :=
((mo_loop (xf_7_fill_53178_22_l5 (a1) ((Int32.ofNat 4))) ((0 : Int32), s)).bind fun s_3 =>
some s_3)
set_option maxHeartbeats 4000000 in
theorem xb_7_fill_53178_22 {C : mm_C} {Q : mm_R} {pt : Value} {ps : Value} {pg : Value} {pr : Value}  (s : xs_S) (a1 : Int32) (s2 : xs_S) (hf : xf_7_fill_53178_22 s a1 = some s2) (hK : Q (none) (xs_H pt ps pg pr s2)) : mm_go C mm_Mk mm_Fk P_J7_fill_53178 Q P_J7_fill_53178 [(0, .ref 22), (1, .int a1)] [] (xs_H pt ps pg pr s) 0 0 := by
  unfold xf_7_fill_53178_22 at hf
  obtain ⟨x_3, hl_3, hf⟩ := mo_bind hf
  refine mm_adv 5 (cs' := P_J7_fill_53178.drop 5) (l' := [(3, .int (Int32.ofNat 4)), (2, .int (0 : Int32)), (0, .ref 22), (1, .int a1)]) (st' := []) (h' := (xs_H pt ps pg pr s)) (bc' := 0) (bs' := 0) (fun n g => g) ?_
  refine mm_re (l' := [(0, .ref 22), (1, .int a1), (2, .int (0 : Int32)), (3, .int (Int32.ofNat 4))]) (c := [(0, .ref 22), (1, .int a1), (2, .int (0 : Int32)), (3, .int (Int32.ofNat 4))]) ?_ rfl rfl
  refine xb_7_fill_53178_22_l5  (a1) ((Int32.ofNat 4)) ((0 : Int32), s) x_3 hl_3 ?_
  obtain ⟨s_3, rfl⟩ : ∃ q, q = x_3 := ⟨_, rfl⟩
  obtain rfl := Option.some.inj hf
  exact ⟨1, hK⟩
def xk_7_fill_53178_22 (C : mm_C) : Prop := ∀ (pt : Value) (ps : Value) (pg : Value) (pr : Value) (s : xs_S) (a1 : Int32) (s2 : xs_S) (Q : mm_R), xf_7_fill_53178_22 s a1 = some s2 → Q (none) (xs_H pt ps pg pr s2) → C 123 [.ref 22, .int a1] (xs_H pt ps pg pr s) Q
-- 3_clear_20
noncomputable def xf_3_clear_20 (s : xs_S)  : Option (xs_S) :=
((xf_7_fill_53178_22 (xs_sI s 321 ((0 : Int32))) ((-1 : Int32))).bind fun s_1 =>
some s_1)
set_option maxHeartbeats 4000000 in
theorem xb_3_clear_20 {C : mm_C} {Q : mm_R} {pt : Value} {ps : Value} {pg : Value} {pr : Value} (h_7_fill_53178_22 : xk_7_fill_53178_22 C) (s : xs_S)  (s2 : xs_S) (hf : xf_3_clear_20 s = some s2) (hK : Q (none) (xs_H pt ps pg pr s2)) : mm_go C mm_Mk mm_Fk P_X3_clear Q P_X3_clear [(0, .ref 20)] [] (xs_H pt ps pg pr s) 0 0 := by
  unfold xf_3_clear_20 at hf
  obtain ⟨s_1, hr_1, hf⟩ := mo_bind hf
  obtain rfl := Option.some.inj hf
  exact ⟨8, (And.intro trivial (h_7_fill_53178_22 pt ps pg pr (xs_sI s 321 ((0 : Int32))) ((-1 : Int32)) s_1 _ hr_1 hK))⟩
def xk_3_clear_20 (C : mm_C) : Prop := ∀ (pt : Value) (ps : Value) (pg : Value) (pr : Value) (s : xs_S)  (s2 : xs_S) (Q : mm_R), xf_3_clear_20 s = some s2 → Q (none) (xs_H pt ps pg pr s2) → C 151 [.ref 20] (xs_H pt ps pg pr s) Q
-- 7_clear_17
noncomputable def xf_7_clear_17 (s : xs_S)  : Option (xs_S) :=
((xf_3_clear_20 s ).bind fun s_1 =>
some (xs_sI (xs_sI (xs_sI (xs_sI (xs_sI (xs_sI s_1 275 ((0 : Int32))) 276 ((0 : Int32))) 277 ((-1 : Int32))) 278 ((-1 : Int32))) 279 ((10 : Int32))) 280 ((0 : Int32))))
set_option maxHeartbeats 4000000 in
theorem xb_7_clear_17 {C : mm_C} {Q : mm_R} {pt : Value} {ps : Value} {pg : Value} {pr : Value} (h_3_clear_20 : xk_3_clear_20 C) (s : xs_S)  (s2 : xs_S) (hf : xf_7_clear_17 s = some s2) (hK : Q (none) (xs_H pt ps pg pr s2)) : mm_go C mm_Mk mm_Fk P_X7_clear Q P_X7_clear [(0, .ref 17)] [] (xs_H pt ps pg pr s) 0 0 := by
  unfold xf_7_clear_17 at hf
  obtain ⟨s_1, hr_1, hf⟩ := mo_bind hf
  obtain rfl := Option.some.inj hf
  exact ⟨22, (h_3_clear_20 pt ps pg pr s  s_1 _ hr_1 (And.intro trivial (And.intro trivial (And.intro trivial (And.intro trivial (And.intro trivial (And.intro trivial hK)))))))⟩
def xk_7_clear_17 (C : mm_C) : Prop := ∀ (pt : Value) (ps : Value) (pg : Value) (pr : Value) (s : xs_S)  (s2 : xs_S) (Q : mm_R), xf_7_clear_17 s = some s2 → Q (none) (xs_H pt ps pg pr s2) → C 188 [.ref 17] (xs_H pt ps pg pr s) Q
-- 8_isBlank
noncomputable def xf_8_isBlank (a0 : Int32) : Option (Int32) :=
(if a0 = (9 : Int32) then
some ((1 : Int32))
else
(if a0 = (10 : Int32) then
some ((1 : Int32))
else
(if a0 = (13 : Int32) then
some ((1 : Int32))
else
(if a0 = (32 : Int32) then
some ((1 : Int32))
else
some ((0 : Int32))))))
set_option maxHeartbeats 4000000 in
theorem xb_8_isBlank {C : mm_C} {Q : mm_R}  {h : mm_H} (a0 : Int32) (v : Int32) (hf : xf_8_isBlank a0 = some v) (hK : Q (some (.int v)) h) : mm_go C mm_Mk mm_Fk P_X8_isBlank Q P_X8_isBlank [(0, .int a0)] [] h 0 0 := by
  unfold xf_8_isBlank at hf
  by_cases c_1 : a0 = (9 : Int32)
  · have hf := mo_pos hf c_1
    obtain rfl := Option.some.inj hf
    exact ⟨6, (And.intro (fun _ => (And.intro rfl hK)) (fun q => absurd c_1 q))⟩
  · have hf := mo_neg hf c_1
    by_cases c_2 : a0 = (10 : Int32)
    · have hf := mo_pos hf c_2
      obtain rfl := Option.some.inj hf
      exact ⟨9, (And.intro (fun q => absurd q c_1) (fun _ => (And.intro (fun _ => (And.intro rfl hK)) (fun q => absurd c_2 q))))⟩
    · have hf := mo_neg hf c_2
      by_cases c_3 : a0 = (13 : Int32)
      · have hf := mo_pos hf c_3
        obtain rfl := Option.some.inj hf
        exact ⟨12, (And.intro (fun q => absurd q c_1) (fun _ => (And.intro (fun q => absurd q c_2) (fun _ => (And.intro (fun _ => (And.intro rfl hK)) (fun q => absurd c_3 q))))))⟩
      · have hf := mo_neg hf c_3
        by_cases c_4 : a0 = (32 : Int32)
        · have hf := mo_pos hf c_4
          obtain rfl := Option.some.inj hf
          exact ⟨15, (And.intro (fun q => absurd q c_1) (fun _ => (And.intro (fun q => absurd q c_2) (fun _ => (And.intro (fun q => absurd q c_3) (fun _ => (And.intro (fun q => absurd c_4 q) (fun _ => (And.intro rfl hK)))))))))⟩
        · have hf := mo_neg hf c_4
          obtain rfl := Option.some.inj hf
          exact ⟨14, (And.intro (fun q => absurd q c_1) (fun _ => (And.intro (fun q => absurd q c_2) (fun _ => (And.intro (fun q => absurd q c_3) (fun _ => (And.intro (fun _ => (And.intro rfl hK)) (fun q => absurd c_4 q))))))))⟩
def xk_8_isBlank (C : mm_C) : Prop := ∀ (h : mm_H) (a0 : Int32) (v : Int32) (Q : mm_R), xf_8_isBlank a0 = some v → Q (some (.int v)) h → C 205 [.int a0] h Q
-- 8_afterBlanks
noncomputable def xf_8_afterBlanks_l2  : (Int32 × xs_S) → Option ((Int32 × xs_S) ⊕ ((Int32 × xs_S))) := fun (w2, s) =>
(if (s.1 17) ≤ w2 then
some (.inr (w2, s))
else
((mo_ag 2000 (s.2.1 2) w2).bind fun x_2 =>
((xf_8_isBlank (x_2)).bind fun v_3 =>
(if v_3 = (0 : Int32) then
some (.inr (w2, s))
else
some (.inl ((w2 + (1 : Int32)), s))))))
set_option maxHeartbeats 4000000 in
theorem xb_8_afterBlanks_l2 {C : mm_C} {Q : mm_R} {pt : Value} {ps : Value} {pg : Value} {pr : Value} (h_8_isBlank : xk_8_isBlank C)  (t : Int32 × xs_S) (x : (Int32 × xs_S)) (hl : mo_loop (xf_8_afterBlanks_l2 ) t = some x) (hK : (mo_c2 (fun y2 sy => mm_go C mm_Mk mm_Fk P_X8_afterBlanks Q (P_X8_afterBlanks.drop 14) [(2, .int y2)] [] (xs_H pt ps pg pr sy) 0 0)) x) : (mo_c2 (fun y2 sy => mm_go C mm_Mk mm_Fk P_X8_afterBlanks Q (P_X8_afterBlanks.drop 2) [(0, .ref 1), (2, .int y2)] [] (xs_H pt ps pg pr sy) 0 0)) t := by
  refine mo_loop_go (G := (mo_c2 (fun y2 sy => mm_go C mm_Mk mm_Fk P_X8_afterBlanks Q (P_X8_afterBlanks.drop 2) [(0, .ref 1), (2, .int y2)] [] (xs_H pt ps pg pr sy) 0 0)) ) (K := (mo_c2 (fun y2 sy => mm_go C mm_Mk mm_Fk P_X8_afterBlanks Q (P_X8_afterBlanks.drop 14) [(2, .int y2)] [] (xs_H pt ps pg pr sy) 0 0)) ) ?_ t x hl hK
  intro t r hf hK
  obtain ⟨w2, s⟩ := t
  unfold xf_8_afterBlanks_l2 at hf
  by_cases c_1 : (s.1 17) ≤ w2
  · have hf := mo_pos hf c_1
    obtain rfl := Option.some.inj hf
    refine mm_adv 4 (cs' := P_X8_afterBlanks.drop 14) (l' := [(0, .ref 1), (2, .int w2)]) (st' := []) (h' := (xs_H pt ps pg pr s)) (bc' := 0) (bs' := 0) (fun n g => (And.intro (fun _ => g) (fun q => absurd c_1 q))) ?_
    exact mm_re (c := [(2, .int w2)]) hK rfl rfl
  · have hf := mo_neg hf c_1
    obtain ⟨x_2, hx_2, hf⟩ := mo_bind hf
    obtain ⟨hi_2, rfl⟩ := mo_ag_inv hx_2
    obtain ⟨v_3, hr_3, hf⟩ := mo_bind hf
    by_cases c_4 : v_3 = (0 : Int32)
    · have hf := mo_pos hf c_4
      obtain rfl := Option.some.inj hf
      refine mm_adv 10 (cs' := P_X8_afterBlanks.drop 14) (l' := [(0, .ref 1), (2, .int w2)]) (st' := []) (h' := (xs_H pt ps pg pr s)) (bc' := 0) (bs' := 0) (fun n g => (And.intro (fun q => absurd q c_1) (fun _ => (And.intro hi_2 (h_8_isBlank _ (((s.2.1 2) (w2).toNatClampNeg)) v_3 _ hr_3 (And.intro (fun _ => g) (fun q => absurd c_4 q))))))) ?_
      exact mm_re (c := [(2, .int w2)]) hK rfl rfl
    · have hf := mo_neg hf c_4
      obtain rfl := Option.some.inj hf
      refine mm_adv 12 (cs' := P_X8_afterBlanks.drop 2) (l' := [(2, .int (w2 + (1 : Int32))), (0, .ref 1)]) (st' := []) (h' := (xs_H pt ps pg pr s)) (bc' := 0) (bs' := 0) (fun n g => (And.intro (fun q => absurd q c_1) (fun _ => (And.intro hi_2 (h_8_isBlank _ (((s.2.1 2) (w2).toNatClampNeg)) v_3 _ hr_3 (And.intro (fun q => absurd q c_4) (fun _ => g))))))) ?_
      exact mm_re (c := [(0, .ref 1), (2, .int (w2 + (1 : Int32)))]) hK rfl rfl
noncomputable def xf_8_afterBlanks (s : xs_S) (a0 : Int32) : Option (Int32 × xs_S) :=
((mo_loop (xf_8_afterBlanks_l2 ) (a0, s)).bind fun (e2_5, s_5) =>
some (e2_5, s_5))
set_option maxHeartbeats 4000000 in
theorem xb_8_afterBlanks {C : mm_C} {Q : mm_R} {pt : Value} {ps : Value} {pg : Value} {pr : Value} (h_8_isBlank : xk_8_isBlank C) (s : xs_S) (a0 : Int32) (v : Int32) (s2 : xs_S) (hf : xf_8_afterBlanks s a0 = some (v, s2)) (hK : Q (some (.int v)) (xs_H pt ps pg pr s2)) : mm_go C mm_Mk mm_Fk P_X8_afterBlanks Q P_X8_afterBlanks [(0, .ref 1), (1, .int a0)] [] (xs_H pt ps pg pr s) 0 0 := by
  unfold xf_8_afterBlanks at hf
  obtain ⟨x_5, hl_5, hf⟩ := mo_bind hf
  refine mm_adv 2 (cs' := P_X8_afterBlanks.drop 2) (l' := [(2, .int a0), (0, .ref 1), (1, .int a0)]) (st' := []) (h' := (xs_H pt ps pg pr s)) (bc' := 0) (bs' := 0) (fun n g => g) ?_
  refine mm_re (l' := [(0, .ref 1), (2, .int a0)]) (c := [(0, .ref 1), (2, .int a0)]) ?_ rfl rfl
  refine xb_8_afterBlanks_l2 h_8_isBlank  (a0, s) x_5 hl_5 ?_
  obtain ⟨e2_5, s_5⟩ := x_5
  obtain ⟨rfl, rfl⟩ := mo_pair hf
  exact ⟨2, hK⟩
def xk_8_afterBlanks (C : mm_C) : Prop := ∀ (pt : Value) (ps : Value) (pg : Value) (pr : Value) (s : xs_S) (a0 : Int32) (v : Int32) (s2 : xs_S) (Q : mm_R), xf_8_afterBlanks s a0 = some (v, s2) → Q (some (.int v)) (xs_H pt ps pg pr s2) → C 199 [.ref 1, .int a0] (xs_H pt ps pg pr s) Q
-- 8_isLetter
noncomputable def xf_8_isLetter (a0 : Int32) : Option (Int32) :=
(if a0 < (97 : Int32) then
some ((0 : Int32))
else
(if (122 : Int32) < a0 then
some ((0 : Int32))
else
some ((1 : Int32))))
set_option maxHeartbeats 4000000 in
theorem xb_8_isLetter {C : mm_C} {Q : mm_R}  {h : mm_H} (a0 : Int32) (v : Int32) (hf : xf_8_isLetter a0 = some v) (hK : Q (some (.int v)) h) : mm_go C mm_Mk mm_Fk P_X8_isLetter Q P_X8_isLetter [(0, .int a0)] [] h 0 0 := by
  unfold xf_8_isLetter at hf
  by_cases c_1 : a0 < (97 : Int32)
  · have hf := mo_pos hf c_1
    obtain rfl := Option.some.inj hf
    exact ⟨5, (And.intro (fun _ => (And.intro rfl hK)) (fun q => absurd c_1 q))⟩
  · have hf := mo_neg hf c_1
    by_cases c_2 : (122 : Int32) < a0
    · have hf := mo_pos hf c_2
      obtain rfl := Option.some.inj hf
      exact ⟨8, (And.intro (fun q => absurd q c_1) (fun _ => (And.intro (fun _ => (And.intro rfl hK)) (fun q => absurd c_2 q))))⟩
    · have hf := mo_neg hf c_2
      obtain rfl := Option.some.inj hf
      exact ⟨9, (And.intro (fun q => absurd q c_1) (fun _ => (And.intro (fun q => absurd q c_2) (fun _ => (And.intro rfl hK)))))⟩
def xk_8_isLetter (C : mm_C) : Prop := ∀ (h : mm_H) (a0 : Int32) (v : Int32) (Q : mm_R), xf_8_isLetter a0 = some v → Q (some (.int v)) h → C 206 [.int a0] h Q
-- 8_isDigit
noncomputable def xf_8_isDigit (a0 : Int32) : Option (Int32) :=
(if a0 < (48 : Int32) then
some ((0 : Int32))
else
(if (57 : Int32) < a0 then
some ((0 : Int32))
else
some ((1 : Int32))))
set_option maxHeartbeats 4000000 in
theorem xb_8_isDigit {C : mm_C} {Q : mm_R}  {h : mm_H} (a0 : Int32) (v : Int32) (hf : xf_8_isDigit a0 = some v) (hK : Q (some (.int v)) h) : mm_go C mm_Mk mm_Fk P_X8_isDigit Q P_X8_isDigit [(0, .int a0)] [] h 0 0 := by
  unfold xf_8_isDigit at hf
  by_cases c_1 : a0 < (48 : Int32)
  · have hf := mo_pos hf c_1
    obtain rfl := Option.some.inj hf
    exact ⟨5, (And.intro (fun _ => (And.intro rfl hK)) (fun q => absurd c_1 q))⟩
  · have hf := mo_neg hf c_1
    by_cases c_2 : (57 : Int32) < a0
    · have hf := mo_pos hf c_2
      obtain rfl := Option.some.inj hf
      exact ⟨8, (And.intro (fun q => absurd q c_1) (fun _ => (And.intro (fun _ => (And.intro rfl hK)) (fun q => absurd c_2 q))))⟩
    · have hf := mo_neg hf c_2
      obtain rfl := Option.some.inj hf
      exact ⟨9, (And.intro (fun q => absurd q c_1) (fun _ => (And.intro (fun q => absurd q c_2) (fun _ => (And.intro rfl hK)))))⟩
def xk_8_isDigit (C : mm_C) : Prop := ∀ (h : mm_H) (a0 : Int32) (v : Int32) (Q : mm_R), xf_8_isDigit a0 = some v → Q (some (.int v)) h → C 207 [.int a0] h Q
-- 8_endOf
noncomputable def xf_8_endOf_l28  : (Int32 × xs_S) → Option ((Int32 × xs_S) ⊕ ((Int32 × xs_S))) := fun (w2, s) =>
(if (s.1 17) ≤ w2 then
some (.inr (w2, s))
else
((mo_ag 2000 (s.2.1 2) w2).bind fun x_8 =>
((xf_8_isDigit (x_8)).bind fun v_9 =>
(if v_9 = (0 : Int32) then
some (.inr (w2, s))
else
some (.inl ((w2 + (1 : Int32)), s))))))
set_option maxHeartbeats 4000000 in
theorem xb_8_endOf_l28 {C : mm_C} {Q : mm_R} {pt : Value} {ps : Value} {pg : Value} {pr : Value} (h_8_isLetter : xk_8_isLetter C) (h_8_isDigit : xk_8_isDigit C)  (t : Int32 × xs_S) (x : (Int32 × xs_S)) (hl : mo_loop (xf_8_endOf_l28 ) t = some x) (hK : (mo_c2 (fun y2 sy => mm_go C mm_Mk mm_Fk P_X8_endOf Q (P_X8_endOf.drop 40) [(2, .int y2)] [] (xs_H pt ps pg pr sy) 0 0)) x) : (mo_c2 (fun y2 sy => mm_go C mm_Mk mm_Fk P_X8_endOf Q (P_X8_endOf.drop 28) [(0, .ref 1), (2, .int y2)] [] (xs_H pt ps pg pr sy) 0 0)) t := by
  refine mo_loop_go (G := (mo_c2 (fun y2 sy => mm_go C mm_Mk mm_Fk P_X8_endOf Q (P_X8_endOf.drop 28) [(0, .ref 1), (2, .int y2)] [] (xs_H pt ps pg pr sy) 0 0)) ) (K := (mo_c2 (fun y2 sy => mm_go C mm_Mk mm_Fk P_X8_endOf Q (P_X8_endOf.drop 40) [(2, .int y2)] [] (xs_H pt ps pg pr sy) 0 0)) ) ?_ t x hl hK
  intro t r hf hK
  obtain ⟨w2, s⟩ := t
  unfold xf_8_endOf_l28 at hf
  by_cases c_7 : (s.1 17) ≤ w2
  · have hf := mo_pos hf c_7
    obtain rfl := Option.some.inj hf
    refine mm_adv 4 (cs' := P_X8_endOf.drop 40) (l' := [(0, .ref 1), (2, .int w2)]) (st' := []) (h' := (xs_H pt ps pg pr s)) (bc' := 0) (bs' := 0) (fun n g => (And.intro (fun _ => g) (fun q => absurd c_7 q))) ?_
    exact mm_re (c := [(2, .int w2)]) hK rfl rfl
  · have hf := mo_neg hf c_7
    obtain ⟨x_8, hx_8, hf⟩ := mo_bind hf
    obtain ⟨hi_8, rfl⟩ := mo_ag_inv hx_8
    obtain ⟨v_9, hr_9, hf⟩ := mo_bind hf
    by_cases c_10 : v_9 = (0 : Int32)
    · have hf := mo_pos hf c_10
      obtain rfl := Option.some.inj hf
      refine mm_adv 10 (cs' := P_X8_endOf.drop 40) (l' := [(0, .ref 1), (2, .int w2)]) (st' := []) (h' := (xs_H pt ps pg pr s)) (bc' := 0) (bs' := 0) (fun n g => (And.intro (fun q => absurd q c_7) (fun _ => (And.intro hi_8 (h_8_isDigit _ (((s.2.1 2) (w2).toNatClampNeg)) v_9 _ hr_9 (And.intro (fun _ => g) (fun q => absurd c_10 q))))))) ?_
      exact mm_re (c := [(2, .int w2)]) hK rfl rfl
    · have hf := mo_neg hf c_10
      obtain rfl := Option.some.inj hf
      refine mm_adv 12 (cs' := P_X8_endOf.drop 28) (l' := [(2, .int (w2 + (1 : Int32))), (0, .ref 1)]) (st' := []) (h' := (xs_H pt ps pg pr s)) (bc' := 0) (bs' := 0) (fun n g => (And.intro (fun q => absurd q c_7) (fun _ => (And.intro hi_8 (h_8_isDigit _ (((s.2.1 2) (w2).toNatClampNeg)) v_9 _ hr_9 (And.intro (fun q => absurd q c_10) (fun _ => g))))))) ?_
      exact mm_re (c := [(0, .ref 1), (2, .int (w2 + (1 : Int32)))]) hK rfl rfl
noncomputable def xf_8_endOf_l10  : (Int32 × xs_S) → Option ((Int32 × xs_S) ⊕ ((Int32 × xs_S))) := fun (w2, s) =>
(if (s.1 17) ≤ w2 then
some (.inr (w2, s))
else
((mo_ag 2000 (s.2.1 2) w2).bind fun x_13 =>
((xf_8_isLetter (x_13)).bind fun v_14 =>
(if v_14 = (0 : Int32) then
some (.inr (w2, s))
else
some (.inl ((w2 + (1 : Int32)), s))))))
set_option maxHeartbeats 4000000 in
theorem xb_8_endOf_l10 {C : mm_C} {Q : mm_R} {pt : Value} {ps : Value} {pg : Value} {pr : Value} (h_8_isLetter : xk_8_isLetter C) (h_8_isDigit : xk_8_isDigit C)  (t : Int32 × xs_S) (x : (Int32 × xs_S)) (hl : mo_loop (xf_8_endOf_l10 ) t = some x) (hK : (mo_c2 (fun y2 sy => mm_go C mm_Mk mm_Fk P_X8_endOf Q (P_X8_endOf.drop 40) [(2, .int y2)] [] (xs_H pt ps pg pr sy) 0 0)) x) : (mo_c2 (fun y2 sy => mm_go C mm_Mk mm_Fk P_X8_endOf Q (P_X8_endOf.drop 10) [(0, .ref 1), (2, .int y2)] [] (xs_H pt ps pg pr sy) 0 0)) t := by
  refine mo_loop_go (G := (mo_c2 (fun y2 sy => mm_go C mm_Mk mm_Fk P_X8_endOf Q (P_X8_endOf.drop 10) [(0, .ref 1), (2, .int y2)] [] (xs_H pt ps pg pr sy) 0 0)) ) (K := (mo_c2 (fun y2 sy => mm_go C mm_Mk mm_Fk P_X8_endOf Q (P_X8_endOf.drop 40) [(2, .int y2)] [] (xs_H pt ps pg pr sy) 0 0)) ) ?_ t x hl hK
  intro t r hf hK
  obtain ⟨w2, s⟩ := t
  unfold xf_8_endOf_l10 at hf
  by_cases c_12 : (s.1 17) ≤ w2
  · have hf := mo_pos hf c_12
    obtain rfl := Option.some.inj hf
    refine mm_adv 4 (cs' := P_X8_endOf.drop 40) (l' := [(0, .ref 1), (2, .int w2)]) (st' := []) (h' := (xs_H pt ps pg pr s)) (bc' := 0) (bs' := 0) (fun n g => (And.intro (fun _ => g) (fun q => absurd c_12 q))) ?_
    exact mm_re (c := [(2, .int w2)]) hK rfl rfl
  · have hf := mo_neg hf c_12
    obtain ⟨x_13, hx_13, hf⟩ := mo_bind hf
    obtain ⟨hi_13, rfl⟩ := mo_ag_inv hx_13
    obtain ⟨v_14, hr_14, hf⟩ := mo_bind hf
    by_cases c_15 : v_14 = (0 : Int32)
    · have hf := mo_pos hf c_15
      obtain rfl := Option.some.inj hf
      refine mm_adv 10 (cs' := P_X8_endOf.drop 40) (l' := [(0, .ref 1), (2, .int w2)]) (st' := []) (h' := (xs_H pt ps pg pr s)) (bc' := 0) (bs' := 0) (fun n g => (And.intro (fun q => absurd q c_12) (fun _ => (And.intro hi_13 (h_8_isLetter _ (((s.2.1 2) (w2).toNatClampNeg)) v_14 _ hr_14 (And.intro (fun _ => g) (fun q => absurd c_15 q))))))) ?_
      exact mm_re (c := [(2, .int w2)]) hK rfl rfl
    · have hf := mo_neg hf c_15
      obtain rfl := Option.some.inj hf
      refine mm_adv 12 (cs' := P_X8_endOf.drop 10) (l' := [(2, .int (w2 + (1 : Int32))), (0, .ref 1)]) (st' := []) (h' := (xs_H pt ps pg pr s)) (bc' := 0) (bs' := 0) (fun n g => (And.intro (fun q => absurd q c_12) (fun _ => (And.intro hi_13 (h_8_isLetter _ (((s.2.1 2) (w2).toNatClampNeg)) v_14 _ hr_14 (And.intro (fun q => absurd q c_15) (fun _ => g))))))) ?_
      exact mm_re (c := [(0, .ref 1), (2, .int (w2 + (1 : Int32)))]) hK rfl rfl
noncomputable def xf_8_endOf (s : xs_S) (a0 : Int32) : Option (Int32 × xs_S) :=
((mo_ag 2000 (s.2.1 2) a0).bind fun x_1 =>
((xf_8_isLetter (x_1)).bind fun v_2 =>
(if v_2 = (0 : Int32) then
((mo_ag 2000 (s.2.1 2) a0).bind fun x_4 =>
((xf_8_isDigit (x_4)).bind fun v_5 =>
(if v_5 = (0 : Int32) then
some ((a0 + (1 : Int32)), s)
else
((mo_loop (xf_8_endOf_l28 ) ((a0 + (1 : Int32)), s)).bind fun (e2_11, s_11) =>
some (e2_11, s_11)))))
else
((mo_loop (xf_8_endOf_l10 ) ((a0 + (1 : Int32)), s)).bind fun (e2_16, s_16) =>
some (e2_16, s_16)))))
set_option maxHeartbeats 4000000 in
theorem xb_8_endOf {C : mm_C} {Q : mm_R} {pt : Value} {ps : Value} {pg : Value} {pr : Value} (h_8_isLetter : xk_8_isLetter C) (h_8_isDigit : xk_8_isDigit C) (s : xs_S) (a0 : Int32) (v : Int32) (s2 : xs_S) (hf : xf_8_endOf s a0 = some (v, s2)) (hK : Q (some (.int v)) (xs_H pt ps pg pr s2)) : mm_go C mm_Mk mm_Fk P_X8_endOf Q P_X8_endOf [(0, .ref 1), (1, .int a0)] [] (xs_H pt ps pg pr s) 0 0 := by
  unfold xf_8_endOf at hf
  obtain ⟨x_1, hx_1, hf⟩ := mo_bind hf
  obtain ⟨hi_1, rfl⟩ := mo_ag_inv hx_1
  obtain ⟨v_2, hr_2, hf⟩ := mo_bind hf
  by_cases c_3 : v_2 = (0 : Int32)
  · have hf := mo_pos hf c_3
    obtain ⟨x_4, hx_4, hf⟩ := mo_bind hf
    obtain ⟨hi_4, rfl⟩ := mo_ag_inv hx_4
    obtain ⟨v_5, hr_5, hf⟩ := mo_bind hf
    by_cases c_6 : v_5 = (0 : Int32)
    · have hf := mo_pos hf c_6
      obtain ⟨rfl, rfl⟩ := mo_pair hf
      exact ⟨18, (And.intro hi_1 (h_8_isLetter _ (((s.2.1 2) (a0).toNatClampNeg)) v_2 _ hr_2 (And.intro (fun _ => (And.intro hi_4 (h_8_isDigit _ (((s.2.1 2) (a0).toNatClampNeg)) v_5 _ hr_5 (And.intro (fun _ => hK) (fun q => absurd c_6 q))))) (fun q => absurd c_3 q))))⟩
    · have hf := mo_neg hf c_6
      obtain ⟨x_11, hl_11, hf⟩ := mo_bind hf
      refine mm_adv 16 (cs' := P_X8_endOf.drop 28) (l' := [(2, .int (a0 + (1 : Int32))), (0, .ref 1), (1, .int a0)]) (st' := []) (h' := (xs_H pt ps pg pr s)) (bc' := 0) (bs' := 0) (fun n g => (And.intro hi_1 (h_8_isLetter _ (((s.2.1 2) (a0).toNatClampNeg)) v_2 _ hr_2 (And.intro (fun _ => (And.intro hi_4 (h_8_isDigit _ (((s.2.1 2) (a0).toNatClampNeg)) v_5 _ hr_5 (And.intro (fun q => absurd q c_6) (fun _ => g))))) (fun q => absurd c_3 q))))) ?_
      refine mm_re (l' := [(0, .ref 1), (2, .int (a0 + (1 : Int32)))]) (c := [(0, .ref 1), (2, .int (a0 + (1 : Int32)))]) ?_ rfl rfl
      refine xb_8_endOf_l28 h_8_isLetter h_8_isDigit  ((a0 + (1 : Int32)), s) x_11 hl_11 ?_
      obtain ⟨e2_11, s_11⟩ := x_11
      obtain ⟨rfl, rfl⟩ := mo_pair hf
      exact ⟨2, hK⟩
  · have hf := mo_neg hf c_3
    obtain ⟨x_16, hl_16, hf⟩ := mo_bind hf
    refine mm_adv 10 (cs' := P_X8_endOf.drop 10) (l' := [(2, .int (a0 + (1 : Int32))), (0, .ref 1), (1, .int a0)]) (st' := []) (h' := (xs_H pt ps pg pr s)) (bc' := 0) (bs' := 0) (fun n g => (And.intro hi_1 (h_8_isLetter _ (((s.2.1 2) (a0).toNatClampNeg)) v_2 _ hr_2 (And.intro (fun q => absurd q c_3) (fun _ => g))))) ?_
    refine mm_re (l' := [(0, .ref 1), (2, .int (a0 + (1 : Int32)))]) (c := [(0, .ref 1), (2, .int (a0 + (1 : Int32)))]) ?_ rfl rfl
    refine xb_8_endOf_l10 h_8_isLetter h_8_isDigit  ((a0 + (1 : Int32)), s) x_16 hl_16 ?_
    obtain ⟨e2_16, s_16⟩ := x_16
    obtain ⟨rfl, rfl⟩ := mo_pair hf
    exact ⟨2, hK⟩
def xk_8_endOf (C : mm_C) : Prop := ∀ (pt : Value) (ps : Value) (pg : Value) (pr : Value) (s : xs_S) (a0 : Int32) (v : Int32) (s2 : xs_S) (Q : mm_R), xf_8_endOf s a0 = some (v, s2) → Q (some (.int v)) (xs_H pt ps pg pr s2) → C 200 [.ref 1, .int a0] (xs_H pt ps pg pr s) Q
-- 8_isQuoted
noncomputable def xf_8_isQuoted_j18 (s : xs_S) (v1 : Int32) (v2 : Int32) (v3 : Int32) (v4 : Int32) (k0 : Int32) : Option ((Int32 × xs_S) ⊕ ((xs_S) ⊕ (xs_S))) :=
((mo_ag 168 xs_qt ((v1 * (8 : Int32)) + v4)).bind fun x_3 =>
(if x_3 = k0 then
some (.inl ((v4 + (1 : Int32)), s))
else
some (.inr (.inl (s)))))
noncomputable def xf_8_isQuoted_l2 (v1 : Int32) (v2 : Int32) (v3 : Int32) : (Int32 × xs_S) → Option ((Int32 × xs_S) ⊕ ((xs_S) ⊕ (xs_S))) := fun (w4, s) =>
(if (8 : Int32) ≤ w4 then
some (.inr (.inr (s)))
else
(if v3 ≤ (v2 + w4) then
(xf_8_isQuoted_j18 (s) (v1) (v2) (v3) (w4) ((32 : Int32)))
else
((mo_ag 2000 (s.2.1 2) (v2 + w4)).bind fun x_5 =>
(xf_8_isQuoted_j18 (s) (v1) (v2) (v3) (w4) (x_5)))))
noncomputable def xf_8_isQuoted (s : xs_S) (a0 : Int32) (a1 : Int32) (a2 : Int32) : Option (Int32 × xs_S) :=
((mo_loop (xf_8_isQuoted_l2 (a0) (a1) (a2)) ((0 : Int32), s)).bind fun x_6 =>
match x_6 with
| (.inl s_6) => some ((0 : Int32), s_6)
| (.inr s_6) => some ((1 : Int32), s_6)
)
def xk_8_isQuoted (C : mm_C) : Prop := ∀ (pt : Value) (ps : Value) (pg : Value) (pr : Value) (s : xs_S) (a0 : Int32) (a1 : Int32) (a2 : Int32) (v : Int32) (s2 : xs_S) (Q : mm_R), xf_8_isQuoted s a0 a1 a2 = some (v, s2) → Q (some (.int v)) (xs_H pt ps pg pr s2) → C 203 [.ref 1, .int a0, .int a1, .int a2] (xs_H pt ps pg pr s) Q
-- 8_kindOfLetters
noncomputable def xf_8_kindOfLetters_l2 (v1 : Int32) (v2 : Int32) : (Int32 × xs_S) → Option ((Int32 × xs_S) ⊕ ((Int32 × xs_S) ⊕ (xs_S))) := fun (w3, s) =>
(if (20 : Int32) < w3 then
some (.inr (.inr (s)))
else
((xf_8_isQuoted s (w3) (v1) (v2)).bind fun (v_2, s_2) =>
(if v_2 = (0 : Int32) then
some (.inl ((w3 + (1 : Int32)), s_2))
else
some (.inr (.inl (w3, s_2))))))
set_option maxHeartbeats 4000000 in
theorem xb_8_kindOfLetters_l2 {C : mm_C} {Q : mm_R} {pt : Value} {ps : Value} {pg : Value} {pr : Value} (h_8_isQuoted : xk_8_isQuoted C) (v1 : Int32) (v2 : Int32) (t : Int32 × xs_S) (x : (Int32 × xs_S) ⊕ (xs_S)) (hl : mo_loop (xf_8_kindOfLetters_l2 v1 v2) t = some x) (hK : (mo_sum (mo_c2 (fun y3 sy => mm_go C mm_Mk mm_Fk P_X8_kindOfLetters Q (P_X8_kindOfLetters.drop 11) [(3, .int y3)] [] (xs_H pt ps pg pr sy) 0 0)) (fun sy => mm_go C mm_Mk mm_Fk P_X8_kindOfLetters Q (P_X8_kindOfLetters.drop 15) [] [] (xs_H pt ps pg pr sy) 0 0)) x) : (mo_c2 (fun y3 sy => mm_go C mm_Mk mm_Fk P_X8_kindOfLetters Q (P_X8_kindOfLetters.drop 2) [(0, .ref 1), (1, .int v1), (2, .int v2), (3, .int y3)] [] (xs_H pt ps pg pr sy) 0 0)) t := by
  refine mo_loop_go (G := (mo_c2 (fun y3 sy => mm_go C mm_Mk mm_Fk P_X8_kindOfLetters Q (P_X8_kindOfLetters.drop 2) [(0, .ref 1), (1, .int v1), (2, .int v2), (3, .int y3)] [] (xs_H pt ps pg pr sy) 0 0)) ) (K := (mo_sum (mo_c2 (fun y3 sy => mm_go C mm_Mk mm_Fk P_X8_kindOfLetters Q (P_X8_kindOfLetters.drop 11) [(3, .int y3)] [] (xs_H pt ps pg pr sy) 0 0)) (fun sy => mm_go C mm_Mk mm_Fk P_X8_kindOfLetters Q (P_X8_kindOfLetters.drop 15) [] [] (xs_H pt ps pg pr sy) 0 0)) ) ?_ t x hl hK
  intro t r hf hK
  obtain ⟨w3, s⟩ := t
  unfold xf_8_kindOfLetters_l2 at hf
  by_cases c_1 : (20 : Int32) < w3
  · have hf := mo_pos hf c_1
    obtain rfl := Option.some.inj hf
    refine mm_adv 3 (cs' := P_X8_kindOfLetters.drop 15) (l' := [(0, .ref 1), (1, .int v1), (2, .int v2), (3, .int w3)]) (st' := []) (h' := (xs_H pt ps pg pr s)) (bc' := 0) (bs' := 0) (fun n g => (And.intro (fun _ => g) (fun q => absurd c_1 q))) ?_
    exact mm_re (c := []) hK rfl rfl
  · have hf := mo_neg hf c_1
    obtain ⟨r_2, hr_2, hf⟩ := mo_bind hf
    obtain ⟨v_2, s_2⟩ := r_2
    by_cases c_3 : v_2 = (0 : Int32)
    · have hf := mo_pos hf c_3
      obtain rfl := Option.some.inj hf
      refine mm_adv 11 (cs' := P_X8_kindOfLetters.drop 2) (l' := [(3, .int (w3 + (1 : Int32))), (0, .ref 1), (1, .int v1), (2, .int v2)]) (st' := []) (h' := (xs_H pt ps pg pr s_2)) (bc' := 0) (bs' := 0) (fun n g => (And.intro (fun q => absurd q c_1) (fun _ => (h_8_isQuoted pt ps pg pr s (w3) (v1) (v2) v_2 s_2 _ hr_2 (And.intro (fun _ => g) (fun q => absurd c_3 q)))))) ?_
      exact mm_re (c := [(0, .ref 1), (1, .int v1), (2, .int v2), (3, .int (w3 + (1 : Int32)))]) hK rfl rfl
    · have hf := mo_neg hf c_3
      obtain rfl := Option.some.inj hf
      refine mm_adv 9 (cs' := P_X8_kindOfLetters.drop 11) (l' := [(0, .ref 1), (1, .int v1), (2, .int v2), (3, .int w3)]) (st' := []) (h' := (xs_H pt ps pg pr s_2)) (bc' := 0) (bs' := 0) (fun n g => (And.intro (fun q => absurd q c_1) (fun _ => (h_8_isQuoted pt ps pg pr s (w3) (v1) (v2) v_2 s_2 _ hr_2 (And.intro (fun q => absurd q c_3) (fun _ => g)))))) ?_
      exact mm_re (c := [(3, .int w3)]) hK rfl rfl
noncomputable def xf_8_kindOfLetters (s : xs_S) (a0 : Int32) (a1 : Int32) : Option (Int32 × xs_S) :=
((mo_loop (xf_8_kindOfLetters_l2 (a0) (a1)) ((0 : Int32), s)).bind fun x_4 =>
match x_4 with
| (.inl (e3_4, s_4)) => some (e3_4, s_4)
| (.inr s_4) => some ((21 : Int32), s_4)
)
set_option maxHeartbeats 4000000 in
theorem xb_8_kindOfLetters {C : mm_C} {Q : mm_R} {pt : Value} {ps : Value} {pg : Value} {pr : Value} (h_8_isQuoted : xk_8_isQuoted C) (s : xs_S) (a0 : Int32) (a1 : Int32) (v : Int32) (s2 : xs_S) (hf : xf_8_kindOfLetters s a0 a1 = some (v, s2)) (hK : Q (some (.int v)) (xs_H pt ps pg pr s2)) : mm_go C mm_Mk mm_Fk P_X8_kindOfLetters Q P_X8_kindOfLetters [(0, .ref 1), (1, .int a0), (2, .int a1)] [] (xs_H pt ps pg pr s) 0 0 := by
  unfold xf_8_kindOfLetters at hf
  obtain ⟨x_4, hl_4, hf⟩ := mo_bind hf
  refine mm_adv 2 (cs' := P_X8_kindOfLetters.drop 2) (l' := [(3, .int (0 : Int32)), (0, .ref 1), (1, .int a0), (2, .int a1)]) (st' := []) (h' := (xs_H pt ps pg pr s)) (bc' := 0) (bs' := 0) (fun n g => g) ?_
  refine mm_re (l' := [(0, .ref 1), (1, .int a0), (2, .int a1), (3, .int (0 : Int32))]) (c := [(0, .ref 1), (1, .int a0), (2, .int a1), (3, .int (0 : Int32))]) ?_ rfl rfl
  refine xb_8_kindOfLetters_l2 h_8_isQuoted (a0) (a1) ((0 : Int32), s) x_4 hl_4 ?_
  cases x_4 with
  | inl y_4 =>
    obtain ⟨e3_4, s_4⟩ := y_4
    obtain ⟨rfl, rfl⟩ := mo_pair hf
    exact ⟨2, hK⟩
  | inr z_4_0 =>
    obtain ⟨s_4, rfl⟩ : ∃ q, q = z_4_0 := ⟨_, rfl⟩
    obtain ⟨rfl, rfl⟩ := mo_pair hf
    exact ⟨2, hK⟩
def xk_8_kindOfLetters (C : mm_C) : Prop := ∀ (pt : Value) (ps : Value) (pg : Value) (pr : Value) (s : xs_S) (a0 : Int32) (a1 : Int32) (v : Int32) (s2 : xs_S) (Q : mm_R), xf_8_kindOfLetters s a0 a1 = some (v, s2) → Q (some (.int v)) (xs_H pt ps pg pr s2) → C 202 [.ref 1, .int a0, .int a1] (xs_H pt ps pg pr s) Q
-- 8_kindOf
noncomputable def xf_8_kindOf (s : xs_S) (a0 : Int32) (a1 : Int32) : Option (Int32 × xs_S) :=
((mo_ag 2000 (s.2.1 2) a0).bind fun x_1 =>
((xf_8_isLetter (x_1)).bind fun v_2 =>
(if v_2 = (0 : Int32) then
((mo_ag 2000 (s.2.1 2) a0).bind fun x_4 =>
((xf_8_isDigit (x_4)).bind fun v_5 =>
(if v_5 = (0 : Int32) then
((mo_ag 2000 (s.2.1 2) a0).bind fun x_7 =>
(if (0 : Int32) ≤ (xs_ix (((x_7 &&& (255 : Int32))).toUInt32 % 65536).toInt32) then
some (((23 : Int32) + (xs_ix (((x_7 &&& (255 : Int32))).toUInt32 % 65536).toInt32)), s)
else
some ((33 : Int32), s)))
else
(if (a1 - a0) ≤ (4 : Int32) then
some ((22 : Int32), s)
else
some ((33 : Int32), s)))))
else
(if (a1 - a0) ≤ (8 : Int32) then
((xf_8_kindOfLetters s (a0) (a1)).bind fun (v_12, s_12) =>
some (v_12, s_12))
else
some ((33 : Int32), s)))))
def xk_8_kindOf (C : mm_C) : Prop := ∀ (pt : Value) (ps : Value) (pg : Value) (pr : Value) (s : xs_S) (a0 : Int32) (a1 : Int32) (v : Int32) (s2 : xs_S) (Q : mm_R), xf_8_kindOf s a0 a1 = some (v, s2) → Q (some (.int v)) (xs_H pt ps pg pr s2) → C 201 [.ref 1, .int a0, .int a1] (xs_H pt ps pg pr s) Q
-- 8_valueOf
noncomputable def xf_8_valueOf_j43 (s : xs_S) (v1 : Int32) (v2 : Int32) (v5 : Int32) (k0 : Int64) : Option ((Int64 × Int32 × xs_S) ⊕ ((Int64 × xs_S))) :=
some (.inl (k0, (v5 + (1 : Int32)), s))
set_option maxHeartbeats 4000000 in
theorem xb_8_valueOf_j43 {C : mm_C} {Q : mm_R} {pt : Value} {ps : Value} {pg : Value} {pr : Value} (h_8_isDigit : xk_8_isDigit C) (s : xs_S) (v1 : Int32) (v2 : Int32) (v5 : Int32) (k0 : Int64) (r : (Int64 × Int32 × xs_S) ⊕ ((Int64 × xs_S))) (hf : xf_8_valueOf_j43 s v1 v2 v5 k0 = some r) (hK : mo_sum (mo_c2 (fun y3 => (mo_c2 (fun y5 sy => mm_go C mm_Mk mm_Fk P_X8_valueOf Q (P_X8_valueOf.drop 4) [(0, .ref 1), (1, .int v1), (2, .int v2), (3, .long y3), (5, .int y5)] [] (xs_H pt ps pg pr sy) 0 0))))  (mo_c2 (fun y3 sy => mm_go C mm_Mk mm_Fk P_X8_valueOf Q (P_X8_valueOf.drop 46) [(3, .long y3)] [] (xs_H pt ps pg pr sy) 0 0))  r) : mm_go C mm_Mk mm_Fk P_X8_valueOf Q (P_X8_valueOf.drop 43) [(0, .ref 1), (1, .int v1), (2, .int v2), (5, .int v5)] [.long k0] (xs_H pt ps pg pr s) 0 0 := by
  unfold xf_8_valueOf_j43 at hf
  obtain rfl := Option.some.inj hf
  refine mm_adv 3 (cs' := P_X8_valueOf.drop 4) (l' := [(5, .int (v5 + (1 : Int32))), (3, .long k0), (0, .ref 1), (1, .int v1), (2, .int v2)]) (st' := []) (h' := (xs_H pt ps pg pr s)) (bc' := 0) (bs' := 0) (fun n g => g) ?_
  exact mm_re (c := [(0, .ref 1), (1, .int v1), (2, .int v2), (3, .long k0), (5, .int (v5 + (1 : Int32)))]) hK rfl rfl
noncomputable def xf_8_valueOf_l4 (v1 : Int32) (v2 : Int32) : (Int64 × Int32 × xs_S) → Option ((Int64 × Int32 × xs_S) ⊕ ((Int64 × xs_S))) := fun (w3, w5, s) =>
(if v2 ≤ w5 then
some (.inr (w3, s))
else
(if (8 : Int32) ≤ (w5 - v1) then
some (.inr (w3, s))
else
((mo_ag 2000 (s.2.1 2) w5).bind fun x_3 =>
((xf_8_isDigit (x_3)).bind fun v_4 =>
(if v_4 = (0 : Int32) then
((mo_ag 2000 (s.2.1 2) w5).bind fun x_6 =>
(xf_8_valueOf_j43 (s) (v1) (v2) (w5) (((((w3 * (27 : Int64)) + (x_6).toInt64) - (97 : Int64)) + (1 : Int64)))))
else
((mo_ag 2000 (s.2.1 2) w5).bind fun x_7 =>
(xf_8_valueOf_j43 (s) (v1) (v2) (w5) ((((w3 * (10 : Int64)) + (x_7).toInt64) - (48 : Int64))))))))))
set_option maxHeartbeats 4000000 in
theorem xb_8_valueOf_l4 {C : mm_C} {Q : mm_R} {pt : Value} {ps : Value} {pg : Value} {pr : Value} (h_8_isDigit : xk_8_isDigit C) (v1 : Int32) (v2 : Int32) (t : Int64 × Int32 × xs_S) (x : (Int64 × xs_S)) (hl : mo_loop (xf_8_valueOf_l4 v1 v2) t = some x) (hK : (mo_c2 (fun y3 sy => mm_go C mm_Mk mm_Fk P_X8_valueOf Q (P_X8_valueOf.drop 46) [(3, .long y3)] [] (xs_H pt ps pg pr sy) 0 0)) x) : (mo_c2 (fun y3 => (mo_c2 (fun y5 sy => mm_go C mm_Mk mm_Fk P_X8_valueOf Q (P_X8_valueOf.drop 4) [(0, .ref 1), (1, .int v1), (2, .int v2), (3, .long y3), (5, .int y5)] [] (xs_H pt ps pg pr sy) 0 0)))) t := by
  refine mo_loop_go (G := (mo_c2 (fun y3 => (mo_c2 (fun y5 sy => mm_go C mm_Mk mm_Fk P_X8_valueOf Q (P_X8_valueOf.drop 4) [(0, .ref 1), (1, .int v1), (2, .int v2), (3, .long y3), (5, .int y5)] [] (xs_H pt ps pg pr sy) 0 0)))) ) (K := (mo_c2 (fun y3 sy => mm_go C mm_Mk mm_Fk P_X8_valueOf Q (P_X8_valueOf.drop 46) [(3, .long y3)] [] (xs_H pt ps pg pr sy) 0 0)) ) ?_ t x hl hK
  intro t r hf hK
  obtain ⟨w3, w5, s⟩ := t
  unfold xf_8_valueOf_l4 at hf
  by_cases c_1 : v2 ≤ w5
  · have hf := mo_pos hf c_1
    obtain rfl := Option.some.inj hf
    refine mm_adv 3 (cs' := P_X8_valueOf.drop 46) (l' := [(0, .ref 1), (1, .int v1), (2, .int v2), (3, .long w3), (5, .int w5)]) (st' := []) (h' := (xs_H pt ps pg pr s)) (bc' := 0) (bs' := 0) (fun n g => (And.intro (fun _ => g) (fun q => absurd c_1 q))) ?_
    exact mm_re (c := [(3, .long w3)]) hK rfl rfl
  · have hf := mo_neg hf c_1
    by_cases c_2 : (8 : Int32) ≤ (w5 - v1)
    · have hf := mo_pos hf c_2
      obtain rfl := Option.some.inj hf
      refine mm_adv 8 (cs' := P_X8_valueOf.drop 46) (l' := [(0, .ref 1), (1, .int v1), (2, .int v2), (3, .long w3), (5, .int w5)]) (st' := []) (h' := (xs_H pt ps pg pr s)) (bc' := 0) (bs' := 0) (fun n g => (And.intro (fun q => absurd q c_1) (fun _ => (And.intro (fun _ => g) (fun q => absurd c_2 q))))) ?_
      exact mm_re (c := [(3, .long w3)]) hK rfl rfl
    · have hf := mo_neg hf c_2
      obtain ⟨x_3, hx_3, hf⟩ := mo_bind hf
      obtain ⟨hi_3, rfl⟩ := mo_ag_inv hx_3
      obtain ⟨v_4, hr_4, hf⟩ := mo_bind hf
      by_cases c_5 : v_4 = (0 : Int32)
      · have hf := mo_pos hf c_5
        obtain ⟨x_6, hx_6, hf⟩ := mo_bind hf
        obtain ⟨hi_6, rfl⟩ := mo_ag_inv hx_6
        refine mm_adv 27 (cs' := P_X8_valueOf.drop 43) (l' := [(0, .ref 1), (1, .int v1), (2, .int v2), (3, .long w3), (5, .int w5)]) (st' := [.long ((((w3 * (27 : Int64)) + (((s.2.1 2) (w5).toNatClampNeg)).toInt64) - (97 : Int64)) + (1 : Int64))]) (h' := (xs_H pt ps pg pr s)) (bc' := 0) (bs' := 0) (fun n g => (And.intro (fun q => absurd q c_1) (fun _ => (And.intro (fun q => absurd q c_2) (fun _ => (And.intro hi_3 (h_8_isDigit _ (((s.2.1 2) (w5).toNatClampNeg)) v_4 _ hr_4 (And.intro (fun _ => (And.intro hi_6 g)) (fun q => absurd c_5 q))))))))) ?_
        refine mm_re (l' := [(0, .ref 1), (1, .int v1), (2, .int v2), (5, .int w5)]) (c := [(0, .ref 1), (1, .int v1), (2, .int v2), (5, .int w5)]) ?_ rfl rfl
        exact xb_8_valueOf_j43 h_8_isDigit s (v1) (v2) (w5) (((((w3 * (27 : Int64)) + (((s.2.1 2) (w5).toNatClampNeg)).toInt64) - (97 : Int64)) + (1 : Int64))) _ hf hK
      · have hf := mo_neg hf c_5
        obtain ⟨x_7, hx_7, hf⟩ := mo_bind hf
        obtain ⟨hi_7, rfl⟩ := mo_ag_inv hx_7
        refine mm_adv 26 (cs' := P_X8_valueOf.drop 43) (l' := [(0, .ref 1), (1, .int v1), (2, .int v2), (3, .long w3), (5, .int w5)]) (st' := [.long (((w3 * (10 : Int64)) + (((s.2.1 2) (w5).toNatClampNeg)).toInt64) - (48 : Int64))]) (h' := (xs_H pt ps pg pr s)) (bc' := 0) (bs' := 0) (fun n g => (And.intro (fun q => absurd q c_1) (fun _ => (And.intro (fun q => absurd q c_2) (fun _ => (And.intro hi_3 (h_8_isDigit _ (((s.2.1 2) (w5).toNatClampNeg)) v_4 _ hr_4 (And.intro (fun q => absurd q c_5) (fun _ => (And.intro hi_7 g)))))))))) ?_
        refine mm_re (l' := [(0, .ref 1), (1, .int v1), (2, .int v2), (5, .int w5)]) (c := [(0, .ref 1), (1, .int v1), (2, .int v2), (5, .int w5)]) ?_ rfl rfl
        exact xb_8_valueOf_j43 h_8_isDigit s (v1) (v2) (w5) ((((w3 * (10 : Int64)) + (((s.2.1 2) (w5).toNatClampNeg)).toInt64) - (48 : Int64))) _ hf hK
noncomputable def xf_8_valueOf (s : xs_S) (a0 : Int32) (a1 : Int32) : Option (Int64 × xs_S) :=
((mo_loop (xf_8_valueOf_l4 (a0) (a1)) ((0 : Int64), a0, s)).bind fun (e3_8, s_8) =>
some (e3_8, s_8))
set_option maxHeartbeats 4000000 in
theorem xb_8_valueOf {C : mm_C} {Q : mm_R} {pt : Value} {ps : Value} {pg : Value} {pr : Value} (h_8_isDigit : xk_8_isDigit C) (s : xs_S) (a0 : Int32) (a1 : Int32) (v : Int64) (s2 : xs_S) (hf : xf_8_valueOf s a0 a1 = some (v, s2)) (hK : Q (some (.long v)) (xs_H pt ps pg pr s2)) : mm_go C mm_Mk mm_Fk P_X8_valueOf Q P_X8_valueOf [(0, .ref 1), (1, .int a0), (2, .int a1)] [] (xs_H pt ps pg pr s) 0 0 := by
  unfold xf_8_valueOf at hf
  obtain ⟨x_8, hl_8, hf⟩ := mo_bind hf
  refine mm_adv 4 (cs' := P_X8_valueOf.drop 4) (l' := [(5, .int a0), (3, .long (0 : Int64)), (0, .ref 1), (1, .int a0), (2, .int a1)]) (st' := []) (h' := (xs_H pt ps pg pr s)) (bc' := 0) (bs' := 0) (fun n g => g) ?_
  refine mm_re (l' := [(0, .ref 1), (1, .int a0), (2, .int a1), (3, .long (0 : Int64)), (5, .int a0)]) (c := [(0, .ref 1), (1, .int a0), (2, .int a1), (3, .long (0 : Int64)), (5, .int a0)]) ?_ rfl rfl
  refine xb_8_valueOf_l4 h_8_isDigit (a0) (a1) ((0 : Int64), a0, s) x_8 hl_8 ?_
  obtain ⟨e3_8, s_8⟩ := x_8
  obtain ⟨rfl, rfl⟩ := mo_pair hf
  exact ⟨2, hK⟩
def xk_8_valueOf (C : mm_C) : Prop := ∀ (pt : Value) (ps : Value) (pg : Value) (pr : Value) (s : xs_S) (a0 : Int32) (a1 : Int32) (v : Int64) (s2 : xs_S) (Q : mm_R), xf_8_valueOf s a0 a1 = some (v, s2) → Q (some (.long v)) (xs_H pt ps pg pr s2) → C 204 [.ref 1, .int a0, .int a1] (xs_H pt ps pg pr s) Q
-- 8_put
noncomputable def xf_8_put (s : xs_S) (a0 : Int32) (a1 : Int32) (a2 : Int64) : Option (xs_S) :=
(if (Int32.ofNat 402) ≤ (s.1 21) then
some s
else
(bif mo_in (s.1 21) 402 then (bif mo_in (s.1 21) 402 then (bif mo_in (s.1 21) 402 then some (xs_sL (xs_sA (xs_sA (xs_sI s 21 (((s.1 21) + (1 : Int32)))) 3 (upd (s.2.1 3) ((s.1 21)).toNatClampNeg (a0))) 4 (upd (s.2.1 4) ((s.1 21)).toNatClampNeg (a1))) 5 (vp_updL (s.2.2.1 5) ((s.1 21)).toNatClampNeg (a2))) else none) else none) else none))
set_option maxHeartbeats 4000000 in
theorem xb_8_put {C : mm_C} {Q : mm_R} {pt : Value} {ps : Value} {pg : Value} {pr : Value}  (s : xs_S) (a0 : Int32) (a1 : Int32) (a2 : Int64) (s2 : xs_S) (hf : xf_8_put s a0 a1 a2 = some s2) (hK : Q (none) (xs_H pt ps pg pr s2)) : mm_go C mm_Mk mm_Fk P_X8_put Q P_X8_put [(0, .ref 1), (1, .int a0), (2, .int a1), (3, .long a2)] [] (xs_H pt ps pg pr s) 0 0 := by
  unfold xf_8_put at hf
  by_cases c_1 : (Int32.ofNat 402) ≤ (s.1 21)
  · have hf := mo_pos hf c_1
    obtain rfl := Option.some.inj hf
    exact ⟨7, (And.intro (fun _ => hK) (fun q => absurd c_1 q))⟩
  · have hf := mo_neg hf c_1
    obtain ⟨hi_2, hf⟩ := mo_if hf
    obtain ⟨hi_3, hf⟩ := mo_if hf
    obtain ⟨hi_4, hf⟩ := mo_if hf
    obtain rfl := Option.some.inj hf
    exact ⟨31, (And.intro (fun q => absurd q c_1) (fun _ => (And.intro hi_2 (And.intro hi_3 (And.intro hi_4 (And.intro trivial hK))))))⟩
def xk_8_put (C : mm_C) : Prop := ∀ (pt : Value) (ps : Value) (pg : Value) (pr : Value) (s : xs_S) (a0 : Int32) (a1 : Int32) (a2 : Int64) (s2 : xs_S) (Q : mm_R), xf_8_put s a0 a1 a2 = some s2 → Q (none) (xs_H pt ps pg pr s2) → C 198 [.ref 1, .int a0, .int a1, .long a2] (xs_H pt ps pg pr s) Q
-- 8_scan
noncomputable def xf_8_scan_l9  : (Int32 × Int32 × xs_S) → Option ((Int32 × Int32 × xs_S) ⊕ ((xs_S) ⊕ (Int32 × xs_S))) := fun (w1, w2, s) =>
(if (400 : Int32) < w2 then
some (.inr (.inr (w1, s)))
else
(if (s.1 17) ≤ w1 then
some (.inr (.inr (w1, s)))
else
((xf_8_endOf s (w1)).bind fun (v_4, s_4) =>
((xf_8_kindOf s_4 (w1) (v_4)).bind fun (v_5, s_5) =>
((xf_8_valueOf s_5 (w1) (v_4)).bind fun (v_6, s_6) =>
((xf_8_put s_6 (v_5) (w1) (v_6)).bind fun s_7 =>
(if v_5 = (33 : Int32) then
some (.inr (.inl (s_7)))
else
((xf_8_afterBlanks s_7 (v_4)).bind fun (v_9, s_9) =>
some (.inl (v_9, (w2 + (1 : Int32)), s_9))))))))))
set_option maxHeartbeats 4000000 in
theorem xb_8_scan_l9 {C : mm_C} {Q : mm_R} {pt : Value} {ps : Value} {pg : Value} {pr : Value} (h_8_afterBlanks : xk_8_afterBlanks C) (h_8_endOf : xk_8_endOf C) (h_8_kindOf : xk_8_kindOf C) (h_8_valueOf : xk_8_valueOf C) (h_8_put : xk_8_put C)  (t : Int32 × Int32 × xs_S) (x : (xs_S) ⊕ (Int32 × xs_S)) (hl : mo_loop (xf_8_scan_l9 ) t = some x) (hK : (mo_sum (fun sy => mm_go C mm_Mk mm_Fk P_X8_scan Q (P_X8_scan.drop 36) [] [] (xs_H pt ps pg pr sy) 0 0) (mo_c2 (fun y1 sy => mm_go C mm_Mk mm_Fk P_X8_scan Q (P_X8_scan.drop 43) [(0, .ref 1), (1, .int y1)] [] (xs_H pt ps pg pr sy) 0 0))) x) : (mo_c2 (fun y1 => (mo_c2 (fun y2 sy => mm_go C mm_Mk mm_Fk P_X8_scan Q (P_X8_scan.drop 9) [(0, .ref 1), (1, .int y1), (2, .int y2)] [] (xs_H pt ps pg pr sy) 0 0)))) t := by
  refine mo_loop_go (G := (mo_c2 (fun y1 => (mo_c2 (fun y2 sy => mm_go C mm_Mk mm_Fk P_X8_scan Q (P_X8_scan.drop 9) [(0, .ref 1), (1, .int y1), (2, .int y2)] [] (xs_H pt ps pg pr sy) 0 0)))) ) (K := (mo_sum (fun sy => mm_go C mm_Mk mm_Fk P_X8_scan Q (P_X8_scan.drop 36) [] [] (xs_H pt ps pg pr sy) 0 0) (mo_c2 (fun y1 sy => mm_go C mm_Mk mm_Fk P_X8_scan Q (P_X8_scan.drop 43) [(0, .ref 1), (1, .int y1)] [] (xs_H pt ps pg pr sy) 0 0))) ) ?_ t x hl hK
  intro t r hf hK
  obtain ⟨w1, w2, s⟩ := t
  unfold xf_8_scan_l9 at hf
  by_cases c_2 : (400 : Int32) < w2
  · have hf := mo_pos hf c_2
    obtain rfl := Option.some.inj hf
    refine mm_adv 3 (cs' := P_X8_scan.drop 43) (l' := [(0, .ref 1), (1, .int w1), (2, .int w2)]) (st' := []) (h' := (xs_H pt ps pg pr s)) (bc' := 0) (bs' := 0) (fun n g => (And.intro (fun _ => g) (fun q => absurd c_2 q))) ?_
    exact mm_re (c := [(0, .ref 1), (1, .int w1)]) hK rfl rfl
  · have hf := mo_neg hf c_2
    by_cases c_3 : (s.1 17) ≤ w1
    · have hf := mo_pos hf c_3
      obtain rfl := Option.some.inj hf
      refine mm_adv 7 (cs' := P_X8_scan.drop 43) (l' := [(0, .ref 1), (1, .int w1), (2, .int w2)]) (st' := []) (h' := (xs_H pt ps pg pr s)) (bc' := 0) (bs' := 0) (fun n g => (And.intro (fun q => absurd q c_2) (fun _ => (And.intro (fun _ => g) (fun q => absurd c_3 q))))) ?_
      exact mm_re (c := [(0, .ref 1), (1, .int w1)]) hK rfl rfl
    · have hf := mo_neg hf c_3
      obtain ⟨r_4, hr_4, hf⟩ := mo_bind hf
      obtain ⟨v_4, s_4⟩ := r_4
      obtain ⟨r_5, hr_5, hf⟩ := mo_bind hf
      obtain ⟨v_5, s_5⟩ := r_5
      obtain ⟨r_6, hr_6, hf⟩ := mo_bind hf
      obtain ⟨v_6, s_6⟩ := r_6
      obtain ⟨s_7, hr_7, hf⟩ := mo_bind hf
      by_cases c_8 : v_5 = (33 : Int32)
      · have hf := mo_pos hf c_8
        obtain rfl := Option.some.inj hf
        refine mm_adv 27 (cs' := P_X8_scan.drop 36) (l' := [(4, .int v_5), (3, .int v_4), (0, .ref 1), (1, .int w1), (2, .int w2)]) (st' := []) (h' := (xs_H pt ps pg pr s_7)) (bc' := 0) (bs' := 0) (fun n g => (And.intro (fun q => absurd q c_2) (fun _ => (And.intro (fun q => absurd q c_3) (fun _ => (h_8_endOf pt ps pg pr s (w1) v_4 s_4 _ hr_4 (h_8_kindOf pt ps pg pr s_4 (w1) (v_4) v_5 s_5 _ hr_5 (h_8_valueOf pt ps pg pr s_5 (w1) (v_4) v_6 s_6 _ hr_6 (h_8_put pt ps pg pr s_6 (v_5) (w1) (v_6) s_7 _ hr_7 (And.intro (fun q => absurd c_8 q) (fun _ => g))))))))))) ?_
        exact mm_re (c := []) hK rfl rfl
      · have hf := mo_neg hf c_8
        obtain ⟨r_9, hr_9, hf⟩ := mo_bind hf
        obtain ⟨v_9, s_9⟩ := r_9
        obtain rfl := Option.some.inj hf
        refine mm_adv 33 (cs' := P_X8_scan.drop 9) (l' := [(2, .int (w2 + (1 : Int32))), (1, .int v_9), (4, .int v_5), (3, .int v_4), (0, .ref 1)]) (st' := []) (h' := (xs_H pt ps pg pr s_9)) (bc' := 0) (bs' := 0) (fun n g => (And.intro (fun q => absurd q c_2) (fun _ => (And.intro (fun q => absurd q c_3) (fun _ => (h_8_endOf pt ps pg pr s (w1) v_4 s_4 _ hr_4 (h_8_kindOf pt ps pg pr s_4 (w1) (v_4) v_5 s_5 _ hr_5 (h_8_valueOf pt ps pg pr s_5 (w1) (v_4) v_6 s_6 _ hr_6 (h_8_put pt ps pg pr s_6 (v_5) (w1) (v_6) s_7 _ hr_7 (And.intro (fun _ => (h_8_afterBlanks pt ps pg pr s_7 (v_4) v_9 s_9 _ hr_9 g)) (fun q => absurd c_8 q))))))))))) ?_
        exact mm_re (c := [(0, .ref 1), (1, .int v_9), (2, .int (w2 + (1 : Int32)))]) hK rfl rfl
noncomputable def xf_8_scan_j43 (s : xs_S) (v1 : Int32) : Option (xs_S) :=
(if v1 < (s.1 17) then
some s
else
((xf_8_put s ((32 : Int32)) ((s.1 17)) ((0 : Int64))).bind fun s_12 =>
some s_12))
set_option maxHeartbeats 4000000 in
theorem xb_8_scan_j43 {C : mm_C} {Q : mm_R} {pt : Value} {ps : Value} {pg : Value} {pr : Value} (h_8_afterBlanks : xk_8_afterBlanks C) (h_8_endOf : xk_8_endOf C) (h_8_kindOf : xk_8_kindOf C) (h_8_valueOf : xk_8_valueOf C) (h_8_put : xk_8_put C) (s : xs_S) (v1 : Int32) (s2 : xs_S) (hf : xf_8_scan_j43 s v1 = some s2) (hK : Q (none) (xs_H pt ps pg pr s2)) : mm_go C mm_Mk mm_Fk P_X8_scan Q (P_X8_scan.drop 43) [(0, .ref 1), (1, .int v1)] [] (xs_H pt ps pg pr s) 0 0 := by
  unfold xf_8_scan_j43 at hf
  by_cases c_11 : v1 < (s.1 17)
  · have hf := mo_pos hf c_11
    obtain rfl := Option.some.inj hf
    exact ⟨5, (And.intro (fun _ => hK) (fun q => absurd c_11 q))⟩
  · have hf := mo_neg hf c_11
    obtain ⟨s_12, hr_12, hf⟩ := mo_bind hf
    obtain rfl := Option.some.inj hf
    exact ⟨11, (And.intro (fun q => absurd q c_11) (fun _ => (h_8_put pt ps pg pr s ((32 : Int32)) ((s.1 17)) ((0 : Int64)) s_12 _ hr_12 hK)))⟩
noncomputable def xf_8_scan (s : xs_S)  : Option (xs_S) :=
((xf_8_afterBlanks (xs_sI s 21 ((0 : Int32))) ((0 : Int32))).bind fun (v_1, s_1) =>
((mo_loop (xf_8_scan_l9 ) (v_1, (0 : Int32), s_1)).bind fun x_10 =>
match x_10 with
| (.inl s_10) => some s_10
| (.inr (e1_10, s_10)) => (xf_8_scan_j43 (s_10) (e1_10))
))
set_option maxHeartbeats 4000000 in
theorem xb_8_scan {C : mm_C} {Q : mm_R} {pt : Value} {ps : Value} {pg : Value} {pr : Value} (h_8_afterBlanks : xk_8_afterBlanks C) (h_8_endOf : xk_8_endOf C) (h_8_kindOf : xk_8_kindOf C) (h_8_valueOf : xk_8_valueOf C) (h_8_put : xk_8_put C) (s : xs_S)  (s2 : xs_S) (hf : xf_8_scan s = some s2) (hK : Q (none) (xs_H pt ps pg pr s2)) : mm_go C mm_Mk mm_Fk P_X8_scan Q P_X8_scan [(0, .ref 1)] [] (xs_H pt ps pg pr s) 0 0 := by
  unfold xf_8_scan at hf
  obtain ⟨r_1, hr_1, hf⟩ := mo_bind hf
  obtain ⟨v_1, s_1⟩ := r_1
  obtain ⟨x_10, hl_10, hf⟩ := mo_bind hf
  refine mm_adv 9 (cs' := P_X8_scan.drop 9) (l' := [(2, .int (0 : Int32)), (1, .int v_1), (0, .ref 1)]) (st' := []) (h' := (xs_H pt ps pg pr s_1)) (bc' := 0) (bs' := 0) (fun n g => (And.intro trivial (h_8_afterBlanks pt ps pg pr (xs_sI s 21 ((0 : Int32))) ((0 : Int32)) v_1 s_1 _ hr_1 g))) ?_
  refine mm_re (l' := [(0, .ref 1), (1, .int v_1), (2, .int (0 : Int32))]) (c := [(0, .ref 1), (1, .int v_1), (2, .int (0 : Int32))]) ?_ rfl rfl
  refine xb_8_scan_l9 h_8_afterBlanks h_8_endOf h_8_kindOf h_8_valueOf h_8_put  (v_1, (0 : Int32), s_1) x_10 hl_10 ?_
  cases x_10 with
  | inl y_10 =>
    obtain ⟨s_10, rfl⟩ : ∃ q, q = y_10 := ⟨_, rfl⟩
    obtain rfl := Option.some.inj hf
    exact ⟨1, hK⟩
  | inr z_10_0 =>
    obtain ⟨e1_10, s_10⟩ := z_10_0
    refine mm_re (l' := [(0, .ref 1), (1, .int e1_10)]) (c := [(0, .ref 1), (1, .int e1_10)]) ?_ rfl rfl
    exact xb_8_scan_j43 h_8_afterBlanks h_8_endOf h_8_kindOf h_8_valueOf h_8_put s_10 (e1_10) _ hf hK
def xk_8_scan (C : mm_C) : Prop := ∀ (pt : Value) (ps : Value) (pg : Value) (pr : Value) (s : xs_S)  (s2 : xs_S) (Q : mm_R), xf_8_scan s = some s2 → Q (none) (xs_H pt ps pg pr s2) → C 197 [.ref 1] (xs_H pt ps pg pr s) Q
