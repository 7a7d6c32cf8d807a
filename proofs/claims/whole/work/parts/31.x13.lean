/-! the class, method by method, 13 -/
-- 9_isWithinLength
noncomputable def xf_9_isWithinLength_l2  : (Int32 × xs_S) → Option ((Int32 × xs_S) ⊕ ((xs_S) ⊕ (xs_S))) := fun (w1, s) =>
(if (s.1 1925) ≤ w1 then
some (.inr (.inr (s)))
else
((mo_ag 20 (s.2.1 121) w1).bind fun x_2 =>
(if x_2 ≤ (s.1 1926) then
some (.inl ((w1 + (1 : Int32)), s))
else
some (.inr (.inl (s))))))
set_option maxHeartbeats 4000000 in
theorem xb_9_isWithinLength_l2 {C : mm_C} {Q : mm_R} {pt : Value} {ps : Value} {pg : Value} {pr : Value}   (t : Int32 × xs_S) (x : (xs_S) ⊕ (xs_S)) (hl : mo_loop (xf_9_isWithinLength_l2 ) t = some x) (hK : (mo_sum (fun sy => mm_go C mm_Mk mm_Fk P_X9_isWithinLength Q (P_X9_isWithinLength.drop 13) [] [] (xs_H pt ps pg pr sy) 0 0) (fun sy => mm_go C mm_Mk mm_Fk P_X9_isWithinLength Q (P_X9_isWithinLength.drop 17) [] [] (xs_H pt ps pg pr sy) 0 0)) x) : (mo_c2 (fun y1 sy => mm_go C mm_Mk mm_Fk P_X9_isWithinLength Q (P_X9_isWithinLength.drop 2) [(0, .ref 120), (1, .int y1)] [] (xs_H pt ps pg pr sy) 0 0)) t := by
  refine mo_loop_go (G := (mo_c2 (fun y1 sy => mm_go C mm_Mk mm_Fk P_X9_isWithinLength Q (P_X9_isWithinLength.drop 2) [(0, .ref 120), (1, .int y1)] [] (xs_H pt ps pg pr sy) 0 0)) ) (K := (mo_sum (fun sy => mm_go C mm_Mk mm_Fk P_X9_isWithinLength Q (P_X9_isWithinLength.drop 13) [] [] (xs_H pt ps pg pr sy) 0 0) (fun sy => mm_go C mm_Mk mm_Fk P_X9_isWithinLength Q (P_X9_isWithinLength.drop 17) [] [] (xs_H pt ps pg pr sy) 0 0)) ) ?_ t x hl hK
  intro t r hf hK
  obtain ⟨w1, s⟩ := t
  unfold xf_9_isWithinLength_l2 at hf
  by_cases c_1 : (s.1 1925) ≤ w1
  · have hf := mo_pos hf c_1
    obtain rfl := Option.some.inj hf
    refine mm_adv 4 (cs' := P_X9_isWithinLength.drop 17) (l' := [(0, .ref 120), (1, .int w1)]) (st' := []) (h' := (xs_H pt ps pg pr s)) (bc' := 0) (bs' := 0) (fun n g => (And.intro (fun _ => g) (fun q => absurd c_1 q))) ?_
    exact mm_re (c := []) hK rfl rfl
  · have hf := mo_neg hf c_1
    obtain ⟨x_2, hx_2, hf⟩ := mo_bind hf
    obtain ⟨hi_2, rfl⟩ := mo_ag_inv hx_2
    by_cases c_3 : ((s.2.1 121) (w1).toNatClampNeg) ≤ (s.1 1926)
    · have hf := mo_pos hf c_3
      obtain rfl := Option.some.inj hf
      refine mm_adv 13 (cs' := P_X9_isWithinLength.drop 2) (l' := [(1, .int (w1 + (1 : Int32))), (0, .ref 120)]) (st' := []) (h' := (xs_H pt ps pg pr s)) (bc' := 0) (bs' := 0) (fun n g => (And.intro (fun q => absurd q c_1) (fun _ => (And.intro hi_2 (And.intro (fun _ => g) (fun q => absurd c_3 q)))))) ?_
      exact mm_re (c := [(0, .ref 120), (1, .int (w1 + (1 : Int32)))]) hK rfl rfl
    · have hf := mo_neg hf c_3
      obtain rfl := Option.some.inj hf
      refine mm_adv 11 (cs' := P_X9_isWithinLength.drop 13) (l' := [(0, .ref 120), (1, .int w1)]) (st' := []) (h' := (xs_H pt ps pg pr s)) (bc' := 0) (bs' := 0) (fun n g => (And.intro (fun q => absurd q c_1) (fun _ => (And.intro hi_2 (And.intro (fun q => absurd q c_3) (fun _ => g)))))) ?_
      exact mm_re (c := []) hK rfl rfl
noncomputable def xf_9_isWithinLength (s : xs_S)  : Option (Int32 × xs_S) :=
((mo_loop (xf_9_isWithinLength_l2 ) ((0 : Int32), s)).bind fun x_4 =>
match x_4 with
| (.inl s_4) => some ((0 : Int32), s_4)
| (.inr s_4) => some ((1 : Int32), s_4)
)
set_option maxHeartbeats 4000000 in
theorem xb_9_isWithinLength {C : mm_C} {Q : mm_R} {pt : Value} {ps : Value} {pg : Value} {pr : Value}  (s : xs_S)  (v : Int32) (s2 : xs_S) (hf : xf_9_isWithinLength s = some (v, s2)) (hK : Q (some (.int v)) (xs_H pt ps pg pr s2)) : mm_go C mm_Mk mm_Fk P_X9_isWithinLength Q P_X9_isWithinLength [(0, .ref 120)] [] (xs_H pt ps pg pr s) 0 0 := by
  unfold xf_9_isWithinLength at hf
  obtain ⟨x_4, hl_4, hf⟩ := mo_bind hf
  refine mm_adv 2 (cs' := P_X9_isWithinLength.drop 2) (l' := [(1, .int (0 : Int32)), (0, .ref 120)]) (st' := []) (h' := (xs_H pt ps pg pr s)) (bc' := 0) (bs' := 0) (fun n g => g) ?_
  refine mm_re (l' := [(0, .ref 120), (1, .int (0 : Int32))]) (c := [(0, .ref 120), (1, .int (0 : Int32))]) ?_ rfl rfl
  refine xb_9_isWithinLength_l2   ((0 : Int32), s) x_4 hl_4 ?_
  cases x_4 with
  | inl y_4 =>
    obtain ⟨s_4, rfl⟩ : ∃ q, q = y_4 := ⟨_, rfl⟩
    obtain ⟨rfl, rfl⟩ := mo_pair hf
    exact ⟨2, (And.intro rfl hK)⟩
  | inr z_4_0 =>
    obtain ⟨s_4, rfl⟩ : ∃ q, q = z_4_0 := ⟨_, rfl⟩
    obtain ⟨rfl, rfl⟩ := mo_pair hf
    exact ⟨2, (And.intro rfl hK)⟩
def xk_9_isWithinLength (C : mm_C) : Prop := ∀ (pt : Value) (ps : Value) (pg : Value) (pr : Value) (s : xs_S)  (v : Int32) (s2 : xs_S) (Q : mm_R), xf_9_isWithinLength s = some (v, s2) → Q (some (.int v)) (xs_H pt ps pg pr s2) → C 214 [.ref 120] (xs_H pt ps pg pr s) Q
-- xr X9_goOn
def xr_9_goOn (rec : xs_S → Int32 → Int32 → Int32 → Option xs_S) (C : mm_C) : Prop := ∀ (pt : Value) (ps : Value) (pr : Value) (s : xs_S) (a0 : Int32) (a1 : Int32) (a2 : Int32) (s2 : xs_S) (Q : mm_R), rec s a0 a1 a2 = some s2 → Q none (xs_H pt ps (.ref 9) pr s2) → C 212 [.ref 120, .int a0, .int a1, .int a2] (xs_H pt ps (.ref 9) pr s) Q
-- 9_agrees
noncomputable def xf_9_agrees_j28 (s : xs_S) (v1 : Int32) (v2 : Int32) (v3 : Int32) : Option ((Int32 × xs_S) ⊕ ((xs_S) ⊕ (xs_S))) :=
some (.inl ((v3 + (1 : Int32)), s))
set_option maxHeartbeats 4000000 in
theorem xb_9_agrees_j28 {C : mm_C} {Q : mm_R} {pt : Value} {ps : Value} {pg : Value} {pr : Value}  (s : xs_S) (v1 : Int32) (v2 : Int32) (v3 : Int32) (r : (Int32 × xs_S) ⊕ ((xs_S) ⊕ (xs_S))) (hf : xf_9_agrees_j28 s v1 v2 v3 = some r) (hK : mo_sum (mo_c2 (fun y3 sy => mm_go C mm_Mk mm_Fk P_X9_agrees Q (P_X9_agrees.drop 2) [(0, .ref 120), (1, .int v1), (2, .int v2), (3, .int y3)] [] (xs_H pt ps pg pr sy) 0 0))  (mo_sum (fun sy => mm_go C mm_Mk mm_Fk P_X9_agrees Q (P_X9_agrees.drop 26) [] [] (xs_H pt ps pg pr sy) 0 0) (fun sy => mm_go C mm_Mk mm_Fk P_X9_agrees Q (P_X9_agrees.drop 30) [] [] (xs_H pt ps pg pr sy) 0 0))  r) : mm_go C mm_Mk mm_Fk P_X9_agrees Q (P_X9_agrees.drop 28) [(0, .ref 120), (1, .int v1), (2, .int v2), (3, .int v3)] [] (xs_H pt ps pg pr s) 0 0 := by
  unfold xf_9_agrees_j28 at hf
  obtain rfl := Option.some.inj hf
  refine mm_adv 2 (cs' := P_X9_agrees.drop 2) (l' := [(3, .int (v3 + (1 : Int32))), (0, .ref 120), (1, .int v1), (2, .int v2)]) (st' := []) (h' := (xs_H pt ps pg pr s)) (bc' := 0) (bs' := 0) (fun n g => g) ?_
  exact mm_re (c := [(0, .ref 120), (1, .int v1), (2, .int v2), (3, .int (v3 + (1 : Int32)))]) hK rfl rfl
noncomputable def xf_9_agrees_j21 (s : xs_S) (v1 : Int32) (v2 : Int32) (v3 : Int32) (k0 : Int32) : Option ((Int32 × xs_S) ⊕ ((xs_S) ⊕ (xs_S))) :=
((mo_ag 20 (s.2.1 123) v3).bind fun x_6 =>
(if k0 = x_6 then
(xf_9_agrees_j28 (s) (v1) (v2) (v3))
else
some (.inr (.inl (s)))))
set_option maxHeartbeats 4000000 in
theorem xb_9_agrees_j21 {C : mm_C} {Q : mm_R} {pt : Value} {ps : Value} {pg : Value} {pr : Value}  (s : xs_S) (v1 : Int32) (v2 : Int32) (v3 : Int32) (k0 : Int32) (r : (Int32 × xs_S) ⊕ ((xs_S) ⊕ (xs_S))) (hf : xf_9_agrees_j21 s v1 v2 v3 k0 = some r) (hK : mo_sum (mo_c2 (fun y3 sy => mm_go C mm_Mk mm_Fk P_X9_agrees Q (P_X9_agrees.drop 2) [(0, .ref 120), (1, .int v1), (2, .int v2), (3, .int y3)] [] (xs_H pt ps pg pr sy) 0 0))  (mo_sum (fun sy => mm_go C mm_Mk mm_Fk P_X9_agrees Q (P_X9_agrees.drop 26) [] [] (xs_H pt ps pg pr sy) 0 0) (fun sy => mm_go C mm_Mk mm_Fk P_X9_agrees Q (P_X9_agrees.drop 30) [] [] (xs_H pt ps pg pr sy) 0 0))  r) : mm_go C mm_Mk mm_Fk P_X9_agrees Q (P_X9_agrees.drop 21) [(0, .ref 120), (1, .int v1), (2, .int v2), (3, .int v3)] [.int k0] (xs_H pt ps pg pr s) 0 0 := by
  unfold xf_9_agrees_j21 at hf
  obtain ⟨x_6, hx_6, hf⟩ := mo_bind hf
  obtain ⟨hi_6, rfl⟩ := mo_ag_inv hx_6
  by_cases c_7 : k0 = ((s.2.1 123) (v3).toNatClampNeg)
  · have hf := mo_pos hf c_7
    refine mm_adv 5 (cs' := P_X9_agrees.drop 28) (l' := [(0, .ref 120), (1, .int v1), (2, .int v2), (3, .int v3)]) (st' := []) (h' := (xs_H pt ps pg pr s)) (bc' := 0) (bs' := 0) (fun n g => (And.intro hi_6 (And.intro (fun _ => g) (fun q => absurd c_7 q)))) ?_
    refine mm_re (l' := [(0, .ref 120), (1, .int v1), (2, .int v2), (3, .int v3)]) (c := [(0, .ref 120), (1, .int v1), (2, .int v2), (3, .int v3)]) ?_ rfl rfl
    exact xb_9_agrees_j28  s (v1) (v2) (v3) _ hf hK
  · have hf := mo_neg hf c_7
    obtain rfl := Option.some.inj hf
    refine mm_adv 5 (cs' := P_X9_agrees.drop 26) (l' := [(0, .ref 120), (1, .int v1), (2, .int v2), (3, .int v3)]) (st' := []) (h' := (xs_H pt ps pg pr s)) (bc' := 0) (bs' := 0) (fun n g => (And.intro hi_6 (And.intro (fun q => absurd q c_7) (fun _ => g)))) ?_
    exact mm_re (c := []) hK rfl rfl
noncomputable def xf_9_agrees_l2 (v1 : Int32) (v2 : Int32) : (Int32 × xs_S) → Option ((Int32 × xs_S) ⊕ ((xs_S) ⊕ (xs_S))) := fun (w3, s) =>
(if (s.1 1925) ≤ w3 then
some (.inr (.inr (s)))
else
((mo_ag 20 (s.2.1 121) w3).bind fun x_2 =>
(if x_2 = v1 then
((mo_ag 20 (s.2.1 122) w3).bind fun x_4 =>
(if v2 < x_4 then
(xf_9_agrees_j21 (s) (v1) (v2) (w3) ((0 : Int32)))
else
(xf_9_agrees_j21 (s) (v1) (v2) (w3) ((1 : Int32)))))
else
(xf_9_agrees_j28 (s) (v1) (v2) (w3)))))
set_option maxHeartbeats 4000000 in
theorem xb_9_agrees_l2 {C : mm_C} {Q : mm_R} {pt : Value} {ps : Value} {pg : Value} {pr : Value}  (v1 : Int32) (v2 : Int32) (t : Int32 × xs_S) (x : (xs_S) ⊕ (xs_S)) (hl : mo_loop (xf_9_agrees_l2 v1 v2) t = some x) (hK : (mo_sum (fun sy => mm_go C mm_Mk mm_Fk P_X9_agrees Q (P_X9_agrees.drop 26) [] [] (xs_H pt ps pg pr sy) 0 0) (fun sy => mm_go C mm_Mk mm_Fk P_X9_agrees Q (P_X9_agrees.drop 30) [] [] (xs_H pt ps pg pr sy) 0 0)) x) : (mo_c2 (fun y3 sy => mm_go C mm_Mk mm_Fk P_X9_agrees Q (P_X9_agrees.drop 2) [(0, .ref 120), (1, .int v1), (2, .int v2), (3, .int y3)] [] (xs_H pt ps pg pr sy) 0 0)) t := by
  refine mo_loop_go (G := (mo_c2 (fun y3 sy => mm_go C mm_Mk mm_Fk P_X9_agrees Q (P_X9_agrees.drop 2) [(0, .ref 120), (1, .int v1), (2, .int v2), (3, .int y3)] [] (xs_H pt ps pg pr sy) 0 0)) ) (K := (mo_sum (fun sy => mm_go C mm_Mk mm_Fk P_X9_agrees Q (P_X9_agrees.drop 26) [] [] (xs_H pt ps pg pr sy) 0 0) (fun sy => mm_go C mm_Mk mm_Fk P_X9_agrees Q (P_X9_agrees.drop 30) [] [] (xs_H pt ps pg pr sy) 0 0)) ) ?_ t x hl hK
  intro t r hf hK
  obtain ⟨w3, s⟩ := t
  unfold xf_9_agrees_l2 at hf
  by_cases c_1 : (s.1 1925) ≤ w3
  · have hf := mo_pos hf c_1
    obtain rfl := Option.some.inj hf
    refine mm_adv 4 (cs' := P_X9_agrees.drop 30) (l' := [(0, .ref 120), (1, .int v1), (2, .int v2), (3, .int w3)]) (st' := []) (h' := (xs_H pt ps pg pr s)) (bc' := 0) (bs' := 0) (fun n g => (And.intro (fun _ => g) (fun q => absurd c_1 q))) ?_
    exact mm_re (c := []) hK rfl rfl
  · have hf := mo_neg hf c_1
    obtain ⟨x_2, hx_2, hf⟩ := mo_bind hf
    obtain ⟨hi_2, rfl⟩ := mo_ag_inv hx_2
    by_cases c_3 : ((s.2.1 121) (w3).toNatClampNeg) = v1
    · have hf := mo_pos hf c_3
      obtain ⟨x_4, hx_4, hf⟩ := mo_bind hf
      obtain ⟨hi_4, rfl⟩ := mo_ag_inv hx_4
      by_cases c_5 : v2 < ((s.2.1 122) (w3).toNatClampNeg)
      · have hf := mo_pos hf c_5
        refine mm_adv 17 (cs' := P_X9_agrees.drop 21) (l' := [(0, .ref 120), (1, .int v1), (2, .int v2), (3, .int w3)]) (st' := [.int (0 : Int32)]) (h' := (xs_H pt ps pg pr s)) (bc' := 0) (bs' := 0) (fun n g => (And.intro (fun q => absurd q c_1) (fun _ => (And.intro hi_2 (And.intro (fun q => absurd c_3 q) (fun _ => (And.intro hi_4 (And.intro (fun _ => g) (fun q => absurd c_5 q))))))))) ?_
        refine mm_re (l' := [(0, .ref 120), (1, .int v1), (2, .int v2), (3, .int w3)]) (c := [(0, .ref 120), (1, .int v1), (2, .int v2), (3, .int w3)]) ?_ rfl rfl
        exact xb_9_agrees_j21  s (v1) (v2) (w3) ((0 : Int32)) _ hf hK
      · have hf := mo_neg hf c_5
        refine mm_adv 18 (cs' := P_X9_agrees.drop 21) (l' := [(0, .ref 120), (1, .int v1), (2, .int v2), (3, .int w3)]) (st' := [.int (1 : Int32)]) (h' := (xs_H pt ps pg pr s)) (bc' := 0) (bs' := 0) (fun n g => (And.intro (fun q => absurd q c_1) (fun _ => (And.intro hi_2 (And.intro (fun q => absurd c_3 q) (fun _ => (And.intro hi_4 (And.intro (fun q => absurd q c_5) (fun _ => g))))))))) ?_
        refine mm_re (l' := [(0, .ref 120), (1, .int v1), (2, .int v2), (3, .int w3)]) (c := [(0, .ref 120), (1, .int v1), (2, .int v2), (3, .int w3)]) ?_ rfl rfl
        exact xb_9_agrees_j21  s (v1) (v2) (w3) ((1 : Int32)) _ hf hK
    · have hf := mo_neg hf c_3
      refine mm_adv 10 (cs' := P_X9_agrees.drop 28) (l' := [(0, .ref 120), (1, .int v1), (2, .int v2), (3, .int w3)]) (st' := []) (h' := (xs_H pt ps pg pr s)) (bc' := 0) (bs' := 0) (fun n g => (And.intro (fun q => absurd q c_1) (fun _ => (And.intro hi_2 (And.intro (fun _ => g) (fun q => absurd c_3 q)))))) ?_
      refine mm_re (l' := [(0, .ref 120), (1, .int v1), (2, .int v2), (3, .int w3)]) (c := [(0, .ref 120), (1, .int v1), (2, .int v2), (3, .int w3)]) ?_ rfl rfl
      exact xb_9_agrees_j28  s (v1) (v2) (w3) _ hf hK
noncomputable def xf_9_agrees (s : xs_S) (a0 : Int32) (a1 : Int32) : Option (Int32 × xs_S) :=
((mo_loop (xf_9_agrees_l2 (a0) (a1)) ((0 : Int32), s)).bind fun x_8 =>
match x_8 with
| (.inl s_8) => some ((0 : Int32), s_8)
| (.inr s_8) => some ((1 : Int32), s_8)
)
set_option maxHeartbeats 4000000 in
theorem xb_9_agrees {C : mm_C} {Q : mm_R} {pt : Value} {ps : Value} {pg : Value} {pr : Value}  (s : xs_S) (a0 : Int32) (a1 : Int32) (v : Int32) (s2 : xs_S) (hf : xf_9_agrees s a0 a1 = some (v, s2)) (hK : Q (some (.int v)) (xs_H pt ps pg pr s2)) : mm_go C mm_Mk mm_Fk P_X9_agrees Q P_X9_agrees [(0, .ref 120), (1, .int a0), (2, .int a1)] [] (xs_H pt ps pg pr s) 0 0 := by
  unfold xf_9_agrees at hf
  obtain ⟨x_8, hl_8, hf⟩ := mo_bind hf
  refine mm_adv 2 (cs' := P_X9_agrees.drop 2) (l' := [(3, .int (0 : Int32)), (0, .ref 120), (1, .int a0), (2, .int a1)]) (st' := []) (h' := (xs_H pt ps pg pr s)) (bc' := 0) (bs' := 0) (fun n g => g) ?_
  refine mm_re (l' := [(0, .ref 120), (1, .int a0), (2, .int a1), (3, .int (0 : Int32))]) (c := [(0, .ref 120), (1, .int a0), (2, .int a1), (3, .int (0 : Int32))]) ?_ rfl rfl
  refine xb_9_agrees_l2  (a0) (a1) ((0 : Int32), s) x_8 hl_8 ?_
  cases x_8 with
  | inl y_8 =>
    obtain ⟨s_8, rfl⟩ : ∃ q, q = y_8 := ⟨_, rfl⟩
    obtain ⟨rfl, rfl⟩ := mo_pair hf
    exact ⟨2, (And.intro rfl hK)⟩
  | inr z_8_0 =>
    obtain ⟨s_8, rfl⟩ : ∃ q, q = z_8_0 := ⟨_, rfl⟩
    obtain ⟨rfl, rfl⟩ := mo_pair hf
    exact ⟨2, (And.intro rfl hK)⟩
def xk_9_agrees (C : mm_C) : Prop := ∀ (pt : Value) (ps : Value) (pg : Value) (pr : Value) (s : xs_S) (a0 : Int32) (a1 : Int32) (v : Int32) (s2 : xs_S) (Q : mm_R), xf_9_agrees s a0 a1 = some (v, s2) → Q (some (.int v)) (xs_H pt ps pg pr s2) → C 215 [.ref 120, .int a0, .int a1] (xs_H pt ps pg pr s) Q
-- 9_takeIn
noncomputable def xf_9_takeIn_j33 (s : xs_S) (v2 : Int32) : Option ((Int32 × xs_S) ⊕ ((xs_S))) :=
some (.inl ((v2 + (1 : Int32)), s))
set_option maxHeartbeats 4000000 in
theorem xb_9_takeIn_j33 {C : mm_C} {Q : mm_R} {pt : Value} {ps : Value} {pg : Value} {pr : Value}  (s : xs_S) (v2 : Int32) (r : (Int32 × xs_S) ⊕ ((xs_S))) (hf : xf_9_takeIn_j33 s v2 = some r) (hK : mo_sum (mo_c2 (fun y2 sy => mm_go C mm_Mk mm_Fk P_X9_takeIn Q (P_X9_takeIn.drop 14) [(0, .ref 120), (2, .int y2)] [] (xs_H pt ps pg pr sy) 0 0))  (fun sy => mm_go C mm_Mk mm_Fk P_X9_takeIn Q (P_X9_takeIn.drop 35) [] [] (xs_H pt ps pg pr sy) 0 0)  r) : mm_go C mm_Mk mm_Fk P_X9_takeIn Q (P_X9_takeIn.drop 33) [(0, .ref 120), (2, .int v2)] [] (xs_H pt ps pg pr s) 0 0 := by
  unfold xf_9_takeIn_j33 at hf
  obtain rfl := Option.some.inj hf
  refine mm_adv 2 (cs' := P_X9_takeIn.drop 14) (l' := [(2, .int (v2 + (1 : Int32))), (0, .ref 120)]) (st' := []) (h' := (xs_H pt ps pg pr s)) (bc' := 0) (bs' := 0) (fun n g => g) ?_
  exact mm_re (c := [(0, .ref 120), (2, .int (v2 + (1 : Int32)))]) hK rfl rfl
noncomputable def xf_9_takeIn_l14  : (Int32 × xs_S) → Option ((Int32 × xs_S) ⊕ ((xs_S))) := fun (w2, s) =>
(if (s.1 1926) < w2 then
some (.inr (s))
else
((mo_ag 6 (s.2.1 124) w2).bind fun x_3 =>
(if x_3 < (s.1 1927) then
(xf_9_takeIn_j33 (s) (w2))
else
((mo_ag 6 (s.2.1 125) w2).bind fun x_5 =>
(bif mo_in w2 6 then (xf_9_takeIn_j33 ((xs_sA s 125 (upd (s.2.1 125) (w2).toNatClampNeg ((x_5 + (1 : Int32)))))) (w2)) else none)))))
set_option maxHeartbeats 4000000 in
theorem xb_9_takeIn_l14 {C : mm_C} {Q : mm_R} {pt : Value} {ps : Value} {pg : Value} {pr : Value}   (t : Int32 × xs_S) (x : (xs_S)) (hl : mo_loop (xf_9_takeIn_l14 ) t = some x) (hK : (fun sy => mm_go C mm_Mk mm_Fk P_X9_takeIn Q (P_X9_takeIn.drop 35) [] [] (xs_H pt ps pg pr sy) 0 0) x) : (mo_c2 (fun y2 sy => mm_go C mm_Mk mm_Fk P_X9_takeIn Q (P_X9_takeIn.drop 14) [(0, .ref 120), (2, .int y2)] [] (xs_H pt ps pg pr sy) 0 0)) t := by
  refine mo_loop_go (G := (mo_c2 (fun y2 sy => mm_go C mm_Mk mm_Fk P_X9_takeIn Q (P_X9_takeIn.drop 14) [(0, .ref 120), (2, .int y2)] [] (xs_H pt ps pg pr sy) 0 0)) ) (K := (fun sy => mm_go C mm_Mk mm_Fk P_X9_takeIn Q (P_X9_takeIn.drop 35) [] [] (xs_H pt ps pg pr sy) 0 0) ) ?_ t x hl hK
  intro t r hf hK
  obtain ⟨w2, s⟩ := t
  unfold xf_9_takeIn_l14 at hf
  by_cases c_2 : (s.1 1926) < w2
  · have hf := mo_pos hf c_2
    obtain rfl := Option.some.inj hf
    refine mm_adv 4 (cs' := P_X9_takeIn.drop 35) (l' := [(0, .ref 120), (2, .int w2)]) (st' := []) (h' := (xs_H pt ps pg pr s)) (bc' := 0) (bs' := 0) (fun n g => (And.intro (fun _ => g) (fun q => absurd c_2 q))) ?_
    exact mm_re (c := []) hK rfl rfl
  · have hf := mo_neg hf c_2
    obtain ⟨x_3, hx_3, hf⟩ := mo_bind hf
    obtain ⟨hi_3, rfl⟩ := mo_ag_inv hx_3
    by_cases c_4 : ((s.2.1 124) (w2).toNatClampNeg) < (s.1 1927)
    · have hf := mo_pos hf c_4
      refine mm_adv 11 (cs' := P_X9_takeIn.drop 33) (l' := [(0, .ref 120), (2, .int w2)]) (st' := []) (h' := (xs_H pt ps pg pr s)) (bc' := 0) (bs' := 0) (fun n g => (And.intro (fun q => absurd q c_2) (fun _ => (And.intro hi_3 (And.intro (fun _ => g) (fun q => absurd c_4 q)))))) ?_
      refine mm_re (l' := [(0, .ref 120), (2, .int w2)]) (c := [(0, .ref 120), (2, .int w2)]) ?_ rfl rfl
      exact xb_9_takeIn_j33  s (w2) _ hf hK
    · have hf := mo_neg hf c_4
      obtain ⟨x_5, hx_5, hf⟩ := mo_bind hf
      obtain ⟨hi_5, rfl⟩ := mo_ag_inv hx_5
      obtain ⟨hi_6, hf⟩ := mo_if hf
      refine mm_adv 19 (cs' := P_X9_takeIn.drop 33) (l' := [(0, .ref 120), (2, .int w2)]) (st' := []) (h' := (xs_H pt ps pg pr (xs_sA s 125 (upd (s.2.1 125) (w2).toNatClampNeg ((((s.2.1 125) (w2).toNatClampNeg) + (1 : Int32))))))) (bc' := 0) (bs' := 0) (fun n g => (And.intro (fun q => absurd q c_2) (fun _ => (And.intro hi_3 (And.intro (fun q => absurd q c_4) (fun _ => (And.intro hi_5 (And.intro hi_6 g)))))))) ?_
      refine mm_re (l' := [(0, .ref 120), (2, .int w2)]) (c := [(0, .ref 120), (2, .int w2)]) ?_ rfl rfl
      exact xb_9_takeIn_j33  (xs_sA s 125 (upd (s.2.1 125) (w2).toNatClampNeg ((((s.2.1 125) (w2).toNatClampNeg) + (1 : Int32))))) (w2) _ hf hK
noncomputable def xf_9_takeIn_j6 (s : xs_S)  : Option (xs_S) :=
((mo_loop (xf_9_takeIn_l14 ) ((1 : Int32), (xs_sI s 1928 (((s.1 1928) + (1 : Int32)))))).bind fun s_7 =>
some s_7)
set_option maxHeartbeats 4000000 in
theorem xb_9_takeIn_j6 {C : mm_C} {Q : mm_R} {pt : Value} {ps : Value} {pg : Value} {pr : Value}  (s : xs_S)  (s2 : xs_S) (hf : xf_9_takeIn_j6 s = some s2) (hK : Q (none) (xs_H pt ps pg pr s2)) : mm_go C mm_Mk mm_Fk P_X9_takeIn Q (P_X9_takeIn.drop 6) [(0, .ref 120)] [] (xs_H pt ps pg pr s) 0 0 := by
  unfold xf_9_takeIn_j6 at hf
  obtain ⟨x_7, hl_7, hf⟩ := mo_bind hf
  refine mm_adv 8 (cs' := P_X9_takeIn.drop 14) (l' := [(2, .int (1 : Int32)), (0, .ref 120)]) (st' := []) (h' := (xs_H pt ps pg pr (xs_sI s 1928 (((s.1 1928) + (1 : Int32)))))) (bc' := 0) (bs' := 0) (fun n g => (And.intro trivial g)) ?_
  refine mm_re (l' := [(0, .ref 120), (2, .int (1 : Int32))]) (c := [(0, .ref 120), (2, .int (1 : Int32))]) ?_ rfl rfl
  refine xb_9_takeIn_l14   ((1 : Int32), (xs_sI s 1928 (((s.1 1928) + (1 : Int32))))) x_7 hl_7 ?_
  obtain ⟨s_7, rfl⟩ : ∃ q, q = x_7 := ⟨_, rfl⟩
  obtain rfl := Option.some.inj hf
  exact ⟨1, hK⟩
noncomputable def xf_9_takeIn (s : xs_S) (a0 : Int32) : Option (xs_S) :=
(if (s.1 1928) = (0 : Int32) then
(xf_9_takeIn_j6 ((xs_sI s 1929 (a0))))
else
(xf_9_takeIn_j6 (s)))
set_option maxHeartbeats 4000000 in
theorem xb_9_takeIn {C : mm_C} {Q : mm_R} {pt : Value} {ps : Value} {pg : Value} {pr : Value}  (s : xs_S) (a0 : Int32) (s2 : xs_S) (hf : xf_9_takeIn s a0 = some s2) (hK : Q (none) (xs_H pt ps pg pr s2)) : mm_go C mm_Mk mm_Fk P_X9_takeIn Q P_X9_takeIn [(0, .ref 120), (1, .int a0)] [] (xs_H pt ps pg pr s) 0 0 := by
  unfold xf_9_takeIn at hf
  by_cases c_1 : (s.1 1928) = (0 : Int32)
  · have hf := mo_pos hf c_1
    refine mm_adv 6 (cs' := P_X9_takeIn.drop 6) (l' := [(0, .ref 120), (1, .int a0)]) (st' := []) (h' := (xs_H pt ps pg pr (xs_sI s 1929 (a0)))) (bc' := 0) (bs' := 0) (fun n g => (And.intro (fun q => absurd c_1 q) (fun _ => (And.intro trivial g)))) ?_
    refine mm_re (l' := [(0, .ref 120)]) (c := [(0, .ref 120)]) ?_ rfl rfl
    exact xb_9_takeIn_j6  (xs_sI s 1929 (a0)) _ hf hK
  · have hf := mo_neg hf c_1
    refine mm_adv 3 (cs' := P_X9_takeIn.drop 6) (l' := [(0, .ref 120), (1, .int a0)]) (st' := []) (h' := (xs_H pt ps pg pr s)) (bc' := 0) (bs' := 0) (fun n g => (And.intro (fun _ => g) (fun q => absurd c_1 q))) ?_
    refine mm_re (l' := [(0, .ref 120)]) (c := [(0, .ref 120)]) ?_ rfl rfl
    exact xb_9_takeIn_j6  s _ hf hK
def xk_9_takeIn (C : mm_C) : Prop := ∀ (pt : Value) (ps : Value) (pg : Value) (pr : Value) (s : xs_S) (a0 : Int32) (s2 : xs_S) (Q : mm_R), xf_9_takeIn s a0 = some s2 → Q (none) (xs_H pt ps pg pr s2) → C 213 [.ref 120, .int a0] (xs_H pt ps pg pr s) Q
-- 9_goOn
noncomputable def xg_9_goOn_j54 (rec : xs_S → Int32 → Int32 → Int32 → Option xs_S) (s : xs_S) (v1 : Int32) (v2 : Int32) (v3 : Int32) (v4 : Int32) : Option ((Int32 × xs_S) ⊕ ((xs_S))) :=
some (.inl ((v4 + (1 : Int32)), s))
set_option maxHeartbeats 4000000 in
theorem xb_9_goOn_j54 {C : mm_C} {Q : mm_R} {pt : Value} {ps : Value} {pr : Value} {rec : xs_S → Int32 → Int32 → Int32 → Option xs_S} (hrec : xr_9_goOn rec C) (h_1_open : xk_1_open C) (h_1_after : xk_1_after C) (h_11_slopeOf : xk_11_slopeOf C) (h_9_agrees : xk_9_agrees C) (h_9_takeIn : xk_9_takeIn C) (s : xs_S) (v1 : Int32) (v2 : Int32) (v3 : Int32) (v4 : Int32) (r : (Int32 × xs_S) ⊕ ((xs_S))) (hf : xg_9_goOn_j54 rec s v1 v2 v3 v4 = some r) (hK : mo_sum (mo_c2 (fun y4 sy => mm_go C mm_Mk mm_Fk P_X9_goOn Q (P_X9_goOn.drop 14) [(0, .ref 120), (1, .int v1), (2, .int v2), (3, .int v3), (4, .int y4)] [] (xs_H pt ps (.ref 9) pr sy) 0 0))  (fun sy => mm_go C mm_Mk mm_Fk P_X9_goOn Q (P_X9_goOn.drop 56) [] [] (xs_H pt ps (.ref 9) pr sy) 0 0)  r) : mm_go C mm_Mk mm_Fk P_X9_goOn Q (P_X9_goOn.drop 54) [(0, .ref 120), (1, .int v1), (2, .int v2), (3, .int v3), (4, .int v4)] [] (xs_H pt ps (.ref 9) pr s) 0 0 := by
  unfold xg_9_goOn_j54 at hf
  obtain rfl := Option.some.inj hf
  refine mm_adv 2 (cs' := P_X9_goOn.drop 14) (l' := [(4, .int (v4 + (1 : Int32))), (0, .ref 120), (1, .int v1), (2, .int v2), (3, .int v3)]) (st' := []) (h' := (xs_H pt ps (.ref 9) pr s)) (bc' := 0) (bs' := 0) (fun n g => g) ?_
  exact mm_re (c := [(0, .ref 120), (1, .int v1), (2, .int v2), (3, .int v3), (4, .int (v4 + (1 : Int32)))]) hK rfl rfl
noncomputable def xg_9_goOn_l14 (rec : xs_S → Int32 → Int32 → Int32 → Option xs_S) (v1 : Int32) (v2 : Int32) (v3 : Int32) : (Int32 × xs_S) → Option ((Int32 × xs_S) ⊕ ((xs_S))) := fun (w4, s) =>
(if (7 : Int32) ≤ w4 then
some (.inr (s))
else
((xf_1_after s (v1) (w4) ((0 : Int32))).bind fun (v_4, s_4) =>
(if v_4 = (-1 : Int32) then
(xg_9_goOn_j54 rec (s_4) (v1) (v2) (v3) (w4))
else
((xf_11_slopeOf (v_4)).bind fun v_6 =>
((xf_9_agrees s_4 ((v2 + (1 : Int32))) (v_6)).bind fun (v_7, s_7) =>
(if v_7 = (0 : Int32) then
(xg_9_goOn_j54 rec (s_7) (v1) (v2) (v3) (w4))
else
((xf_11_slopeOf (v_4)).bind fun v_9 =>
(bif mo_in (v2 + (1 : Int32)) 6 then ((rec (xs_sA s_7 124 (upd (s_7.2.1 124) ((v2 + (1 : Int32))).toNatClampNeg (v_9))) (v_4) ((v2 + (1 : Int32))) (((v3 * (7 : Int32)) + w4))).bind fun s_11 =>
(xg_9_goOn_j54 rec (s_11) (v1) (v2) (v3) (w4))) else none))))))))
set_option maxHeartbeats 4000000 in
theorem xb_9_goOn_l14 {C : mm_C} {Q : mm_R} {pt : Value} {ps : Value} {pr : Value} {rec : xs_S → Int32 → Int32 → Int32 → Option xs_S} (hrec : xr_9_goOn rec C) (h_1_open : xk_1_open C) (h_1_after : xk_1_after C) (h_11_slopeOf : xk_11_slopeOf C) (h_9_agrees : xk_9_agrees C) (h_9_takeIn : xk_9_takeIn C) (v1 : Int32) (v2 : Int32) (v3 : Int32) (t : Int32 × xs_S) (x : (xs_S)) (hl : mo_loop (xg_9_goOn_l14 rec v1 v2 v3) t = some x) (hK : (fun sy => mm_go C mm_Mk mm_Fk P_X9_goOn Q (P_X9_goOn.drop 56) [] [] (xs_H pt ps (.ref 9) pr sy) 0 0) x) : (mo_c2 (fun y4 sy => mm_go C mm_Mk mm_Fk P_X9_goOn Q (P_X9_goOn.drop 14) [(0, .ref 120), (1, .int v1), (2, .int v2), (3, .int v3), (4, .int y4)] [] (xs_H pt ps (.ref 9) pr sy) 0 0)) t := by
  refine mo_loop_go (G := (mo_c2 (fun y4 sy => mm_go C mm_Mk mm_Fk P_X9_goOn Q (P_X9_goOn.drop 14) [(0, .ref 120), (1, .int v1), (2, .int v2), (3, .int v3), (4, .int y4)] [] (xs_H pt ps (.ref 9) pr sy) 0 0)) ) (K := (fun sy => mm_go C mm_Mk mm_Fk P_X9_goOn Q (P_X9_goOn.drop 56) [] [] (xs_H pt ps (.ref 9) pr sy) 0 0) ) ?_ t x hl hK
  intro t r hf hK
  obtain ⟨w4, s⟩ := t
  unfold xg_9_goOn_l14 at hf
  by_cases c_3 : (7 : Int32) ≤ w4
  · have hf := mo_pos hf c_3
    obtain rfl := Option.some.inj hf
    refine mm_adv 3 (cs' := P_X9_goOn.drop 56) (l' := [(0, .ref 120), (1, .int v1), (2, .int v2), (3, .int v3), (4, .int w4)]) (st' := []) (h' := (xs_H pt ps (.ref 9) pr s)) (bc' := 0) (bs' := 0) (fun n g => (And.intro (fun _ => g) (fun q => absurd c_3 q))) ?_
    exact mm_re (c := []) hK rfl rfl
  · have hf := mo_neg hf c_3
    obtain ⟨r_4, hr_4, hf⟩ := mo_bind hf
    obtain ⟨v_4, s_4⟩ := r_4
    by_cases c_5 : v_4 = (-1 : Int32)
    · have hf := mo_pos hf c_5
      refine mm_adv 13 (cs' := P_X9_goOn.drop 54) (l' := [(5, .int v_4), (0, .ref 120), (1, .int v1), (2, .int v2), (3, .int v3), (4, .int w4)]) (st' := []) (h' := (xs_H pt ps (.ref 9) pr s_4)) (bc' := 0) (bs' := 0) (fun n g => (And.intro (fun q => absurd q c_3) (fun _ => (h_1_after pt ps (.ref 9) pr s (v1) (w4) ((0 : Int32)) v_4 s_4 _ hr_4 (And.intro (fun _ => g) (fun q => absurd c_5 q)))))) ?_
      refine mm_re (l' := [(0, .ref 120), (1, .int v1), (2, .int v2), (3, .int v3), (4, .int w4)]) (c := [(0, .ref 120), (1, .int v1), (2, .int v2), (3, .int v3), (4, .int w4)]) ?_ rfl rfl
      exact xb_9_goOn_j54 hrec h_1_open h_1_after h_11_slopeOf h_9_agrees h_9_takeIn s_4 (v1) (v2) (v3) (w4) _ hf hK
    · have hf := mo_neg hf c_5
      obtain ⟨v_6, hr_6, hf⟩ := mo_bind hf
      obtain ⟨r_7, hr_7, hf⟩ := mo_bind hf
      obtain ⟨v_7, s_7⟩ := r_7
      by_cases c_8 : v_7 = (0 : Int32)
      · have hf := mo_pos hf c_8
        refine mm_adv 21 (cs' := P_X9_goOn.drop 54) (l' := [(5, .int v_4), (0, .ref 120), (1, .int v1), (2, .int v2), (3, .int v3), (4, .int w4)]) (st' := []) (h' := (xs_H pt ps (.ref 9) pr s_7)) (bc' := 0) (bs' := 0) (fun n g => (And.intro (fun q => absurd q c_3) (fun _ => (h_1_after pt ps (.ref 9) pr s (v1) (w4) ((0 : Int32)) v_4 s_4 _ hr_4 (And.intro (fun q => absurd q c_5) (fun _ => (h_11_slopeOf _ (v_4) v_6 _ hr_6 (h_9_agrees pt ps (.ref 9) pr s_4 ((v2 + (1 : Int32))) (v_6) v_7 s_7 _ hr_7 (And.intro (fun _ => g) (fun q => absurd c_8 q)))))))))) ?_
        refine mm_re (l' := [(0, .ref 120), (1, .int v1), (2, .int v2), (3, .int v3), (4, .int w4)]) (c := [(0, .ref 120), (1, .int v1), (2, .int v2), (3, .int v3), (4, .int w4)]) ?_ rfl rfl
        exact xb_9_goOn_j54 hrec h_1_open h_1_after h_11_slopeOf h_9_agrees h_9_takeIn s_7 (v1) (v2) (v3) (w4) _ hf hK
      · have hf := mo_neg hf c_8
        obtain ⟨v_9, hr_9, hf⟩ := mo_bind hf
        obtain ⟨hi_10, hf⟩ := mo_if hf
        obtain ⟨s_11, hr_11, hf⟩ := mo_bind hf
        refine mm_adv 40 (cs' := P_X9_goOn.drop 54) (l' := [(5, .int v_4), (0, .ref 120), (1, .int v1), (2, .int v2), (3, .int v3), (4, .int w4)]) (st' := []) (h' := (xs_H pt ps (.ref 9) pr s_11)) (bc' := 0) (bs' := 0) (fun n g => (And.intro (fun q => absurd q c_3) (fun _ => (h_1_after pt ps (.ref 9) pr s (v1) (w4) ((0 : Int32)) v_4 s_4 _ hr_4 (And.intro (fun q => absurd q c_5) (fun _ => (h_11_slopeOf _ (v_4) v_6 _ hr_6 (h_9_agrees pt ps (.ref 9) pr s_4 ((v2 + (1 : Int32))) (v_6) v_7 s_7 _ hr_7 (And.intro (fun q => absurd q c_8) (fun _ => (h_11_slopeOf _ (v_4) v_9 _ hr_9 (And.intro hi_10 (hrec pt ps pr (xs_sA s_7 124 (upd (s_7.2.1 124) ((v2 + (1 : Int32))).toNatClampNeg (v_9))) (v_4) ((v2 + (1 : Int32))) (((v3 * (7 : Int32)) + w4)) s_11 _ hr_11 g))))))))))))) ?_
        refine mm_re (l' := [(0, .ref 120), (1, .int v1), (2, .int v2), (3, .int v3), (4, .int w4)]) (c := [(0, .ref 120), (1, .int v1), (2, .int v2), (3, .int v3), (4, .int w4)]) ?_ rfl rfl
        exact xb_9_goOn_j54 hrec h_1_open h_1_after h_11_slopeOf h_9_agrees h_9_takeIn s_11 (v1) (v2) (v3) (w4) _ hf hK
noncomputable def xg_9_goOn (rec : xs_S → Int32 → Int32 → Int32 → Option xs_S) (s : xs_S) (a0 : Int32) (a1 : Int32) (a2 : Int32) : Option (xs_S) :=
(if a1 < (s.1 1926) then
((xf_1_open s (a0)).bind fun s_2 =>
((mo_loop (xg_9_goOn_l14 rec (a0) (a1) (a2)) ((0 : Int32), s_2)).bind fun s_12 =>
some s_12))
else
((xf_9_takeIn s (a2)).bind fun s_13 =>
some s_13))
set_option maxHeartbeats 4000000 in
theorem xb_9_goOn {C : mm_C} {Q : mm_R} {pt : Value} {ps : Value} {pr : Value} {rec : xs_S → Int32 → Int32 → Int32 → Option xs_S} (hrec : xr_9_goOn rec C) (h_1_open : xk_1_open C) (h_1_after : xk_1_after C) (h_11_slopeOf : xk_11_slopeOf C) (h_9_agrees : xk_9_agrees C) (h_9_takeIn : xk_9_takeIn C) (s : xs_S) (a0 : Int32) (a1 : Int32) (a2 : Int32) (s2 : xs_S) (hf : xg_9_goOn rec s a0 a1 a2 = some s2) (hK : Q (none) (xs_H pt ps (.ref 9) pr s2)) : mm_go C mm_Mk mm_Fk P_X9_goOn Q P_X9_goOn [(0, .ref 120), (1, .int a0), (2, .int a1), (3, .int a2)] [] (xs_H pt ps (.ref 9) pr s) 0 0 := by
  unfold xg_9_goOn at hf
  by_cases c_1 : a1 < (s.1 1926)
  · have hf := mo_pos hf c_1
    obtain ⟨s_2, hr_2, hf⟩ := mo_bind hf
    obtain ⟨x_12, hl_12, hf⟩ := mo_bind hf
    refine mm_adv 10 (cs' := P_X9_goOn.drop 14) (l' := [(4, .int (0 : Int32)), (0, .ref 120), (1, .int a0), (2, .int a1), (3, .int a2)]) (st' := []) (h' := (xs_H pt ps (.ref 9) pr s_2)) (bc' := 0) (bs' := 0) (fun n g => (And.intro (fun _ => (h_1_open pt ps pr s (a0) s_2 _ hr_2 g)) (fun q => absurd c_1 q))) ?_
    refine mm_re (l' := [(0, .ref 120), (1, .int a0), (2, .int a1), (3, .int a2), (4, .int (0 : Int32))]) (c := [(0, .ref 120), (1, .int a0), (2, .int a1), (3, .int a2), (4, .int (0 : Int32))]) ?_ rfl rfl
    refine xb_9_goOn_l14 hrec h_1_open h_1_after h_11_slopeOf h_9_agrees h_9_takeIn (a0) (a1) (a2) ((0 : Int32), s_2) x_12 hl_12 ?_
    obtain ⟨s_12, rfl⟩ : ∃ q, q = x_12 := ⟨_, rfl⟩
    obtain rfl := Option.some.inj hf
    exact ⟨1, hK⟩
  · have hf := mo_neg hf c_1
    obtain ⟨s_13, hr_13, hf⟩ := mo_bind hf
    obtain rfl := Option.some.inj hf
    exact ⟨8, (And.intro (fun q => absurd q c_1) (fun _ => (h_9_takeIn pt ps (.ref 9) pr s (a2) s_13 _ hr_13 hK)))⟩
noncomputable def xf_9_goOn : Nat → xs_S → Int32 → Int32 → Int32 → Option xs_S
  | 0 => fun _ _ _ _ => none
  | n + 1 => xg_9_goOn (xf_9_goOn n)
def xk_9_goOn (n : Nat) (C : mm_C) : Prop := ∀ (pt : Value) (ps : Value) (pr : Value) (s : xs_S) (a0 : Int32) (a1 : Int32) (a2 : Int32) (s2 : xs_S) (Q : mm_R), xf_9_goOn n s a0 a1 a2 = some s2 → Q (none) (xs_H pt ps (.ref 9) pr s2) → C 212 [.ref 120, .int a0, .int a1, .int a2] (xs_H pt ps (.ref 9) pr s) Q
-- 9_search
noncomputable def xf_9_search (s : xs_S) (a0 : Int32) (a1 : Int32) (a2 : Int32) (a3 : Int32) : Option (xs_S) :=
((xf_7_fill_53178_125 (xs_sI (xs_sI (xs_sI (xs_sI (xs_sI s 1925 ((mm_min (a1) ((s.1 1924))))) 1926 ((mm_min (a2) ((5 : Int32))))) 1927 (a3)) 1928 ((0 : Int32))) 1929 ((-1 : Int32))) ((0 : Int32))).bind fun s_1 =>
((xf_9_isWithinLength s_1 ).bind fun (v_2, s_2) =>
(if v_2 = (0 : Int32) then
some s_2
else
((xf_9_goOn 7 s_2 (a0) ((0 : Int32)) ((0 : Int32))).bind fun s_4 =>
some s_4))))
set_option maxHeartbeats 4000000 in
theorem xb_9_search {C : mm_C} {Q : mm_R} {pt : Value} {ps : Value} {pr : Value} (h_7_fill_53178_125 : xk_7_fill_53178_125 C) (h_9_isWithinLength : xk_9_isWithinLength C) (h_9_goOn : xk_9_goOn 7 C) (s : xs_S) (a0 : Int32) (a1 : Int32) (a2 : Int32) (a3 : Int32) (s2 : xs_S) (hf : xf_9_search s a0 a1 a2 a3 = some s2) (hK : Q (none) (xs_H pt ps (.ref 9) pr s2)) : mm_go C mm_Mk mm_Fk P_X9_search Q P_X9_search [(0, .ref 120), (1, .int a0), (2, .int a1), (3, .int a2), (4, .int a3)] [] (xs_H pt ps (.ref 9) pr s) 0 0 := by
  unfold xf_9_search at hf
  obtain ⟨s_1, hr_1, hf⟩ := mo_bind hf
  obtain ⟨r_2, hr_2, hf⟩ := mo_bind hf
  obtain ⟨v_2, s_2⟩ := r_2
  by_cases c_3 : v_2 = (0 : Int32)
  · have hf := mo_pos hf c_3
    obtain rfl := Option.some.inj hf
    exact ⟨28, (And.intro trivial (And.intro trivial (And.intro trivial (And.intro trivial (And.intro trivial (h_7_fill_53178_125 pt ps (.ref 9) pr (xs_sI (xs_sI (xs_sI (xs_sI (xs_sI s 1925 ((mm_min (a1) ((s.1 1924))))) 1926 ((mm_min (a2) ((5 : Int32))))) 1927 (a3)) 1928 ((0 : Int32))) 1929 ((-1 : Int32))) ((0 : Int32)) s_1 _ hr_1 (h_9_isWithinLength pt ps (.ref 9) pr s_1  v_2 s_2 _ hr_2 (And.intro (fun _ => hK) (fun q => absurd c_3 q)))))))))⟩
  · have hf := mo_neg hf c_3
    obtain ⟨s_4, hr_4, hf⟩ := mo_bind hf
    obtain rfl := Option.some.inj hf
    exact ⟨33, (And.intro trivial (And.intro trivial (And.intro trivial (And.intro trivial (And.intro trivial (h_7_fill_53178_125 pt ps (.ref 9) pr (xs_sI (xs_sI (xs_sI (xs_sI (xs_sI s 1925 ((mm_min (a1) ((s.1 1924))))) 1926 ((mm_min (a2) ((5 : Int32))))) 1927 (a3)) 1928 ((0 : Int32))) 1929 ((-1 : Int32))) ((0 : Int32)) s_1 _ hr_1 (h_9_isWithinLength pt ps (.ref 9) pr s_1  v_2 s_2 _ hr_2 (And.intro (fun q => absurd q c_3) (fun _ => (h_9_goOn pt ps pr s_2 (a0) ((0 : Int32)) ((0 : Int32)) s_4 _ hr_4 hK))))))))))⟩
def xk_9_search (C : mm_C) : Prop := ∀ (pt : Value) (ps : Value) (pr : Value) (s : xs_S) (a0 : Int32) (a1 : Int32) (a2 : Int32) (a3 : Int32) (s2 : xs_S) (Q : mm_R), xf_9_search s a0 a1 a2 a3 = some s2 → Q (none) (xs_H pt ps (.ref 9) pr s2) → C 210 [.ref 120, .int a0, .int a1, .int a2, .int a3] (xs_H pt ps (.ref 9) pr s) Q
-- 11_rows
noncomputable def xf_11_rows_j12 (s : xs_S) (v1 : Int32) (v2 : Int32) (v3 : Int32) : Option (Int32 × xs_S) :=
((xf_9_search s ((s.1 400)) (v1) (v2) ((0 : Int32))).bind fun s_4 =>
(if v3 = (0 : Int32) then
some ((s_4.1 1928), s_4)
else
(if (s_4.1 1928) = (0 : Int32) then
some ((-2 : Int32), s_4)
else
some ((s_4.1 1929), s_4))))
set_option maxHeartbeats 4000000 in
theorem xb_11_rows_j12 {C : mm_C} {Q : mm_R} {pt : Value} {ps : Value} {pr : Value} (h_11_isKnown : xk_11_isKnown C) (h_9_search : xk_9_search C) (s : xs_S) (v1 : Int32) (v2 : Int32) (v3 : Int32) (v : Int32) (s2 : xs_S) (hf : xf_11_rows_j12 s v1 v2 v3 = some (v, s2)) (hK : Q (some (.int v)) (xs_H pt ps (.ref 9) pr s2)) : mm_go C mm_Mk mm_Fk P_X11_rows Q (P_X11_rows.drop 12) [(0, .ref 0), (1, .int v1), (2, .int v2), (3, .int v3)] [] (xs_H pt ps (.ref 9) pr s) 0 0 := by
  unfold xf_11_rows_j12 at hf
  obtain ⟨s_4, hr_4, hf⟩ := mo_bind hf
  by_cases c_5 : v3 = (0 : Int32)
  · have hf := mo_pos hf c_5
    obtain ⟨rfl, rfl⟩ := mo_pair hf
    exact ⟨15, (h_9_search pt ps pr s ((s.1 400)) (v1) (v2) ((0 : Int32)) s_4 _ hr_4 (And.intro (fun q => absurd c_5 q) (fun _ => hK)))⟩
  · have hf := mo_neg hf c_5
    by_cases c_6 : (s_4.1 1928) = (0 : Int32)
    · have hf := mo_pos hf c_6
      obtain ⟨rfl, rfl⟩ := mo_pair hf
      exact ⟨18, (h_9_search pt ps pr s ((s.1 400)) (v1) (v2) ((0 : Int32)) s_4 _ hr_4 (And.intro (fun _ => (And.intro (fun q => absurd c_6 q) (fun _ => hK))) (fun q => absurd c_5 q)))⟩
    · have hf := mo_neg hf c_6
      obtain ⟨rfl, rfl⟩ := mo_pair hf
      exact ⟨19, (h_9_search pt ps pr s ((s.1 400)) (v1) (v2) ((0 : Int32)) s_4 _ hr_4 (And.intro (fun _ => (And.intro (fun _ => hK) (fun q => absurd c_6 q))) (fun q => absurd c_5 q)))⟩
noncomputable def xf_11_rows (s : xs_S) (a0 : Int32) (a1 : Int32) (a2 : Int32) : Option (Int32 × xs_S) :=
((xf_11_isKnown s (a0) (a1)).bind fun (v_1, s_1) =>
(if v_1 = (0 : Int32) then
some ((-1 : Int32), s_1)
else
(if a2 = (0 : Int32) then
(xf_11_rows_j12 (s_1) (a0) (a1) (a2))
else
(if a2 = (1 : Int32) then
(xf_11_rows_j12 (s_1) (a0) (a1) (a2))
else
some ((-1 : Int32), s_1)))))
set_option maxHeartbeats 4000000 in
theorem xb_11_rows {C : mm_C} {Q : mm_R} {pt : Value} {ps : Value} {pr : Value} (h_11_isKnown : xk_11_isKnown C) (h_9_search : xk_9_search C) (s : xs_S) (a0 : Int32) (a1 : Int32) (a2 : Int32) (v : Int32) (s2 : xs_S) (hf : xf_11_rows s a0 a1 a2 = some (v, s2)) (hK : Q (some (.int v)) (xs_H pt ps (.ref 9) pr s2)) : mm_go C mm_Mk mm_Fk P_X11_rows Q P_X11_rows [(0, .ref 0), (1, .int a0), (2, .int a1), (3, .int a2)] [] (xs_H pt ps (.ref 9) pr s) 0 0 := by
  unfold xf_11_rows at hf
  obtain ⟨r_1, hr_1, hf⟩ := mo_bind hf
  obtain ⟨v_1, s_1⟩ := r_1
  by_cases c_2 : v_1 = (0 : Int32)
  · have hf := mo_pos hf c_2
    obtain ⟨rfl, rfl⟩ := mo_pair hf
    exact ⟨7, (h_11_isKnown pt ps (.ref 9) pr s (a0) (a1) v_1 s_1 _ hr_1 (And.intro (fun _ => hK) (fun q => absurd c_2 q)))⟩
  · have hf := mo_neg hf c_2
    by_cases c_3 : a2 = (0 : Int32)
    · have hf := mo_pos hf c_3
      refine mm_adv 7 (cs' := P_X11_rows.drop 12) (l' := [(0, .ref 0), (1, .int a0), (2, .int a1), (3, .int a2)]) (st' := []) (h' := (xs_H pt ps (.ref 9) pr s_1)) (bc' := 0) (bs' := 0) (fun n g => (h_11_isKnown pt ps (.ref 9) pr s (a0) (a1) v_1 s_1 _ hr_1 (And.intro (fun q => absurd q c_2) (fun _ => (And.intro (fun _ => g) (fun q => absurd c_3 q)))))) ?_
      refine mm_re (l' := [(0, .ref 0), (1, .int a0), (2, .int a1), (3, .int a2)]) (c := [(0, .ref 0), (1, .int a0), (2, .int a1), (3, .int a2)]) ?_ rfl rfl
      exact xb_11_rows_j12 h_11_isKnown h_9_search s_1 (a0) (a1) (a2) _ _ hf hK
    · have hf := mo_neg hf c_3
      by_cases c_7 : a2 = (1 : Int32)
      · have hf := mo_pos hf c_7
        refine mm_adv 10 (cs' := P_X11_rows.drop 12) (l' := [(0, .ref 0), (1, .int a0), (2, .int a1), (3, .int a2)]) (st' := []) (h' := (xs_H pt ps (.ref 9) pr s_1)) (bc' := 0) (bs' := 0) (fun n g => (h_11_isKnown pt ps (.ref 9) pr s (a0) (a1) v_1 s_1 _ hr_1 (And.intro (fun q => absurd q c_2) (fun _ => (And.intro (fun q => absurd q c_3) (fun _ => (And.intro (fun _ => g) (fun q => absurd c_7 q)))))))) ?_
        refine mm_re (l' := [(0, .ref 0), (1, .int a0), (2, .int a1), (3, .int a2)]) (c := [(0, .ref 0), (1, .int a0), (2, .int a1), (3, .int a2)]) ?_ rfl rfl
        exact xb_11_rows_j12 h_11_isKnown h_9_search s_1 (a0) (a1) (a2) _ _ hf hK
      · have hf := mo_neg hf c_7
        obtain ⟨rfl, rfl⟩ := mo_pair hf
        exact ⟨12, (h_11_isKnown pt ps (.ref 9) pr s (a0) (a1) v_1 s_1 _ hr_1 (And.intro (fun q => absurd q c_2) (fun _ => (And.intro (fun q => absurd q c_3) (fun _ => (And.intro (fun q => absurd q c_7) (fun _ => hK)))))))⟩
def xk_11_rows (C : mm_C) : Prop := ∀ (pt : Value) (ps : Value) (pr : Value) (s : xs_S) (a0 : Int32) (a1 : Int32) (a2 : Int32) (v : Int32) (s2 : xs_S) (Q : mm_R), xf_11_rows s a0 a1 a2 = some (v, s2) → Q (some (.int v)) (xs_H pt ps (.ref 9) pr s2) → C 256 [.ref 0, .int a0, .int a1, .int a2] (xs_H pt ps (.ref 9) pr s) Q
-- 9_sharpest
noncomputable def xf_9_sharpest_j35 (s : xs_S) (v1 : Int32) (v2 : Int32) (v3 : Int32) (v4 : Int32) : Option ((Int32 × Int32 × Int32 × xs_S) ⊕ ((Int32 × xs_S))) :=
some (.inl (v2, v3, (v4 + (1 : Int32)), s))
set_option maxHeartbeats 4000000 in
theorem xb_9_sharpest_j35 {C : mm_C} {Q : mm_R} {pt : Value} {ps : Value} {pg : Value} {pr : Value}  (s : xs_S) (v1 : Int32) (v2 : Int32) (v3 : Int32) (v4 : Int32) (r : (Int32 × Int32 × Int32 × xs_S) ⊕ ((Int32 × xs_S))) (hf : xf_9_sharpest_j35 s v1 v2 v3 v4 = some r) (hK : mo_sum (mo_c2 (fun y2 => (mo_c2 (fun y3 => (mo_c2 (fun y4 sy => mm_go C mm_Mk mm_Fk P_X9_sharpest Q (P_X9_sharpest.drop 9) [(0, .ref 120), (1, .int v1), (2, .int y2), (3, .int y3), (4, .int y4)] [] (xs_H pt ps pg pr sy) 0 0))))))  (mo_c2 (fun y2 sy => mm_go C mm_Mk mm_Fk P_X9_sharpest Q (P_X9_sharpest.drop 37) [(2, .int y2)] [] (xs_H pt ps pg pr sy) 0 0))  r) : mm_go C mm_Mk mm_Fk P_X9_sharpest Q (P_X9_sharpest.drop 35) [(0, .ref 120), (1, .int v1), (2, .int v2), (3, .int v3), (4, .int v4)] [] (xs_H pt ps pg pr s) 0 0 := by
  unfold xf_9_sharpest_j35 at hf
  obtain rfl := Option.some.inj hf
  refine mm_adv 2 (cs' := P_X9_sharpest.drop 9) (l' := [(4, .int (v4 + (1 : Int32))), (0, .ref 120), (1, .int v1), (2, .int v2), (3, .int v3)]) (st' := []) (h' := (xs_H pt ps pg pr s)) (bc' := 0) (bs' := 0) (fun n g => g) ?_
  exact mm_re (c := [(0, .ref 120), (1, .int v1), (2, .int v2), (3, .int v3), (4, .int (v4 + (1 : Int32)))]) hK rfl rfl
noncomputable def xf_9_sharpest_l9 (v1 : Int32) : (Int32 × Int32 × Int32 × xs_S) → Option ((Int32 × Int32 × Int32 × xs_S) ⊕ ((Int32 × xs_S))) := fun (w2, w3, w4, s) =>
(if v1 < w4 then
some (.inr (w2, s))
else
(if (5 : Int32) < w4 then
some (.inr (w2, s))
else
((mo_ag 6 (s.2.1 125) w4).bind fun x_3 =>
((mo_ag 6 (s.2.1 125) w4).bind fun x_4 =>
(if w3 ≤ (mm_max (x_3) (((s.1 1928) - x_4))) then
(xf_9_sharpest_j35 (s) (v1) (w2) (w3) (w4))
else
(xf_9_sharpest_j35 (s) (v1) (w4) ((mm_max (x_3) (((s.1 1928) - x_4)))) (w4)))))))
set_option maxHeartbeats 4000000 in
theorem xb_9_sharpest_l9 {C : mm_C} {Q : mm_R} {pt : Value} {ps : Value} {pg : Value} {pr : Value}  (v1 : Int32) (t : Int32 × Int32 × Int32 × xs_S) (x : (Int32 × xs_S)) (hl : mo_loop (xf_9_sharpest_l9 v1) t = some x) (hK : (mo_c2 (fun y2 sy => mm_go C mm_Mk mm_Fk P_X9_sharpest Q (P_X9_sharpest.drop 37) [(2, .int y2)] [] (xs_H pt ps pg pr sy) 0 0)) x) : (mo_c2 (fun y2 => (mo_c2 (fun y3 => (mo_c2 (fun y4 sy => mm_go C mm_Mk mm_Fk P_X9_sharpest Q (P_X9_sharpest.drop 9) [(0, .ref 120), (1, .int v1), (2, .int y2), (3, .int y3), (4, .int y4)] [] (xs_H pt ps pg pr sy) 0 0)))))) t := by
  refine mo_loop_go (G := (mo_c2 (fun y2 => (mo_c2 (fun y3 => (mo_c2 (fun y4 sy => mm_go C mm_Mk mm_Fk P_X9_sharpest Q (P_X9_sharpest.drop 9) [(0, .ref 120), (1, .int v1), (2, .int y2), (3, .int y3), (4, .int y4)] [] (xs_H pt ps pg pr sy) 0 0)))))) ) (K := (mo_c2 (fun y2 sy => mm_go C mm_Mk mm_Fk P_X9_sharpest Q (P_X9_sharpest.drop 37) [(2, .int y2)] [] (xs_H pt ps pg pr sy) 0 0)) ) ?_ t x hl hK
  intro t r hf hK
  obtain ⟨w2, w3, w4, s⟩ := t
  unfold xf_9_sharpest_l9 at hf
  by_cases c_1 : v1 < w4
  · have hf := mo_pos hf c_1
    obtain rfl := Option.some.inj hf
    refine mm_adv 3 (cs' := P_X9_sharpest.drop 37) (l' := [(0, .ref 120), (1, .int v1), (2, .int w2), (3, .int w3), (4, .int w4)]) (st' := []) (h' := (xs_H pt ps pg pr s)) (bc' := 0) (bs' := 0) (fun n g => (And.intro (fun _ => g) (fun q => absurd c_1 q))) ?_
    exact mm_re (c := [(2, .int w2)]) hK rfl rfl
  · have hf := mo_neg hf c_1
    by_cases c_2 : (5 : Int32) < w4
    · have hf := mo_pos hf c_2
      obtain rfl := Option.some.inj hf
      refine mm_adv 6 (cs' := P_X9_sharpest.drop 37) (l' := [(0, .ref 120), (1, .int v1), (2, .int w2), (3, .int w3), (4, .int w4)]) (st' := []) (h' := (xs_H pt ps pg pr s)) (bc' := 0) (bs' := 0) (fun n g => (And.intro (fun q => absurd q c_1) (fun _ => (And.intro (fun _ => g) (fun q => absurd c_2 q))))) ?_
      exact mm_re (c := [(2, .int w2)]) hK rfl rfl
    · have hf := mo_neg hf c_2
      obtain ⟨x_3, hx_3, hf⟩ := mo_bind hf
      obtain ⟨hi_3, rfl⟩ := mo_ag_inv hx_3
      obtain ⟨x_4, hx_4, hf⟩ := mo_bind hf
      obtain ⟨hi_4, rfl⟩ := mo_ag_inv hx_4
      by_cases c_5 : w3 ≤ (mm_max (((s.2.1 125) (w4).toNatClampNeg)) (((s.1 1928) - ((s.2.1 125) (w4).toNatClampNeg))))
      · have hf := mo_pos hf c_5
        refine mm_adv 22 (cs' := P_X9_sharpest.drop 35) (l' := [(5, .int (mm_max (((s.2.1 125) (w4).toNatClampNeg)) (((s.1 1928) - ((s.2.1 125) (w4).toNatClampNeg))))), (0, .ref 120), (1, .int v1), (2, .int w2), (3, .int w3), (4, .int w4)]) (st' := []) (h' := (xs_H pt ps pg pr s)) (bc' := 0) (bs' := 0) (fun n g => (And.intro (fun q => absurd q c_1) (fun _ => (And.intro (fun q => absurd q c_2) (fun _ => (And.intro hi_3 (And.intro hi_4 (And.intro (fun _ => g) (fun q => absurd c_5 q))))))))) ?_
        refine mm_re (l' := [(0, .ref 120), (1, .int v1), (2, .int w2), (3, .int w3), (4, .int w4)]) (c := [(0, .ref 120), (1, .int v1), (2, .int w2), (3, .int w3), (4, .int w4)]) ?_ rfl rfl
        exact xb_9_sharpest_j35  s (v1) (w2) (w3) (w4) _ hf hK
      · have hf := mo_neg hf c_5
        refine mm_adv 26 (cs' := P_X9_sharpest.drop 35) (l' := [(3, .int (mm_max (((s.2.1 125) (w4).toNatClampNeg)) (((s.1 1928) - ((s.2.1 125) (w4).toNatClampNeg))))), (2, .int w4), (5, .int (mm_max (((s.2.1 125) (w4).toNatClampNeg)) (((s.1 1928) - ((s.2.1 125) (w4).toNatClampNeg))))), (0, .ref 120), (1, .int v1), (4, .int w4)]) (st' := []) (h' := (xs_H pt ps pg pr s)) (bc' := 0) (bs' := 0) (fun n g => (And.intro (fun q => absurd q c_1) (fun _ => (And.intro (fun q => absurd q c_2) (fun _ => (And.intro hi_3 (And.intro hi_4 (And.intro (fun q => absurd q c_5) (fun _ => g))))))))) ?_
        refine mm_re (l' := [(0, .ref 120), (1, .int v1), (2, .int w4), (3, .int (mm_max (((s.2.1 125) (w4).toNatClampNeg)) (((s.1 1928) - ((s.2.1 125) (w4).toNatClampNeg))))), (4, .int w4)]) (c := [(0, .ref 120), (1, .int v1), (2, .int w4), (3, .int (mm_max (((s.2.1 125) (w4).toNatClampNeg)) (((s.1 1928) - ((s.2.1 125) (w4).toNatClampNeg))))), (4, .int w4)]) ?_ rfl rfl
        exact xb_9_sharpest_j35  s (v1) (w4) ((mm_max (((s.2.1 125) (w4).toNatClampNeg)) (((s.1 1928) - ((s.2.1 125) (w4).toNatClampNeg))))) (w4) _ hf hK
noncomputable def xf_9_sharpest (s : xs_S) (a0 : Int32) : Option (Int32 × xs_S) :=
((mo_loop (xf_9_sharpest_l9 (a0)) ((1 : Int32), ((s.1 1928) + (1 : Int32)), (1 : Int32), s)).bind fun (e2_6, s_6) =>
some (e2_6, s_6))
set_option maxHeartbeats 4000000 in
theorem xb_9_sharpest {C : mm_C} {Q : mm_R} {pt : Value} {ps : Value} {pg : Value} {pr : Value}  (s : xs_S) (a0 : Int32) (v : Int32) (s2 : xs_S) (hf : xf_9_sharpest s a0 = some (v, s2)) (hK : Q (some (.int v)) (xs_H pt ps pg pr s2)) : mm_go C mm_Mk mm_Fk P_X9_sharpest Q P_X9_sharpest [(0, .ref 120), (1, .int a0)] [] (xs_H pt ps pg pr s) 0 0 := by
  unfold xf_9_sharpest at hf
  obtain ⟨x_6, hl_6, hf⟩ := mo_bind hf
  refine mm_adv 9 (cs' := P_X9_sharpest.drop 9) (l' := [(4, .int (1 : Int32)), (3, .int ((s.1 1928) + (1 : Int32))), (2, .int (1 : Int32)), (0, .ref 120), (1, .int a0)]) (st' := []) (h' := (xs_H pt ps pg pr s)) (bc' := 0) (bs' := 0) (fun n g => g) ?_
  refine mm_re (l' := [(0, .ref 120), (1, .int a0), (2, .int (1 : Int32)), (3, .int ((s.1 1928) + (1 : Int32))), (4, .int (1 : Int32))]) (c := [(0, .ref 120), (1, .int a0), (2, .int (1 : Int32)), (3, .int ((s.1 1928) + (1 : Int32))), (4, .int (1 : Int32))]) ?_ rfl rfl
  refine xb_9_sharpest_l9  (a0) ((1 : Int32), ((s.1 1928) + (1 : Int32)), (1 : Int32), s) x_6 hl_6 ?_
  obtain ⟨e2_6, s_6⟩ := x_6
  obtain ⟨rfl, rfl⟩ := mo_pair hf
  exact ⟨2, hK⟩
def xk_9_sharpest (C : mm_C) : Prop := ∀ (pt : Value) (ps : Value) (pg : Value) (pr : Value) (s : xs_S) (a0 : Int32) (v : Int32) (s2 : xs_S) (Q : mm_R), xf_9_sharpest s a0 = some (v, s2) → Q (some (.int v)) (xs_H pt ps pg pr s2) → C 211 [.ref 120, .int a0] (xs_H pt ps pg pr s) Q
-- 11_listen
noncomputable def xf_11_listen (s : xs_S) (a0 : Int32) (a1 : Int32) (a2 : Int32) : Option (Int32 × xs_S) :=
((xf_11_isKnown s (a0) (a1)).bind fun (v_1, s_1) =>
(if v_1 = (0 : Int32) then
some ((-1 : Int32), s_1)
else
(if a2 < (0 : Int32) then
some ((-1 : Int32), s_1)
else
(if a2 ≤ (20 : Int32) then
((xf_9_search s_1 ((s_1.1 400)) (a0) (a1) (a2)).bind fun s_5 =>
(if (s_5.1 1928) = (0 : Int32) then
some ((-2 : Int32), s_5)
else
((xf_9_sharpest s_5 (a1)).bind fun (v_7, s_7) =>
some (v_7, s_7))))
else
some ((-1 : Int32), s_1)))))
set_option maxHeartbeats 4000000 in
theorem xb_11_listen {C : mm_C} {Q : mm_R} {pt : Value} {ps : Value} {pr : Value} (h_11_isKnown : xk_11_isKnown C) (h_9_search : xk_9_search C) (h_9_sharpest : xk_9_sharpest C) (s : xs_S) (a0 : Int32) (a1 : Int32) (a2 : Int32) (v : Int32) (s2 : xs_S) (hf : xf_11_listen s a0 a1 a2 = some (v, s2)) (hK : Q (some (.int v)) (xs_H pt ps (.ref 9) pr s2)) : mm_go C mm_Mk mm_Fk P_X11_listen Q P_X11_listen [(0, .ref 0), (1, .int a0), (2, .int a1), (3, .int a2)] [] (xs_H pt ps (.ref 9) pr s) 0 0 := by
  unfold xf_11_listen at hf
  obtain ⟨r_1, hr_1, hf⟩ := mo_bind hf
  obtain ⟨v_1, s_1⟩ := r_1
  by_cases c_2 : v_1 = (0 : Int32)
  · have hf := mo_pos hf c_2
    obtain ⟨rfl, rfl⟩ := mo_pair hf
    exact ⟨7, (h_11_isKnown pt ps (.ref 9) pr s (a0) (a1) v_1 s_1 _ hr_1 (And.intro (fun _ => hK) (fun q => absurd c_2 q)))⟩
  · have hf := mo_neg hf c_2
    by_cases c_3 : a2 < (0 : Int32)
    · have hf := mo_pos hf c_3
      obtain ⟨rfl, rfl⟩ := mo_pair hf
      exact ⟨9, (h_11_isKnown pt ps (.ref 9) pr s (a0) (a1) v_1 s_1 _ hr_1 (And.intro (fun q => absurd q c_2) (fun _ => (And.intro (fun _ => hK) (fun q => absurd c_3 q)))))⟩
    · have hf := mo_neg hf c_3
      by_cases c_4 : a2 ≤ (20 : Int32)
      · have hf := mo_pos hf c_4
        obtain ⟨s_5, hr_5, hf⟩ := mo_bind hf
        by_cases c_6 : (s_5.1 1928) = (0 : Int32)
        · have hf := mo_pos hf c_6
          obtain ⟨rfl, rfl⟩ := mo_pair hf
          exact ⟨26, (h_11_isKnown pt ps (.ref 9) pr s (a0) (a1) v_1 s_1 _ hr_1 (And.intro (fun q => absurd q c_2) (fun _ => (And.intro (fun q => absurd q c_3) (fun _ => (And.intro (fun _ => (h_9_search pt ps pr s_1 ((s_1.1 400)) (a0) (a1) (a2) s_5 _ hr_5 (And.intro (fun q => absurd c_6 q) (fun _ => hK)))) (fun q => absurd c_4 q)))))))⟩
        · have hf := mo_neg hf c_6
          obtain ⟨r_7, hr_7, hf⟩ := mo_bind hf
          obtain ⟨v_7, s_7⟩ := r_7
          obtain ⟨rfl, rfl⟩ := mo_pair hf
          exact ⟨28, (h_11_isKnown pt ps (.ref 9) pr s (a0) (a1) v_1 s_1 _ hr_1 (And.intro (fun q => absurd q c_2) (fun _ => (And.intro (fun q => absurd q c_3) (fun _ => (And.intro (fun _ => (h_9_search pt ps pr s_1 ((s_1.1 400)) (a0) (a1) (a2) s_5 _ hr_5 (And.intro (fun _ => (h_9_sharpest pt ps (.ref 9) pr s_5 (a1) v_7 s_7 _ hr_7 hK)) (fun q => absurd c_6 q)))) (fun q => absurd c_4 q)))))))⟩
      · have hf := mo_neg hf c_4
        obtain ⟨rfl, rfl⟩ := mo_pair hf
        exact ⟨12, (h_11_isKnown pt ps (.ref 9) pr s (a0) (a1) v_1 s_1 _ hr_1 (And.intro (fun q => absurd q c_2) (fun _ => (And.intro (fun q => absurd q c_3) (fun _ => (And.intro (fun q => absurd q c_4) (fun _ => hK)))))))⟩
def xk_11_listen (C : mm_C) : Prop := ∀ (pt : Value) (ps : Value) (pr : Value) (s : xs_S) (a0 : Int32) (a1 : Int32) (a2 : Int32) (v : Int32) (s2 : xs_S) (Q : mm_R), xf_11_listen s a0 a1 a2 = some (v, s2) → Q (some (.int v)) (xs_H pt ps (.ref 9) pr s2) → C 257 [.ref 0, .int a0, .int a1, .int a2] (xs_H pt ps (.ref 9) pr s) Q
