/-! the class, method by method, 1 -/
-- 6_kind
noncomputable def xf_6_kind (s : xs_S)  : Option (Int32 × xs_S) :=
(if (s.1 101) = (0 : Int32) then
(if (s.1 100) < (s.1 21) then
((mo_ag 402 (s.2.1 3) (s.1 100)).bind fun x_3 =>
some (x_3, s))
else
some ((32 : Int32), s))
else
some ((32 : Int32), s))
set_option maxHeartbeats 4000000 in
theorem xb_6_kind {C : mm_C} {Q : mm_R} {pt : Value} {ps : Value} {pg : Value} {pr : Value}  (s : xs_S)  (v : Int32) (s2 : xs_S) (hf : xf_6_kind s = some (v, s2)) (hK : Q (some (.int v)) (xs_H pt ps pg pr s2)) : mm_go C mm_Mk mm_Fk P_X6_kind Q P_X6_kind [(0, .ref 6)] [] (xs_H pt ps pg pr s) 0 0 := by
  unfold xf_6_kind at hf
  by_cases c_1 : (s.1 101) = (0 : Int32)
  · have hf := mo_pos hf c_1
    by_cases c_2 : (s.1 100) < (s.1 21)
    · have hf := mo_pos hf c_2
      obtain ⟨x_3, hx_3, hf⟩ := mo_bind hf
      obtain ⟨hi_3, rfl⟩ := mo_ag_inv hx_3
      obtain ⟨rfl, rfl⟩ := mo_pair hf
      exact ⟨16, (And.intro (fun q => absurd c_1 q) (fun _ => (And.intro (fun _ => (And.intro hi_3 hK)) (fun q => absurd c_2 q))))⟩
    · have hf := mo_neg hf c_2
      obtain ⟨rfl, rfl⟩ := mo_pair hf
      exact ⟨12, (And.intro (fun q => absurd c_1 q) (fun _ => (And.intro (fun q => absurd q c_2) (fun _ => hK))))⟩
  · have hf := mo_neg hf c_1
    obtain ⟨rfl, rfl⟩ := mo_pair hf
    exact ⟨6, (And.intro (fun _ => hK) (fun q => absurd c_1 q))⟩
def xk_6_kind (C : mm_C) : Prop := ∀ (pt : Value) (ps : Value) (pg : Value) (pr : Value) (s : xs_S)  (v : Int32) (s2 : xs_S) (Q : mm_R), xf_6_kind s = some (v, s2) → Q (some (.int v)) (xs_H pt ps pg pr s2) → C 184 [.ref 6] (xs_H pt ps pg pr s) Q
-- 6_fail
noncomputable def xf_6_fail (s : xs_S) (a0 : Int32) : Option (xs_S) :=
(if (s.1 101) = (0 : Int32) then
some (xs_sI s 101 (a0))
else
some s)
set_option maxHeartbeats 4000000 in
theorem xb_6_fail {C : mm_C} {Q : mm_R} {pt : Value} {ps : Value} {pg : Value} {pr : Value}  (s : xs_S) (a0 : Int32) (s2 : xs_S) (hf : xf_6_fail s a0 = some s2) (hK : Q (none) (xs_H pt ps pg pr s2)) : mm_go C mm_Mk mm_Fk P_X6_fail Q P_X6_fail [(0, .ref 6), (1, .int a0)] [] (xs_H pt ps pg pr s) 0 0 := by
  unfold xf_6_fail at hf
  by_cases c_1 : (s.1 101) = (0 : Int32)
  · have hf := mo_pos hf c_1
    obtain rfl := Option.some.inj hf
    exact ⟨7, (And.intro (fun q => absurd c_1 q) (fun _ => (And.intro trivial hK)))⟩
  · have hf := mo_neg hf c_1
    obtain rfl := Option.some.inj hf
    exact ⟨4, (And.intro (fun _ => hK) (fun q => absurd c_1 q))⟩
def xk_6_fail (C : mm_C) : Prop := ∀ (pt : Value) (ps : Value) (pg : Value) (pr : Value) (s : xs_S) (a0 : Int32) (s2 : xs_S) (Q : mm_R), xf_6_fail s a0 = some s2 → Q (none) (xs_H pt ps pg pr s2) → C 182 [.ref 6, .int a0] (xs_H pt ps pg pr s) Q
-- 6_take
noncomputable def xf_6_take (s : xs_S) (a0 : Int32) : Option (Int32 × xs_S) :=
(if (s.1 101) = (0 : Int32) then
((xf_6_kind s ).bind fun (v_2, s_2) =>
(if v_2 = a0 then
(if (s_2.1 100) < (400 : Int32) then
some ((1 : Int32), (xs_sI s_2 100 (((s_2.1 100) + (1 : Int32)))))
else
((xf_6_fail s_2 ((2 : Int32))).bind fun s_5 =>
some ((0 : Int32), s_5)))
else
((xf_6_fail s_2 ((1 : Int32))).bind fun s_6 =>
some ((0 : Int32), s_6))))
else
some ((0 : Int32), s))
set_option maxHeartbeats 4000000 in
theorem xb_6_take {C : mm_C} {Q : mm_R} {pt : Value} {ps : Value} {pg : Value} {pr : Value} (h_6_kind : xk_6_kind C) (h_6_fail : xk_6_fail C) (s : xs_S) (a0 : Int32) (v : Int32) (s2 : xs_S) (hf : xf_6_take s a0 = some (v, s2)) (hK : Q (some (.int v)) (xs_H pt ps pg pr s2)) : mm_go C mm_Mk mm_Fk P_X6_take Q P_X6_take [(0, .ref 6), (1, .int a0)] [] (xs_H pt ps pg pr s) 0 0 := by
  unfold xf_6_take at hf
  by_cases c_1 : (s.1 101) = (0 : Int32)
  · have hf := mo_pos hf c_1
    obtain ⟨r_2, hr_2, hf⟩ := mo_bind hf
    obtain ⟨v_2, s_2⟩ := r_2
    by_cases c_3 : v_2 = a0
    · have hf := mo_pos hf c_3
      by_cases c_4 : (s_2.1 100) < (400 : Int32)
      · have hf := mo_pos hf c_4
        obtain ⟨rfl, rfl⟩ := mo_pair hf
        exact ⟨19, (And.intro (fun _ => (h_6_kind pt ps pg pr s  v_2 s_2 _ hr_2 (And.intro (fun _ => (And.intro (fun _ => (And.intro trivial (And.intro rfl hK))) (fun q => absurd c_4 q))) (fun q => absurd c_3 q)))) (fun q => absurd c_1 q))⟩
      · have hf := mo_neg hf c_4
        obtain ⟨s_5, hr_5, hf⟩ := mo_bind hf
        obtain ⟨rfl, rfl⟩ := mo_pair hf
        exact ⟨16, (And.intro (fun _ => (h_6_kind pt ps pg pr s  v_2 s_2 _ hr_2 (And.intro (fun _ => (And.intro (fun q => absurd q c_4) (fun _ => (h_6_fail pt ps pg pr s_2 ((2 : Int32)) s_5 _ hr_5 (And.intro rfl hK))))) (fun q => absurd c_3 q)))) (fun q => absurd c_1 q))⟩
    · have hf := mo_neg hf c_3
      obtain ⟨s_6, hr_6, hf⟩ := mo_bind hf
      obtain ⟨rfl, rfl⟩ := mo_pair hf
      exact ⟨12, (And.intro (fun _ => (h_6_kind pt ps pg pr s  v_2 s_2 _ hr_2 (And.intro (fun q => absurd q c_3) (fun _ => (h_6_fail pt ps pg pr s_2 ((1 : Int32)) s_6 _ hr_6 (And.intro rfl hK)))))) (fun q => absurd c_1 q))⟩
  · have hf := mo_neg hf c_1
    obtain ⟨rfl, rfl⟩ := mo_pair hf
    exact ⟨5, (And.intro (fun q => absurd q c_1) (fun _ => (And.intro rfl hK)))⟩
def xk_6_take (C : mm_C) : Prop := ∀ (pt : Value) (ps : Value) (pg : Value) (pr : Value) (s : xs_S) (a0 : Int32) (v : Int32) (s2 : xs_S) (Q : mm_R), xf_6_take s a0 = some (v, s2) → Q (some (.int v)) (xs_H pt ps pg pr s2) → C 181 [.ref 6, .int a0] (xs_H pt ps pg pr s) Q
-- 6_value
noncomputable def xf_6_value (s : xs_S)  : Option (Int64 × xs_S) :=
(if (s.1 21) ≤ (s.1 100) then
some ((0 : Int64), s)
else
((mo_al 402 (s.2.2.1 5) (s.1 100)).bind fun x_2 =>
some (x_2, s)))
set_option maxHeartbeats 4000000 in
theorem xb_6_value {C : mm_C} {Q : mm_R} {pt : Value} {ps : Value} {pg : Value} {pr : Value}  (s : xs_S)  (v : Int64) (s2 : xs_S) (hf : xf_6_value s = some (v, s2)) (hK : Q (some (.long v)) (xs_H pt ps pg pr s2)) : mm_go C mm_Mk mm_Fk P_X6_value Q P_X6_value [(0, .ref 6)] [] (xs_H pt ps pg pr s) 0 0 := by
  unfold xf_6_value at hf
  by_cases c_1 : (s.1 21) ≤ (s.1 100)
  · have hf := mo_pos hf c_1
    obtain ⟨rfl, rfl⟩ := mo_pair hf
    exact ⟨8, (And.intro (fun _ => hK) (fun q => absurd c_1 q))⟩
  · have hf := mo_neg hf c_1
    obtain ⟨x_2, hx_2, hf⟩ := mo_bind hf
    obtain ⟨hi_2, rfl⟩ := mo_al_inv hx_2
    obtain ⟨rfl, rfl⟩ := mo_pair hf
    exact ⟨14, (And.intro (fun q => absurd q c_1) (fun _ => (And.intro hi_2 hK)))⟩
def xk_6_value (C : mm_C) : Prop := ∀ (pt : Value) (ps : Value) (pg : Value) (pr : Value) (s : xs_S)  (v : Int64) (s2 : xs_S) (Q : mm_R), xf_6_value s = some (v, s2) → Q (some (.long v)) (xs_H pt ps pg pr s2) → C 186 [.ref 6] (xs_H pt ps pg pr s) Q
-- 6_placeNow
noncomputable def xf_6_placeNow (s : xs_S)  : Option (Int32 × xs_S) :=
(if (s.1 21) ≤ (s.1 100) then
some ((s.1 17), s)
else
((mo_ag 402 (s.2.1 4) (s.1 100)).bind fun x_2 =>
some (x_2, s)))
set_option maxHeartbeats 4000000 in
theorem xb_6_placeNow {C : mm_C} {Q : mm_R} {pt : Value} {ps : Value} {pg : Value} {pr : Value}  (s : xs_S)  (v : Int32) (s2 : xs_S) (hf : xf_6_placeNow s = some (v, s2)) (hK : Q (some (.int v)) (xs_H pt ps pg pr s2)) : mm_go C mm_Mk mm_Fk P_X6_placeNow Q P_X6_placeNow [(0, .ref 6)] [] (xs_H pt ps pg pr s) 0 0 := by
  unfold xf_6_placeNow at hf
  by_cases c_1 : (s.1 21) ≤ (s.1 100)
  · have hf := mo_pos hf c_1
    obtain ⟨rfl, rfl⟩ := mo_pair hf
    exact ⟨10, (And.intro (fun _ => hK) (fun q => absurd c_1 q))⟩
  · have hf := mo_neg hf c_1
    obtain ⟨x_2, hx_2, hf⟩ := mo_bind hf
    obtain ⟨hi_2, rfl⟩ := mo_ag_inv hx_2
    obtain ⟨rfl, rfl⟩ := mo_pair hf
    exact ⟨14, (And.intro (fun q => absurd q c_1) (fun _ => (And.intro hi_2 hK)))⟩
def xk_6_placeNow (C : mm_C) : Prop := ∀ (pt : Value) (ps : Value) (pg : Value) (pr : Value) (s : xs_S)  (v : Int32) (s2 : xs_S) (Q : mm_R), xf_6_placeNow s = some (v, s2) → Q (some (.int v)) (xs_H pt ps pg pr s2) → C 185 [.ref 6] (xs_H pt ps pg pr s) Q
-- 6_speakerNamed
noncomputable def xf_6_speakerNamed_l2 (v1 : Int64) : (Int32 × xs_S) → Option ((Int32 × xs_S) ⊕ ((Int32 × xs_S) ⊕ (xs_S))) := fun (w3, s) =>
(if (s.1 275) ≤ w3 then
some (.inr (.inr (s)))
else
((mo_al 5 (s.2.2.1 7) w3).bind fun x_2 =>
(if (lg_cmp x_2 v1) = (0 : Int32) then
some (.inr (.inl (w3, s)))
else
some (.inl ((w3 + (1 : Int32)), s)))))
set_option maxHeartbeats 4000000 in
theorem xb_6_speakerNamed_l2 {C : mm_C} {Q : mm_R} {pt : Value} {ps : Value} {pg : Value}  (v1 : Int64) (t : Int32 × xs_S) (x : (Int32 × xs_S) ⊕ (xs_S)) (hl : mo_loop (xf_6_speakerNamed_l2 v1) t = some x) (hK : (mo_sum (mo_c2 (fun y3 sy => mm_go C mm_Mk mm_Fk P_X6_speakerNamed Q (P_X6_speakerNamed.drop 14) [(3, .int y3)] [] (xs_H pt ps pg (.ref 17) sy) 0 0)) (fun sy => mm_go C mm_Mk mm_Fk P_X6_speakerNamed Q (P_X6_speakerNamed.drop 18) [] [] (xs_H pt ps pg (.ref 17) sy) 0 0)) x) : (mo_c2 (fun y3 sy => mm_go C mm_Mk mm_Fk P_X6_speakerNamed Q (P_X6_speakerNamed.drop 2) [(0, .ref 6), (1, .long v1), (3, .int y3)] [] (xs_H pt ps pg (.ref 17) sy) 0 0)) t := by
  refine mo_loop_go (G := (mo_c2 (fun y3 sy => mm_go C mm_Mk mm_Fk P_X6_speakerNamed Q (P_X6_speakerNamed.drop 2) [(0, .ref 6), (1, .long v1), (3, .int y3)] [] (xs_H pt ps pg (.ref 17) sy) 0 0)) ) (K := (mo_sum (mo_c2 (fun y3 sy => mm_go C mm_Mk mm_Fk P_X6_speakerNamed Q (P_X6_speakerNamed.drop 14) [(3, .int y3)] [] (xs_H pt ps pg (.ref 17) sy) 0 0)) (fun sy => mm_go C mm_Mk mm_Fk P_X6_speakerNamed Q (P_X6_speakerNamed.drop 18) [] [] (xs_H pt ps pg (.ref 17) sy) 0 0)) ) ?_ t x hl hK
  intro t r hf hK
  obtain ⟨w3, s⟩ := t
  unfold xf_6_speakerNamed_l2 at hf
  by_cases c_1 : (s.1 275) ≤ w3
  · have hf := mo_pos hf c_1
    obtain rfl := Option.some.inj hf
    refine mm_adv 5 (cs' := P_X6_speakerNamed.drop 18) (l' := [(0, .ref 6), (1, .long v1), (3, .int w3)]) (st' := []) (h' := (xs_H pt ps pg (.ref 17) s)) (bc' := 0) (bs' := 0) (fun n g => (And.intro (fun _ => g) (fun q => absurd c_1 q))) ?_
    exact mm_re (c := []) hK rfl rfl
  · have hf := mo_neg hf c_1
    obtain ⟨x_2, hx_2, hf⟩ := mo_bind hf
    obtain ⟨hi_2, rfl⟩ := mo_al_inv hx_2
    by_cases c_3 : (lg_cmp ((s.2.2.1 7) (w3).toNatClampNeg) v1) = (0 : Int32)
    · have hf := mo_pos hf c_3
      obtain rfl := Option.some.inj hf
      refine mm_adv 12 (cs' := P_X6_speakerNamed.drop 14) (l' := [(0, .ref 6), (1, .long v1), (3, .int w3)]) (st' := []) (h' := (xs_H pt ps pg (.ref 17) s)) (bc' := 0) (bs' := 0) (fun n g => (And.intro (fun q => absurd q c_1) (fun _ => (And.intro hi_2 (And.intro (fun q => absurd c_3 q) (fun _ => g)))))) ?_
      exact mm_re (c := [(3, .int w3)]) hK rfl rfl
    · have hf := mo_neg hf c_3
      obtain rfl := Option.some.inj hf
      refine mm_adv 14 (cs' := P_X6_speakerNamed.drop 2) (l' := [(3, .int (w3 + (1 : Int32))), (0, .ref 6), (1, .long v1)]) (st' := []) (h' := (xs_H pt ps pg (.ref 17) s)) (bc' := 0) (bs' := 0) (fun n g => (And.intro (fun q => absurd q c_1) (fun _ => (And.intro hi_2 (And.intro (fun _ => g) (fun q => absurd c_3 q)))))) ?_
      exact mm_re (c := [(0, .ref 6), (1, .long v1), (3, .int (w3 + (1 : Int32)))]) hK rfl rfl
noncomputable def xf_6_speakerNamed (s : xs_S) (a0 : Int64) : Option (Int32 × xs_S) :=
((mo_loop (xf_6_speakerNamed_l2 (a0)) ((0 : Int32), s)).bind fun x_4 =>
match x_4 with
| (.inl (e3_4, s_4)) => some (e3_4, s_4)
| (.inr s_4) => some ((-1 : Int32), s_4)
)
set_option maxHeartbeats 4000000 in
theorem xb_6_speakerNamed {C : mm_C} {Q : mm_R} {pt : Value} {ps : Value} {pg : Value}  (s : xs_S) (a0 : Int64) (v : Int32) (s2 : xs_S) (hf : xf_6_speakerNamed s a0 = some (v, s2)) (hK : Q (some (.int v)) (xs_H pt ps pg (.ref 17) s2)) : mm_go C mm_Mk mm_Fk P_X6_speakerNamed Q P_X6_speakerNamed [(0, .ref 6), (1, .long a0)] [] (xs_H pt ps pg (.ref 17) s) 0 0 := by
  unfold xf_6_speakerNamed at hf
  obtain ⟨x_4, hl_4, hf⟩ := mo_bind hf
  refine mm_adv 2 (cs' := P_X6_speakerNamed.drop 2) (l' := [(3, .int (0 : Int32)), (0, .ref 6), (1, .long a0)]) (st' := []) (h' := (xs_H pt ps pg (.ref 17) s)) (bc' := 0) (bs' := 0) (fun n g => g) ?_
  refine mm_re (l' := [(0, .ref 6), (1, .long a0), (3, .int (0 : Int32))]) (c := [(0, .ref 6), (1, .long a0), (3, .int (0 : Int32))]) ?_ rfl rfl
  refine xb_6_speakerNamed_l2  (a0) ((0 : Int32), s) x_4 hl_4 ?_
  cases x_4 with
  | inl y_4 =>
    obtain ⟨e3_4, s_4⟩ := y_4
    obtain ⟨rfl, rfl⟩ := mo_pair hf
    exact ⟨2, hK⟩
  | inr z_4_0 =>
    obtain ⟨s_4, rfl⟩ : ∃ q, q = z_4_0 := ⟨_, rfl⟩
    obtain ⟨rfl, rfl⟩ := mo_pair hf
    exact ⟨2, hK⟩
def xk_6_speakerNamed (C : mm_C) : Prop := ∀ (pt : Value) (ps : Value) (pg : Value) (s : xs_S) (a0 : Int64) (v : Int32) (s2 : xs_S) (Q : mm_R), xf_6_speakerNamed s a0 = some (v, s2) → Q (some (.int v)) (xs_H pt ps pg (.ref 17) s2) → C 180 [.ref 6, .long a0] (xs_H pt ps pg (.ref 17) s) Q
-- 6_isTold
noncomputable def xf_6_isTold_l2 (v1 : Int64) : (Int32 × xs_S) → Option ((Int32 × xs_S) ⊕ ((xs_S) ⊕ (xs_S))) := fun (w3, s) =>
(if (s.1 276) ≤ w3 then
some (.inr (.inr (s)))
else
((mo_al 6 (s.2.2.1 8) w3).bind fun x_2 =>
(if (lg_cmp x_2 v1) = (0 : Int32) then
some (.inr (.inl (s)))
else
some (.inl ((w3 + (1 : Int32)), s)))))
set_option maxHeartbeats 4000000 in
theorem xb_6_isTold_l2 {C : mm_C} {Q : mm_R} {pt : Value} {ps : Value} {pg : Value} (h_6_speakerNamed : xk_6_speakerNamed C) (v1 : Int64) (t : Int32 × xs_S) (x : (xs_S) ⊕ (xs_S)) (hl : mo_loop (xf_6_isTold_l2 v1) t = some x) (hK : (mo_sum (fun sy => mm_go C mm_Mk mm_Fk P_X6_isTold Q (P_X6_isTold.drop 14) [] [] (xs_H pt ps pg (.ref 17) sy) 0 0) (fun sy => mm_go C mm_Mk mm_Fk P_X6_isTold Q (P_X6_isTold.drop 18) [(0, .ref 6), (1, .long v1)] [] (xs_H pt ps pg (.ref 17) sy) 0 0)) x) : (mo_c2 (fun y3 sy => mm_go C mm_Mk mm_Fk P_X6_isTold Q (P_X6_isTold.drop 2) [(0, .ref 6), (1, .long v1), (3, .int y3)] [] (xs_H pt ps pg (.ref 17) sy) 0 0)) t := by
  refine mo_loop_go (G := (mo_c2 (fun y3 sy => mm_go C mm_Mk mm_Fk P_X6_isTold Q (P_X6_isTold.drop 2) [(0, .ref 6), (1, .long v1), (3, .int y3)] [] (xs_H pt ps pg (.ref 17) sy) 0 0)) ) (K := (mo_sum (fun sy => mm_go C mm_Mk mm_Fk P_X6_isTold Q (P_X6_isTold.drop 14) [] [] (xs_H pt ps pg (.ref 17) sy) 0 0) (fun sy => mm_go C mm_Mk mm_Fk P_X6_isTold Q (P_X6_isTold.drop 18) [(0, .ref 6), (1, .long v1)] [] (xs_H pt ps pg (.ref 17) sy) 0 0)) ) ?_ t x hl hK
  intro t r hf hK
  obtain ⟨w3, s⟩ := t
  unfold xf_6_isTold_l2 at hf
  by_cases c_1 : (s.1 276) ≤ w3
  · have hf := mo_pos hf c_1
    obtain rfl := Option.some.inj hf
    refine mm_adv 5 (cs' := P_X6_isTold.drop 18) (l' := [(0, .ref 6), (1, .long v1), (3, .int w3)]) (st' := []) (h' := (xs_H pt ps pg (.ref 17) s)) (bc' := 0) (bs' := 0) (fun n g => (And.intro (fun _ => g) (fun q => absurd c_1 q))) ?_
    exact mm_re (c := [(0, .ref 6), (1, .long v1)]) hK rfl rfl
  · have hf := mo_neg hf c_1
    obtain ⟨x_2, hx_2, hf⟩ := mo_bind hf
    obtain ⟨hi_2, rfl⟩ := mo_al_inv hx_2
    by_cases c_3 : (lg_cmp ((s.2.2.1 8) (w3).toNatClampNeg) v1) = (0 : Int32)
    · have hf := mo_pos hf c_3
      obtain rfl := Option.some.inj hf
      refine mm_adv 12 (cs' := P_X6_isTold.drop 14) (l' := [(0, .ref 6), (1, .long v1), (3, .int w3)]) (st' := []) (h' := (xs_H pt ps pg (.ref 17) s)) (bc' := 0) (bs' := 0) (fun n g => (And.intro (fun q => absurd q c_1) (fun _ => (And.intro hi_2 (And.intro (fun q => absurd c_3 q) (fun _ => g)))))) ?_
      exact mm_re (c := []) hK rfl rfl
    · have hf := mo_neg hf c_3
      obtain rfl := Option.some.inj hf
      refine mm_adv 14 (cs' := P_X6_isTold.drop 2) (l' := [(3, .int (w3 + (1 : Int32))), (0, .ref 6), (1, .long v1)]) (st' := []) (h' := (xs_H pt ps pg (.ref 17) s)) (bc' := 0) (bs' := 0) (fun n g => (And.intro (fun q => absurd q c_1) (fun _ => (And.intro hi_2 (And.intro (fun _ => g) (fun q => absurd c_3 q)))))) ?_
      exact mm_re (c := [(0, .ref 6), (1, .long v1), (3, .int (w3 + (1 : Int32)))]) hK rfl rfl
noncomputable def xf_6_isTold (s : xs_S) (a0 : Int64) : Option (Int32 × xs_S) :=
((mo_loop (xf_6_isTold_l2 (a0)) ((0 : Int32), s)).bind fun x_4 =>
match x_4 with
| (.inl s_4) => some ((1 : Int32), s_4)
| (.inr s_4) => ((xf_6_speakerNamed s_4 (a0)).bind fun (v_5, s_5) =>
(if v_5 = (-1 : Int32) then
some ((0 : Int32), s_5)
else
some ((1 : Int32), s_5)))
)
set_option maxHeartbeats 4000000 in
theorem xb_6_isTold {C : mm_C} {Q : mm_R} {pt : Value} {ps : Value} {pg : Value} (h_6_speakerNamed : xk_6_speakerNamed C) (s : xs_S) (a0 : Int64) (v : Int32) (s2 : xs_S) (hf : xf_6_isTold s a0 = some (v, s2)) (hK : Q (some (.int v)) (xs_H pt ps pg (.ref 17) s2)) : mm_go C mm_Mk mm_Fk P_X6_isTold Q P_X6_isTold [(0, .ref 6), (1, .long a0)] [] (xs_H pt ps pg (.ref 17) s) 0 0 := by
  unfold xf_6_isTold at hf
  obtain ⟨x_4, hl_4, hf⟩ := mo_bind hf
  refine mm_adv 2 (cs' := P_X6_isTold.drop 2) (l' := [(3, .int (0 : Int32)), (0, .ref 6), (1, .long a0)]) (st' := []) (h' := (xs_H pt ps pg (.ref 17) s)) (bc' := 0) (bs' := 0) (fun n g => g) ?_
  refine mm_re (l' := [(0, .ref 6), (1, .long a0), (3, .int (0 : Int32))]) (c := [(0, .ref 6), (1, .long a0), (3, .int (0 : Int32))]) ?_ rfl rfl
  refine xb_6_isTold_l2 h_6_speakerNamed (a0) ((0 : Int32), s) x_4 hl_4 ?_
  cases x_4 with
  | inl y_4 =>
    obtain ⟨s_4, rfl⟩ : ∃ q, q = y_4 := ⟨_, rfl⟩
    obtain ⟨rfl, rfl⟩ := mo_pair hf
    exact ⟨2, (And.intro rfl hK)⟩
  | inr z_4_0 =>
    obtain ⟨s_4, rfl⟩ : ∃ q, q = z_4_0 := ⟨_, rfl⟩
    obtain ⟨r_5, hr_5, hf⟩ := mo_bind hf
    obtain ⟨v_5, s_5⟩ := r_5
    by_cases c_6 : v_5 = (-1 : Int32)
    · have hf := mo_pos hf c_6
      obtain ⟨rfl, rfl⟩ := mo_pair hf
      exact ⟨7, (h_6_speakerNamed pt ps pg s_4 (a0) v_5 s_5 _ hr_5 (And.intro (fun _ => (And.intro rfl hK)) (fun q => absurd c_6 q)))⟩
    · have hf := mo_neg hf c_6
      obtain ⟨rfl, rfl⟩ := mo_pair hf
      exact ⟨8, (h_6_speakerNamed pt ps pg s_4 (a0) v_5 s_5 _ hr_5 (And.intro (fun q => absurd q c_6) (fun _ => (And.intro rfl hK))))⟩
def xk_6_isTold (C : mm_C) : Prop := ∀ (pt : Value) (ps : Value) (pg : Value) (s : xs_S) (a0 : Int64) (v : Int32) (s2 : xs_S) (Q : mm_R), xf_6_isTold s a0 = some (v, s2) → Q (some (.int v)) (xs_H pt ps pg (.ref 17) s2) → C 179 [.ref 6, .long a0] (xs_H pt ps pg (.ref 17) s) Q
-- 6_note
noncomputable def xf_6_note (s : xs_S) (a0 : Int32) (a1 : Int32) : Option (xs_S) :=
(if (s.1 103) = (0 : Int32) then
some (xs_sI (xs_sI s 103 (a0)) 104 (a1))
else
some s)
set_option maxHeartbeats 4000000 in
theorem xb_6_note {C : mm_C} {Q : mm_R} {pt : Value} {ps : Value} {pg : Value} {pr : Value}  (s : xs_S) (a0 : Int32) (a1 : Int32) (s2 : xs_S) (hf : xf_6_note s a0 a1 = some s2) (hK : Q (none) (xs_H pt ps pg pr s2)) : mm_go C mm_Mk mm_Fk P_X6_note Q P_X6_note [(0, .ref 6), (1, .int a0), (2, .int a1)] [] (xs_H pt ps pg pr s) 0 0 := by
  unfold xf_6_note at hf
  by_cases c_1 : (s.1 103) = (0 : Int32)
  · have hf := mo_pos hf c_1
    obtain rfl := Option.some.inj hf
    exact ⟨10, (And.intro (fun q => absurd c_1 q) (fun _ => (And.intro trivial (And.intro trivial hK))))⟩
  · have hf := mo_neg hf c_1
    obtain rfl := Option.some.inj hf
    exact ⟨4, (And.intro (fun _ => hK) (fun q => absurd c_1 q))⟩
def xk_6_note (C : mm_C) : Prop := ∀ (pt : Value) (ps : Value) (pg : Value) (pr : Value) (s : xs_S) (a0 : Int32) (a1 : Int32) (s2 : xs_S) (Q : mm_R), xf_6_note s a0 a1 = some s2 → Q (none) (xs_H pt ps pg pr s2) → C 183 [.ref 6, .int a0, .int a1] (xs_H pt ps pg pr s) Q
-- 6_takeNewName
noncomputable def xf_6_takeNewName (s : xs_S)  : Option (Int64 × xs_S) :=
((xf_6_value s ).bind fun (v_1, s_1) =>
((xf_6_placeNow s_1 ).bind fun (v_2, s_2) =>
((xf_6_take s_2 ((21 : Int32))).bind fun (v_3, s_3) =>
(if v_3 = (0 : Int32) then
some (v_1, s_3)
else
((xf_6_isTold s_3 (v_1)).bind fun (v_5, s_5) =>
(if v_5 = (0 : Int32) then
some (v_1, s_5)
else
((xf_6_note s_5 ((3 : Int32)) (v_2)).bind fun s_7 =>
some (v_1, s_7))))))))
set_option maxHeartbeats 4000000 in
theorem xb_6_takeNewName {C : mm_C} {Q : mm_R} {pt : Value} {ps : Value} {pg : Value} (h_6_value : xk_6_value C) (h_6_placeNow : xk_6_placeNow C) (h_6_take : xk_6_take C) (h_6_isTold : xk_6_isTold C) (h_6_note : xk_6_note C) (s : xs_S)  (v : Int64) (s2 : xs_S) (hf : xf_6_takeNewName s = some (v, s2)) (hK : Q (some (.long v)) (xs_H pt ps pg (.ref 17) s2)) : mm_go C mm_Mk mm_Fk P_X6_takeNewName Q P_X6_takeNewName [(0, .ref 6)] [] (xs_H pt ps pg (.ref 17) s) 0 0 := by
  unfold xf_6_takeNewName at hf
  obtain ⟨r_1, hr_1, hf⟩ := mo_bind hf
  obtain ⟨v_1, s_1⟩ := r_1
  obtain ⟨r_2, hr_2, hf⟩ := mo_bind hf
  obtain ⟨v_2, s_2⟩ := r_2
  obtain ⟨r_3, hr_3, hf⟩ := mo_bind hf
  obtain ⟨v_3, s_3⟩ := r_3
  by_cases c_4 : v_3 = (0 : Int32)
  · have hf := mo_pos hf c_4
    obtain ⟨rfl, rfl⟩ := mo_pair hf
    exact ⟨12, (h_6_value pt ps pg (.ref 17) s  v_1 s_1 _ hr_1 (h_6_placeNow pt ps pg (.ref 17) s_1  v_2 s_2 _ hr_2 (h_6_take pt ps pg (.ref 17) s_2 ((21 : Int32)) v_3 s_3 _ hr_3 (And.intro (fun _ => hK) (fun q => absurd c_4 q)))))⟩
  · have hf := mo_neg hf c_4
    obtain ⟨r_5, hr_5, hf⟩ := mo_bind hf
    obtain ⟨v_5, s_5⟩ := r_5
    by_cases c_6 : v_5 = (0 : Int32)
    · have hf := mo_pos hf c_6
      obtain ⟨rfl, rfl⟩ := mo_pair hf
      exact ⟨16, (h_6_value pt ps pg (.ref 17) s  v_1 s_1 _ hr_1 (h_6_placeNow pt ps pg (.ref 17) s_1  v_2 s_2 _ hr_2 (h_6_take pt ps pg (.ref 17) s_2 ((21 : Int32)) v_3 s_3 _ hr_3 (And.intro (fun q => absurd q c_4) (fun _ => (h_6_isTold pt ps pg s_3 (v_1) v_5 s_5 _ hr_5 (And.intro (fun _ => hK) (fun q => absurd c_6 q))))))))⟩
    · have hf := mo_neg hf c_6
      obtain ⟨s_7, hr_7, hf⟩ := mo_bind hf
      obtain ⟨rfl, rfl⟩ := mo_pair hf
      exact ⟨20, (h_6_value pt ps pg (.ref 17) s  v_1 s_1 _ hr_1 (h_6_placeNow pt ps pg (.ref 17) s_1  v_2 s_2 _ hr_2 (h_6_take pt ps pg (.ref 17) s_2 ((21 : Int32)) v_3 s_3 _ hr_3 (And.intro (fun q => absurd q c_4) (fun _ => (h_6_isTold pt ps pg s_3 (v_1) v_5 s_5 _ hr_5 (And.intro (fun q => absurd q c_6) (fun _ => (h_6_note pt ps pg (.ref 17) s_5 ((3 : Int32)) (v_2) s_7 _ hr_7 hK)))))))))⟩
def xk_6_takeNewName (C : mm_C) : Prop := ∀ (pt : Value) (ps : Value) (pg : Value) (s : xs_S)  (v : Int64) (s2 : xs_S) (Q : mm_R), xf_6_takeNewName s = some (v, s2) → Q (some (.long v)) (xs_H pt ps pg (.ref 17) s2) → C 176 [.ref 6] (xs_H pt ps pg (.ref 17) s) Q
-- 6_takeInt
noncomputable def xf_6_takeInt_j17 (s : xs_S) (v3 : Int32) (v4 : Int32) : Option (Int32 × xs_S) :=
((xf_6_note s ((5 : Int32)) (v4)).bind fun s_6 =>
some (v3, s_6))
set_option maxHeartbeats 4000000 in
theorem xb_6_takeInt_j17 {C : mm_C} {Q : mm_R} {pt : Value} {ps : Value} {pg : Value} {pr : Value} (h_6_value : xk_6_value C) (h_6_placeNow : xk_6_placeNow C) (h_6_take : xk_6_take C) (h_6_note : xk_6_note C) (s : xs_S) (v3 : Int32) (v4 : Int32) (v : Int32) (s2 : xs_S) (hf : xf_6_takeInt_j17 s v3 v4 = some (v, s2)) (hK : Q (some (.int v)) (xs_H pt ps pg pr s2)) : mm_go C mm_Mk mm_Fk P_X6_takeInt Q (P_X6_takeInt.drop 17) [(0, .ref 6), (3, .int v3), (4, .int v4)] [] (xs_H pt ps pg pr s) 0 0 := by
  unfold xf_6_takeInt_j17 at hf
  obtain ⟨s_6, hr_6, hf⟩ := mo_bind hf
  obtain ⟨rfl, rfl⟩ := mo_pair hf
  exact ⟨6, (h_6_note pt ps pg pr s ((5 : Int32)) (v4) s_6 _ hr_6 hK)⟩
noncomputable def xf_6_takeInt (s : xs_S) (a0 : Int32) (a1 : Int32) : Option (Int32 × xs_S) :=
((xf_6_value s ).bind fun (v_1, s_1) =>
((xf_6_placeNow s_1 ).bind fun (v_2, s_2) =>
((xf_6_take s_2 ((22 : Int32))).bind fun (v_3, s_3) =>
(if v_3 = (0 : Int32) then
some ((v_1).toInt32, s_3)
else
(if (v_1).toInt32 < a0 then
(xf_6_takeInt_j17 (s_3) ((v_1).toInt32) (v_2))
else
(if (v_1).toInt32 ≤ a1 then
some ((v_1).toInt32, s_3)
else
(xf_6_takeInt_j17 (s_3) ((v_1).toInt32) (v_2))))))))
set_option maxHeartbeats 4000000 in
theorem xb_6_takeInt {C : mm_C} {Q : mm_R} {pt : Value} {ps : Value} {pg : Value} {pr : Value} (h_6_value : xk_6_value C) (h_6_placeNow : xk_6_placeNow C) (h_6_take : xk_6_take C) (h_6_note : xk_6_note C) (s : xs_S) (a0 : Int32) (a1 : Int32) (v : Int32) (s2 : xs_S) (hf : xf_6_takeInt s a0 a1 = some (v, s2)) (hK : Q (some (.int v)) (xs_H pt ps pg pr s2)) : mm_go C mm_Mk mm_Fk P_X6_takeInt Q P_X6_takeInt [(0, .ref 6), (1, .int a0), (2, .int a1)] [] (xs_H pt ps pg pr s) 0 0 := by
  unfold xf_6_takeInt at hf
  obtain ⟨r_1, hr_1, hf⟩ := mo_bind hf
  obtain ⟨v_1, s_1⟩ := r_1
  obtain ⟨r_2, hr_2, hf⟩ := mo_bind hf
  obtain ⟨v_2, s_2⟩ := r_2
  obtain ⟨r_3, hr_3, hf⟩ := mo_bind hf
  obtain ⟨v_3, s_3⟩ := r_3
  by_cases c_4 : v_3 = (0 : Int32)
  · have hf := mo_pos hf c_4
    obtain ⟨rfl, rfl⟩ := mo_pair hf
    exact ⟨13, (h_6_value pt ps pg pr s  v_1 s_1 _ hr_1 (h_6_placeNow pt ps pg pr s_1  v_2 s_2 _ hr_2 (h_6_take pt ps pg pr s_2 ((22 : Int32)) v_3 s_3 _ hr_3 (And.intro (fun _ => hK) (fun q => absurd c_4 q)))))⟩
  · have hf := mo_neg hf c_4
    by_cases c_5 : (v_1).toInt32 < a0
    · have hf := mo_pos hf c_5
      refine mm_adv 14 (cs' := P_X6_takeInt.drop 17) (l' := [(4, .int v_2), (3, .int (v_1).toInt32), (0, .ref 6), (1, .int a0), (2, .int a1)]) (st' := []) (h' := (xs_H pt ps pg pr s_3)) (bc' := 0) (bs' := 0) (fun n g => (h_6_value pt ps pg pr s  v_1 s_1 _ hr_1 (h_6_placeNow pt ps pg pr s_1  v_2 s_2 _ hr_2 (h_6_take pt ps pg pr s_2 ((22 : Int32)) v_3 s_3 _ hr_3 (And.intro (fun q => absurd q c_4) (fun _ => (And.intro (fun _ => g) (fun q => absurd c_5 q)))))))) ?_
      refine mm_re (l' := [(0, .ref 6), (3, .int (v_1).toInt32), (4, .int v_2)]) (c := [(0, .ref 6), (3, .int (v_1).toInt32), (4, .int v_2)]) ?_ rfl rfl
      exact xb_6_takeInt_j17 h_6_value h_6_placeNow h_6_take h_6_note s_3 ((v_1).toInt32) (v_2) _ _ hf hK
    · have hf := mo_neg hf c_5
      by_cases c_7 : (v_1).toInt32 ≤ a1
      · have hf := mo_pos hf c_7
        obtain ⟨rfl, rfl⟩ := mo_pair hf
        exact ⟨19, (h_6_value pt ps pg pr s  v_1 s_1 _ hr_1 (h_6_placeNow pt ps pg pr s_1  v_2 s_2 _ hr_2 (h_6_take pt ps pg pr s_2 ((22 : Int32)) v_3 s_3 _ hr_3 (And.intro (fun q => absurd q c_4) (fun _ => (And.intro (fun q => absurd q c_5) (fun _ => (And.intro (fun _ => hK) (fun q => absurd c_7 q)))))))))⟩
      · have hf := mo_neg hf c_7
        refine mm_adv 17 (cs' := P_X6_takeInt.drop 17) (l' := [(4, .int v_2), (3, .int (v_1).toInt32), (0, .ref 6), (1, .int a0), (2, .int a1)]) (st' := []) (h' := (xs_H pt ps pg pr s_3)) (bc' := 0) (bs' := 0) (fun n g => (h_6_value pt ps pg pr s  v_1 s_1 _ hr_1 (h_6_placeNow pt ps pg pr s_1  v_2 s_2 _ hr_2 (h_6_take pt ps pg pr s_2 ((22 : Int32)) v_3 s_3 _ hr_3 (And.intro (fun q => absurd q c_4) (fun _ => (And.intro (fun q => absurd q c_5) (fun _ => (And.intro (fun q => absurd q c_7) (fun _ => g)))))))))) ?_
        refine mm_re (l' := [(0, .ref 6), (3, .int (v_1).toInt32), (4, .int v_2)]) (c := [(0, .ref 6), (3, .int (v_1).toInt32), (4, .int v_2)]) ?_ rfl rfl
        exact xb_6_takeInt_j17 h_6_value h_6_placeNow h_6_take h_6_note s_3 ((v_1).toInt32) (v_2) _ _ hf hK
def xk_6_takeInt (C : mm_C) : Prop := ∀ (pt : Value) (ps : Value) (pg : Value) (pr : Value) (s : xs_S) (a0 : Int32) (a1 : Int32) (v : Int32) (s2 : xs_S) (Q : mm_R), xf_6_takeInt s a0 a1 = some (v, s2) → Q (some (.int v)) (xs_H pt ps pg pr s2) → C 177 [.ref 6, .int a0, .int a1] (xs_H pt ps pg pr s) Q
-- 6_tellSpeaker
noncomputable def xf_6_tellSpeaker (s : xs_S)  : Option (xs_S) :=
(if (s.1 275) < (5 : Int32) then
((xf_6_take s ((0 : Int32))).bind fun (v_2, s_2) =>
((xf_6_takeNewName s_2 ).bind fun (v_3, s_3) =>
((xf_6_takeInt s_3 ((0 : Int32)) ((9 : Int32))).bind fun (v_4, s_4) =>
((xf_6_take s_4 ((23 : Int32))).bind fun (v_5, s_5) =>
(bif mo_in (s_5.1 275) 5 then (bif mo_in (s_5.1 275) 5 then some (xs_sL (xs_sA (xs_sI s_5 275 (((s_5.1 275) + (1 : Int32)))) 18 (upd (s_5.2.1 18) ((s_5.1 275)).toNatClampNeg (v_4))) 7 (vp_updL (s_5.2.2.1 7) ((s_5.1 275)).toNatClampNeg (v_3))) else none) else none)))))
else
((xf_6_fail s ((2 : Int32))).bind fun s_8 =>
some s_8))
set_option maxHeartbeats 4000000 in
theorem xb_6_tellSpeaker {C : mm_C} {Q : mm_R} {pt : Value} {ps : Value} {pg : Value} (h_6_take : xk_6_take C) (h_6_takeNewName : xk_6_takeNewName C) (h_6_takeInt : xk_6_takeInt C) (h_6_fail : xk_6_fail C) (s : xs_S)  (s2 : xs_S) (hf : xf_6_tellSpeaker s = some s2) (hK : Q (none) (xs_H pt ps pg (.ref 17) s2)) : mm_go C mm_Mk mm_Fk P_X6_tellSpeaker Q P_X6_tellSpeaker [(0, .ref 6)] [] (xs_H pt ps pg (.ref 17) s) 0 0 := by
  unfold xf_6_tellSpeaker at hf
  by_cases c_1 : (s.1 275) < (5 : Int32)
  · have hf := mo_pos hf c_1
    obtain ⟨r_2, hr_2, hf⟩ := mo_bind hf
    obtain ⟨v_2, s_2⟩ := r_2
    obtain ⟨r_3, hr_3, hf⟩ := mo_bind hf
    obtain ⟨v_3, s_3⟩ := r_3
    obtain ⟨r_4, hr_4, hf⟩ := mo_bind hf
    obtain ⟨v_4, s_4⟩ := r_4
    obtain ⟨r_5, hr_5, hf⟩ := mo_bind hf
    obtain ⟨v_5, s_5⟩ := r_5
    obtain ⟨hi_6, hf⟩ := mo_if hf
    obtain ⟨hi_7, hf⟩ := mo_if hf
    obtain rfl := Option.some.inj hf
    exact ⟨44, (And.intro (fun _ => (h_6_take pt ps pg (.ref 17) s ((0 : Int32)) v_2 s_2 _ hr_2 (h_6_takeNewName pt ps pg s_2  v_3 s_3 _ hr_3 (h_6_takeInt pt ps pg (.ref 17) s_3 ((0 : Int32)) ((9 : Int32)) v_4 s_4 _ hr_4 (h_6_take pt ps pg (.ref 17) s_4 ((23 : Int32)) v_5 s_5 _ hr_5 (And.intro hi_6 (And.intro hi_7 (And.intro trivial hK)))))))) (fun q => absurd c_1 q))⟩
  · have hf := mo_neg hf c_1
    obtain ⟨s_8, hr_8, hf⟩ := mo_bind hf
    obtain rfl := Option.some.inj hf
    exact ⟨9, (And.intro (fun q => absurd q c_1) (fun _ => (h_6_fail pt ps pg (.ref 17) s ((2 : Int32)) s_8 _ hr_8 hK)))⟩
def xk_6_tellSpeaker (C : mm_C) : Prop := ∀ (pt : Value) (ps : Value) (pg : Value) (s : xs_S)  (s2 : xs_S) (Q : mm_R), xf_6_tellSpeaker s = some s2 → Q (none) (xs_H pt ps pg (.ref 17) s2) → C 168 [.ref 6] (xs_H pt ps pg (.ref 17) s) Q
-- 6_tellWord
noncomputable def xf_6_tellWord (s : xs_S)  : Option (xs_S) :=
(if (s.1 276) < (6 : Int32) then
((xf_6_take s ((1 : Int32))).bind fun (v_2, s_2) =>
((xf_6_takeNewName s_2 ).bind fun (v_3, s_3) =>
((xf_6_takeInt s_3 ((0 : Int32)) ((9 : Int32))).bind fun (v_4, s_4) =>
((xf_6_take s_4 ((23 : Int32))).bind fun (v_5, s_5) =>
(bif mo_in (s_5.1 276) 6 then (bif mo_in (s_5.1 276) 6 then some (xs_sL (xs_sA (xs_sI s_5 276 (((s_5.1 276) + (1 : Int32)))) 19 (upd (s_5.2.1 19) ((s_5.1 276)).toNatClampNeg (v_4))) 8 (vp_updL (s_5.2.2.1 8) ((s_5.1 276)).toNatClampNeg (v_3))) else none) else none)))))
else
((xf_6_fail s ((2 : Int32))).bind fun s_8 =>
some s_8))
set_option maxHeartbeats 4000000 in
theorem xb_6_tellWord {C : mm_C} {Q : mm_R} {pt : Value} {ps : Value} {pg : Value} (h_6_take : xk_6_take C) (h_6_takeNewName : xk_6_takeNewName C) (h_6_takeInt : xk_6_takeInt C) (h_6_fail : xk_6_fail C) (s : xs_S)  (s2 : xs_S) (hf : xf_6_tellWord s = some s2) (hK : Q (none) (xs_H pt ps pg (.ref 17) s2)) : mm_go C mm_Mk mm_Fk P_X6_tellWord Q P_X6_tellWord [(0, .ref 6)] [] (xs_H pt ps pg (.ref 17) s) 0 0 := by
  unfold xf_6_tellWord at hf
  by_cases c_1 : (s.1 276) < (6 : Int32)
  · have hf := mo_pos hf c_1
    obtain ⟨r_2, hr_2, hf⟩ := mo_bind hf
    obtain ⟨v_2, s_2⟩ := r_2
    obtain ⟨r_3, hr_3, hf⟩ := mo_bind hf
    obtain ⟨v_3, s_3⟩ := r_3
    obtain ⟨r_4, hr_4, hf⟩ := mo_bind hf
    obtain ⟨v_4, s_4⟩ := r_4
    obtain ⟨r_5, hr_5, hf⟩ := mo_bind hf
    obtain ⟨v_5, s_5⟩ := r_5
    obtain ⟨hi_6, hf⟩ := mo_if hf
    obtain ⟨hi_7, hf⟩ := mo_if hf
    obtain rfl := Option.some.inj hf
    exact ⟨44, (And.intro (fun _ => (h_6_take pt ps pg (.ref 17) s ((1 : Int32)) v_2 s_2 _ hr_2 (h_6_takeNewName pt ps pg s_2  v_3 s_3 _ hr_3 (h_6_takeInt pt ps pg (.ref 17) s_3 ((0 : Int32)) ((9 : Int32)) v_4 s_4 _ hr_4 (h_6_take pt ps pg (.ref 17) s_4 ((23 : Int32)) v_5 s_5 _ hr_5 (And.intro hi_6 (And.intro hi_7 (And.intro trivial hK)))))))) (fun q => absurd c_1 q))⟩
  · have hf := mo_neg hf c_1
    obtain ⟨s_8, hr_8, hf⟩ := mo_bind hf
    obtain rfl := Option.some.inj hf
    exact ⟨9, (And.intro (fun q => absurd q c_1) (fun _ => (h_6_fail pt ps pg (.ref 17) s ((2 : Int32)) s_8 _ hr_8 hK)))⟩
def xk_6_tellWord (C : mm_C) : Prop := ∀ (pt : Value) (ps : Value) (pg : Value) (s : xs_S)  (s2 : xs_S) (Q : mm_R), xf_6_tellWord s = some s2 → Q (none) (xs_H pt ps pg (.ref 17) s2) → C 169 [.ref 6] (xs_H pt ps pg (.ref 17) s) Q
-- 6_takeSpeaker
noncomputable def xf_6_takeSpeaker (s : xs_S) (a0 : Int32) : Option (Int32 × xs_S) :=
((xf_6_value s ).bind fun (v_1, s_1) =>
((xf_6_speakerNamed s_1 (v_1)).bind fun (v_2, s_2) =>
((xf_6_placeNow s_2 ).bind fun (v_3, s_3) =>
((xf_6_take s_3 ((21 : Int32))).bind fun (v_4, s_4) =>
(if v_4 = (0 : Int32) then
some (v_2, s_4)
else
(if v_2 = (-1 : Int32) then
((xf_6_note s_4 ((4 : Int32)) (v_3)).bind fun s_7 =>
some (v_2, s_7))
else
(if v_2 = a0 then
((xf_6_note s_4 ((3 : Int32)) (v_3)).bind fun s_9 =>
some (v_2, s_9))
else
some (v_2, s_4))))))))
set_option maxHeartbeats 4000000 in
theorem xb_6_takeSpeaker {C : mm_C} {Q : mm_R} {pt : Value} {ps : Value} {pg : Value} (h_6_value : xk_6_value C) (h_6_speakerNamed : xk_6_speakerNamed C) (h_6_placeNow : xk_6_placeNow C) (h_6_take : xk_6_take C) (h_6_note : xk_6_note C) (s : xs_S) (a0 : Int32) (v : Int32) (s2 : xs_S) (hf : xf_6_takeSpeaker s a0 = some (v, s2)) (hK : Q (some (.int v)) (xs_H pt ps pg (.ref 17) s2)) : mm_go C mm_Mk mm_Fk P_X6_takeSpeaker Q P_X6_takeSpeaker [(0, .ref 6), (1, .int a0)] [] (xs_H pt ps pg (.ref 17) s) 0 0 := by
  unfold xf_6_takeSpeaker at hf
  obtain ⟨r_1, hr_1, hf⟩ := mo_bind hf
  obtain ⟨v_1, s_1⟩ := r_1
  obtain ⟨r_2, hr_2, hf⟩ := mo_bind hf
  obtain ⟨v_2, s_2⟩ := r_2
  obtain ⟨r_3, hr_3, hf⟩ := mo_bind hf
  obtain ⟨v_3, s_3⟩ := r_3
  obtain ⟨r_4, hr_4, hf⟩ := mo_bind hf
  obtain ⟨v_4, s_4⟩ := r_4
  by_cases c_5 : v_4 = (0 : Int32)
  · have hf := mo_pos hf c_5
    obtain ⟨rfl, rfl⟩ := mo_pair hf
    exact ⟨14, (h_6_value pt ps pg (.ref 17) s  v_1 s_1 _ hr_1 (h_6_speakerNamed pt ps pg s_1 (v_1) v_2 s_2 _ hr_2 (h_6_placeNow pt ps pg (.ref 17) s_2  v_3 s_3 _ hr_3 (h_6_take pt ps pg (.ref 17) s_3 ((21 : Int32)) v_4 s_4 _ hr_4 (And.intro (fun _ => hK) (fun q => absurd c_5 q))))))⟩
  · have hf := mo_neg hf c_5
    by_cases c_6 : v_2 = (-1 : Int32)
    · have hf := mo_pos hf c_6
      obtain ⟨s_7, hr_7, hf⟩ := mo_bind hf
      obtain ⟨rfl, rfl⟩ := mo_pair hf
      exact ⟨22, (h_6_value pt ps pg (.ref 17) s  v_1 s_1 _ hr_1 (h_6_speakerNamed pt ps pg s_1 (v_1) v_2 s_2 _ hr_2 (h_6_placeNow pt ps pg (.ref 17) s_2  v_3 s_3 _ hr_3 (h_6_take pt ps pg (.ref 17) s_3 ((21 : Int32)) v_4 s_4 _ hr_4 (And.intro (fun q => absurd q c_5) (fun _ => (And.intro (fun q => absurd c_6 q) (fun _ => (h_6_note pt ps pg (.ref 17) s_4 ((4 : Int32)) (v_3) s_7 _ hr_7 hK)))))))))⟩
    · have hf := mo_neg hf c_6
      by_cases c_8 : v_2 = a0
      · have hf := mo_pos hf c_8
        obtain ⟨s_9, hr_9, hf⟩ := mo_bind hf
        obtain ⟨rfl, rfl⟩ := mo_pair hf
        exact ⟨24, (h_6_value pt ps pg (.ref 17) s  v_1 s_1 _ hr_1 (h_6_speakerNamed pt ps pg s_1 (v_1) v_2 s_2 _ hr_2 (h_6_placeNow pt ps pg (.ref 17) s_2  v_3 s_3 _ hr_3 (h_6_take pt ps pg (.ref 17) s_3 ((21 : Int32)) v_4 s_4 _ hr_4 (And.intro (fun q => absurd q c_5) (fun _ => (And.intro (fun _ => (And.intro (fun q => absurd c_8 q) (fun _ => (h_6_note pt ps pg (.ref 17) s_4 ((3 : Int32)) (v_3) s_9 _ hr_9 hK)))) (fun q => absurd c_6 q))))))))⟩
      · have hf := mo_neg hf c_8
        obtain ⟨rfl, rfl⟩ := mo_pair hf
        exact ⟨20, (h_6_value pt ps pg (.ref 17) s  v_1 s_1 _ hr_1 (h_6_speakerNamed pt ps pg s_1 (v_1) v_2 s_2 _ hr_2 (h_6_placeNow pt ps pg (.ref 17) s_2  v_3 s_3 _ hr_3 (h_6_take pt ps pg (.ref 17) s_3 ((21 : Int32)) v_4 s_4 _ hr_4 (And.intro (fun q => absurd q c_5) (fun _ => (And.intro (fun _ => (And.intro (fun _ => hK) (fun q => absurd c_8 q))) (fun q => absurd c_6 q))))))))⟩
def xk_6_takeSpeaker (C : mm_C) : Prop := ∀ (pt : Value) (ps : Value) (pg : Value) (s : xs_S) (a0 : Int32) (v : Int32) (s2 : xs_S) (Q : mm_R), xf_6_takeSpeaker s a0 = some (v, s2) → Q (some (.int v)) (xs_H pt ps pg (.ref 17) s2) → C 178 [.ref 6, .int a0] (xs_H pt ps pg (.ref 17) s) Q
-- 6_tellPair
noncomputable def xf_6_tellPair (s : xs_S)  : Option (xs_S) :=
((xf_6_take s ((2 : Int32))).bind fun (v_1, s_1) =>
((xf_6_takeSpeaker s_1 ((-1 : Int32))).bind fun (v_2, s_2) =>
((xf_6_takeSpeaker (xs_sI s_2 277 (v_2)) (v_2)).bind fun (v_3, s_3) =>
((xf_6_take (xs_sI s_3 278 (v_3)) ((23 : Int32))).bind fun (v_4, s_4) =>
some s_4))))
set_option maxHeartbeats 4000000 in
theorem xb_6_tellPair {C : mm_C} {Q : mm_R} {pt : Value} {ps : Value} {pg : Value} (h_6_take : xk_6_take C) (h_6_takeSpeaker : xk_6_takeSpeaker C) (s : xs_S)  (s2 : xs_S) (hf : xf_6_tellPair s = some s2) (hK : Q (none) (xs_H pt ps pg (.ref 17) s2)) : mm_go C mm_Mk mm_Fk P_X6_tellPair Q P_X6_tellPair [(0, .ref 6)] [] (xs_H pt ps pg (.ref 17) s) 0 0 := by
  unfold xf_6_tellPair at hf
  obtain ⟨r_1, hr_1, hf⟩ := mo_bind hf
  obtain ⟨v_1, s_1⟩ := r_1
  obtain ⟨r_2, hr_2, hf⟩ := mo_bind hf
  obtain ⟨v_2, s_2⟩ := r_2
  obtain ⟨r_3, hr_3, hf⟩ := mo_bind hf
  obtain ⟨v_3, s_3⟩ := r_3
  obtain ⟨r_4, hr_4, hf⟩ := mo_bind hf
  obtain ⟨v_4, s_4⟩ := r_4
  obtain rfl := Option.some.inj hf
  exact ⟨23, (h_6_take pt ps pg (.ref 17) s ((2 : Int32)) v_1 s_1 _ hr_1 (h_6_takeSpeaker pt ps pg s_1 ((-1 : Int32)) v_2 s_2 _ hr_2 (And.intro trivial (h_6_takeSpeaker pt ps pg (xs_sI s_2 277 (v_2)) (v_2) v_3 s_3 _ hr_3 (And.intro trivial (h_6_take pt ps pg (.ref 17) (xs_sI s_3 278 (v_3)) ((23 : Int32)) v_4 s_4 _ hr_4 hK))))))⟩
def xk_6_tellPair (C : mm_C) : Prop := ∀ (pt : Value) (ps : Value) (pg : Value) (s : xs_S)  (s2 : xs_S) (Q : mm_R), xf_6_tellPair s = some s2 → Q (none) (xs_H pt ps pg (.ref 17) s2) → C 170 [.ref 6] (xs_H pt ps pg (.ref 17) s) Q
-- xr X6_sum
def xr_6_sum (rec : xs_S → Int32 → Option xs_S) (C : mm_C) : Prop := ∀ (pt : Value) (ps : Value) (pg : Value) (s : xs_S) (a0 : Int32) (s2 : xs_S) (Q : mm_R), rec s a0 = some s2 → Q none (xs_H pt ps pg (.ref 17) s2) → C 173 [.ref 6, .int a0] (xs_H pt ps pg (.ref 17) s) Q
-- 3_emit_20
noncomputable def xf_3_emit_20 (s : xs_S) (a0 : Int32) : Option (xs_S) :=
(if (Int32.ofNat 401) ≤ (s.1 321) then
some s
else
(bif mo_in (s.1 321) 401 then some (xs_sA (xs_sI s 321 (((s.1 321) + (1 : Int32)))) 21 (upd (s.2.1 21) ((s.1 321)).toNatClampNeg (a0))) else none))
set_option maxHeartbeats 4000000 in
theorem xb_3_emit_20 {C : mm_C} {Q : mm_R} {pt : Value} {ps : Value} {pg : Value} {pr : Value}  (s : xs_S) (a0 : Int32) (s2 : xs_S) (hf : xf_3_emit_20 s a0 = some s2) (hK : Q (none) (xs_H pt ps pg pr s2)) : mm_go C mm_Mk mm_Fk P_X3_emit Q P_X3_emit [(0, .ref 20), (1, .int a0)] [] (xs_H pt ps pg pr s) 0 0 := by
  unfold xf_3_emit_20 at hf
  by_cases c_1 : (Int32.ofNat 401) ≤ (s.1 321)
  · have hf := mo_pos hf c_1
    obtain rfl := Option.some.inj hf
    exact ⟨7, (And.intro (fun _ => hK) (fun q => absurd c_1 q))⟩
  · have hf := mo_neg hf c_1
    obtain ⟨hi_2, hf⟩ := mo_if hf
    obtain rfl := Option.some.inj hf
    exact ⟨19, (And.intro (fun q => absurd q c_1) (fun _ => (And.intro hi_2 (And.intro trivial hK))))⟩
def xk_3_emit_20 (C : mm_C) : Prop := ∀ (pt : Value) (ps : Value) (pg : Value) (pr : Value) (s : xs_S) (a0 : Int32) (s2 : xs_S) (Q : mm_R), xf_3_emit_20 s a0 = some s2 → Q (none) (xs_H pt ps pg pr s2) → C 152 [.ref 20, .int a0] (xs_H pt ps pg pr s) Q
-- 6_unit
noncomputable def xf_6_unit_j47 (rec : xs_S → Int32 → Option xs_S) (s : xs_S)  : Option (xs_S) :=
((xf_6_value s ).bind fun (v_9, s_9) =>
((xf_6_take s_9 ((22 : Int32))).bind fun (v_10, s_10) =>
((xf_3_emit_20 s_10 ((v_9).toInt32)).bind fun s_11 =>
some s_11)))
set_option maxHeartbeats 4000000 in
theorem xb_6_unit_j47 {C : mm_C} {Q : mm_R} {pt : Value} {ps : Value} {pg : Value} {rec : xs_S → Int32 → Option xs_S} (hrec : xr_6_sum rec C) (h_6_kind : xk_6_kind C) (h_6_take : xk_6_take C) (h_6_fail : xk_6_fail C) (h_6_value : xk_6_value C) (h_3_emit_20 : xk_3_emit_20 C) (s : xs_S)  (s2 : xs_S) (hf : xf_6_unit_j47 rec s = some s2) (hK : Q (none) (xs_H pt ps pg (.ref 17) s2)) : mm_go C mm_Mk mm_Fk P_X6_unit Q (P_X6_unit.drop 47) [(0, .ref 6)] [] (xs_H pt ps pg (.ref 17) s) 0 0 := by
  unfold xf_6_unit_j47 at hf
  obtain ⟨r_9, hr_9, hf⟩ := mo_bind hf
  obtain ⟨v_9, s_9⟩ := r_9
  obtain ⟨r_10, hr_10, hf⟩ := mo_bind hf
  obtain ⟨v_10, s_10⟩ := r_10
  obtain ⟨s_11, hr_11, hf⟩ := mo_bind hf
  obtain rfl := Option.some.inj hf
  exact ⟨14, (h_6_value pt ps pg (.ref 17) s  v_9 s_9 _ hr_9 (h_6_take pt ps pg (.ref 17) s_9 ((22 : Int32)) v_10 s_10 _ hr_10 (h_3_emit_20 pt ps pg (.ref 17) s_10 ((v_9).toInt32) s_11 _ hr_11 hK)))⟩
noncomputable def xf_6_unit (rec : xs_S → Int32 → Option xs_S) (s : xs_S) (a0 : Int32) : Option (xs_S) :=
((xf_6_kind s ).bind fun (v_1, s_1) =>
(if v_1 = (30 : Int32) then
(if a0 < (6 : Int32) then
((xf_6_take s_1 ((30 : Int32))).bind fun (v_4, s_4) =>
((rec s_4 ((a0 + (1 : Int32)))).bind fun s_5 =>
((xf_6_take s_5 ((31 : Int32))).bind fun (v_6, s_6) =>
some s_6)))
else
((xf_6_fail s_1 ((2 : Int32))).bind fun s_7 =>
some s_7))
else
(if v_1 < (12 : Int32) then
(xf_6_unit_j47 rec (s_1))
else
(if (20 : Int32) < v_1 then
(xf_6_unit_j47 rec (s_1))
else
((xf_6_take s_1 (v_1)).bind fun (v_13, s_13) =>
((xf_3_emit_20 s_13 ((((10000 : Int32) + v_1) - (12 : Int32)))).bind fun s_14 =>
some s_14))))))
set_option maxHeartbeats 4000000 in
theorem xb_6_unit {C : mm_C} {Q : mm_R} {pt : Value} {ps : Value} {pg : Value} {rec : xs_S → Int32 → Option xs_S} (hrec : xr_6_sum rec C) (h_6_kind : xk_6_kind C) (h_6_take : xk_6_take C) (h_6_fail : xk_6_fail C) (h_6_value : xk_6_value C) (h_3_emit_20 : xk_3_emit_20 C) (s : xs_S) (a0 : Int32) (s2 : xs_S) (hf : xf_6_unit rec s a0 = some s2) (hK : Q (none) (xs_H pt ps pg (.ref 17) s2)) : mm_go C mm_Mk mm_Fk P_X6_unit Q P_X6_unit [(0, .ref 6), (1, .int a0)] [] (xs_H pt ps pg (.ref 17) s) 0 0 := by
  unfold xf_6_unit at hf
  obtain ⟨r_1, hr_1, hf⟩ := mo_bind hf
  obtain ⟨v_1, s_1⟩ := r_1
  by_cases c_2 : v_1 = (30 : Int32)
  · have hf := mo_pos hf c_2
    by_cases c_3 : a0 < (6 : Int32)
    · have hf := mo_pos hf c_3
      obtain ⟨r_4, hr_4, hf⟩ := mo_bind hf
      obtain ⟨v_4, s_4⟩ := r_4
      obtain ⟨s_5, hr_5, hf⟩ := mo_bind hf
      obtain ⟨r_6, hr_6, hf⟩ := mo_bind hf
      obtain ⟨v_6, s_6⟩ := r_6
      obtain rfl := Option.some.inj hf
      exact ⟨24, (h_6_kind pt ps pg (.ref 17) s  v_1 s_1 _ hr_1 (And.intro (fun q => absurd c_2 q) (fun _ => (And.intro (fun _ => (h_6_take pt ps pg (.ref 17) s_1 ((30 : Int32)) v_4 s_4 _ hr_4 (hrec pt ps pg s_4 ((a0 + (1 : Int32))) s_5 _ hr_5 (h_6_take pt ps pg (.ref 17) s_5 ((31 : Int32)) v_6 s_6 _ hr_6 hK)))) (fun q => absurd c_3 q)))))⟩
    · have hf := mo_neg hf c_3
      obtain ⟨s_7, hr_7, hf⟩ := mo_bind hf
      obtain rfl := Option.some.inj hf
      exact ⟨13, (h_6_kind pt ps pg (.ref 17) s  v_1 s_1 _ hr_1 (And.intro (fun q => absurd c_2 q) (fun _ => (And.intro (fun q => absurd q c_3) (fun _ => (h_6_fail pt ps pg (.ref 17) s_1 ((2 : Int32)) s_7 _ hr_7 hK))))))⟩
  · have hf := mo_neg hf c_2
    by_cases c_8 : v_1 < (12 : Int32)
    · have hf := mo_pos hf c_8
      refine mm_adv 9 (cs' := P_X6_unit.drop 47) (l' := [(2, .int v_1), (0, .ref 6), (1, .int a0)]) (st' := []) (h' := (xs_H pt ps pg (.ref 17) s_1)) (bc' := 0) (bs' := 0) (fun n g => (h_6_kind pt ps pg (.ref 17) s  v_1 s_1 _ hr_1 (And.intro (fun _ => (And.intro (fun _ => g) (fun q => absurd c_8 q))) (fun q => absurd c_2 q)))) ?_
      refine mm_re (l' := [(0, .ref 6)]) (c := [(0, .ref 6)]) ?_ rfl rfl
      exact xb_6_unit_j47 hrec h_6_kind h_6_take h_6_fail h_6_value h_3_emit_20 s_1 _ hf hK
    · have hf := mo_neg hf c_8
      by_cases c_12 : (20 : Int32) < v_1
      · have hf := mo_pos hf c_12
        refine mm_adv 12 (cs' := P_X6_unit.drop 47) (l' := [(2, .int v_1), (0, .ref 6), (1, .int a0)]) (st' := []) (h' := (xs_H pt ps pg (.ref 17) s_1)) (bc' := 0) (bs' := 0) (fun n g => (h_6_kind pt ps pg (.ref 17) s  v_1 s_1 _ hr_1 (And.intro (fun _ => (And.intro (fun q => absurd q c_8) (fun _ => (And.intro (fun _ => g) (fun q => absurd c_12 q))))) (fun q => absurd c_2 q)))) ?_
        refine mm_re (l' := [(0, .ref 6)]) (c := [(0, .ref 6)]) ?_ rfl rfl
        exact xb_6_unit_j47 hrec h_6_kind h_6_take h_6_fail h_6_value h_3_emit_20 s_1 _ hf hK
      · have hf := mo_neg hf c_12
        obtain ⟨r_13, hr_13, hf⟩ := mo_bind hf
        obtain ⟨v_13, s_13⟩ := r_13
        obtain ⟨s_14, hr_14, hf⟩ := mo_bind hf
        obtain rfl := Option.some.inj hf
        exact ⟨27, (h_6_kind pt ps pg (.ref 17) s  v_1 s_1 _ hr_1 (And.intro (fun _ => (And.intro (fun q => absurd q c_8) (fun _ => (And.intro (fun q => absurd q c_12) (fun _ => (h_6_take pt ps pg (.ref 17) s_1 (v_1) v_13 s_13 _ hr_13 (h_3_emit_20 pt ps pg (.ref 17) s_13 ((((10000 : Int32) + v_1) - (12 : Int32))) s_14 _ hr_14 hK))))))) (fun q => absurd c_2 q)))⟩
def xk_6_unit (rec : xs_S → Int32 → Option xs_S) (C : mm_C) : Prop := ∀ (pt : Value) (ps : Value) (pg : Value) (s : xs_S) (a0 : Int32) (s2 : xs_S) (Q : mm_R), xf_6_unit rec s a0 = some s2 → Q (none) (xs_H pt ps pg (.ref 17) s2) → C 175 [.ref 6, .int a0] (xs_H pt ps pg (.ref 17) s) Q
-- 6_product
noncomputable def xf_6_product_j35 (rec : xs_S → Int32 → Option xs_S) (s : xs_S) (v1 : Int32) (v2 : Int32) (k0 : Int32) : Option ((Int32 × xs_S) ⊕ ((xs_S))) :=
((xf_3_emit_20 s (k0)).bind fun s_9 =>
some (.inl ((v2 + (1 : Int32)), s_9)))
set_option maxHeartbeats 4000000 in
theorem xb_6_product_j35 {C : mm_C} {Q : mm_R} {pt : Value} {ps : Value} {pg : Value} {rec : xs_S → Int32 → Option xs_S} (h_6_unit : xk_6_unit rec C) (h_6_kind : xk_6_kind C) (h_6_take : xk_6_take C) (h_3_emit_20 : xk_3_emit_20 C) (s : xs_S) (v1 : Int32) (v2 : Int32) (k0 : Int32) (r : (Int32 × xs_S) ⊕ ((xs_S))) (hf : xf_6_product_j35 rec s v1 v2 k0 = some r) (hK : mo_sum (mo_c2 (fun y2 sy => mm_go C mm_Mk mm_Fk P_X6_product Q (P_X6_product.drop 5) [(0, .ref 6), (1, .int v1), (2, .int y2)] [] (xs_H pt ps pg (.ref 17) sy) 0 0))  (fun sy => mm_go C mm_Mk mm_Fk P_X6_product Q (P_X6_product.drop 38) [] [] (xs_H pt ps pg (.ref 17) sy) 0 0)  r) : mm_go C mm_Mk mm_Fk P_X6_product Q (P_X6_product.drop 35) [(0, .ref 6), (1, .int v1), (2, .int v2)] [.int k0, .ref 20] (xs_H pt ps pg (.ref 17) s) 0 0 := by
  unfold xf_6_product_j35 at hf
  obtain ⟨s_9, hr_9, hf⟩ := mo_bind hf
  obtain rfl := Option.some.inj hf
  refine mm_adv 3 (cs' := P_X6_product.drop 5) (l' := [(2, .int (v2 + (1 : Int32))), (0, .ref 6), (1, .int v1)]) (st' := []) (h' := (xs_H pt ps pg (.ref 17) s_9)) (bc' := 0) (bs' := 0) (fun n g => (h_3_emit_20 pt ps pg (.ref 17) s (k0) s_9 _ hr_9 g)) ?_
  exact mm_re (c := [(0, .ref 6), (1, .int v1), (2, .int (v2 + (1 : Int32)))]) hK rfl rfl
noncomputable def xf_6_product_j16 (rec : xs_S → Int32 → Option xs_S) (s : xs_S) (v1 : Int32) (v2 : Int32) : Option ((Int32 × xs_S) ⊕ ((xs_S))) :=
((xf_6_kind s ).bind fun (v_5, s_5) =>
((xf_6_take s_5 (v_5)).bind fun (v_6, s_6) =>
((xf_6_unit rec s_6 (v1)).bind fun s_7 =>
(if v_5 = (27 : Int32) then
(xf_6_product_j35 rec (s_7) (v1) (v2) ((20002 : Int32)))
else
(xf_6_product_j35 rec (s_7) (v1) (v2) ((20003 : Int32)))))))
set_option maxHeartbeats 4000000 in
theorem xb_6_product_j16 {C : mm_C} {Q : mm_R} {pt : Value} {ps : Value} {pg : Value} {rec : xs_S → Int32 → Option xs_S} (h_6_unit : xk_6_unit rec C) (h_6_kind : xk_6_kind C) (h_6_take : xk_6_take C) (h_3_emit_20 : xk_3_emit_20 C) (s : xs_S) (v1 : Int32) (v2 : Int32) (r : (Int32 × xs_S) ⊕ ((xs_S))) (hf : xf_6_product_j16 rec s v1 v2 = some r) (hK : mo_sum (mo_c2 (fun y2 sy => mm_go C mm_Mk mm_Fk P_X6_product Q (P_X6_product.drop 5) [(0, .ref 6), (1, .int v1), (2, .int y2)] [] (xs_H pt ps pg (.ref 17) sy) 0 0))  (fun sy => mm_go C mm_Mk mm_Fk P_X6_product Q (P_X6_product.drop 38) [] [] (xs_H pt ps pg (.ref 17) sy) 0 0)  r) : mm_go C mm_Mk mm_Fk P_X6_product Q (P_X6_product.drop 16) [(0, .ref 6), (1, .int v1), (2, .int v2)] [] (xs_H pt ps pg (.ref 17) s) 0 0 := by
  unfold xf_6_product_j16 at hf
  obtain ⟨r_5, hr_5, hf⟩ := mo_bind hf
  obtain ⟨v_5, s_5⟩ := r_5
  obtain ⟨r_6, hr_6, hf⟩ := mo_bind hf
  obtain ⟨v_6, s_6⟩ := r_6
  obtain ⟨s_7, hr_7, hf⟩ := mo_bind hf
  by_cases c_8 : v_5 = (27 : Int32)
  · have hf := mo_pos hf c_8
    refine mm_adv 18 (cs' := P_X6_product.drop 35) (l' := [(3, .int v_5), (0, .ref 6), (1, .int v1), (2, .int v2)]) (st' := [.int (20002 : Int32), .ref 20]) (h' := (xs_H pt ps pg (.ref 17) s_7)) (bc' := 0) (bs' := 0) (fun n g => (h_6_kind pt ps pg (.ref 17) s  v_5 s_5 _ hr_5 (h_6_take pt ps pg (.ref 17) s_5 (v_5) v_6 s_6 _ hr_6 (h_6_unit pt ps pg s_6 (v1) s_7 _ hr_7 (And.intro (fun q => absurd c_8 q) (fun _ => g)))))) ?_
    refine mm_re (l' := [(0, .ref 6), (1, .int v1), (2, .int v2)]) (c := [(0, .ref 6), (1, .int v1), (2, .int v2)]) ?_ rfl rfl
    exact xb_6_product_j35 h_6_unit h_6_kind h_6_take h_3_emit_20 s_7 (v1) (v2) ((20002 : Int32)) _ hf hK
  · have hf := mo_neg hf c_8
    refine mm_adv 17 (cs' := P_X6_product.drop 35) (l' := [(3, .int v_5), (0, .ref 6), (1, .int v1), (2, .int v2)]) (st' := [.int (20003 : Int32), .ref 20]) (h' := (xs_H pt ps pg (.ref 17) s_7)) (bc' := 0) (bs' := 0) (fun n g => (h_6_kind pt ps pg (.ref 17) s  v_5 s_5 _ hr_5 (h_6_take pt ps pg (.ref 17) s_5 (v_5) v_6 s_6 _ hr_6 (h_6_unit pt ps pg s_6 (v1) s_7 _ hr_7 (And.intro (fun _ => g) (fun q => absurd c_8 q)))))) ?_
    refine mm_re (l' := [(0, .ref 6), (1, .int v1), (2, .int v2)]) (c := [(0, .ref 6), (1, .int v1), (2, .int v2)]) ?_ rfl rfl
    exact xb_6_product_j35 h_6_unit h_6_kind h_6_take h_3_emit_20 s_7 (v1) (v2) ((20003 : Int32)) _ hf hK
noncomputable def xf_6_product_l5 (rec : xs_S → Int32 → Option xs_S) (v1 : Int32) : (Int32 × xs_S) → Option ((Int32 × xs_S) ⊕ ((xs_S))) := fun (w2, s) =>
(if (400 : Int32) ≤ w2 then
some (.inr (s))
else
((xf_6_kind s ).bind fun (v_3, s_3) =>
(if v_3 = (27 : Int32) then
(xf_6_product_j16 rec (s_3) (v1) (w2))
else
((xf_6_kind s_3 ).bind fun (v_10, s_10) =>
(if v_10 = (28 : Int32) then
(xf_6_product_j16 rec (s_10) (v1) (w2))
else
some (.inr (s_10)))))))
set_option maxHeartbeats 4000000 in
theorem xb_6_product_l5 {C : mm_C} {Q : mm_R} {pt : Value} {ps : Value} {pg : Value} {rec : xs_S → Int32 → Option xs_S} (h_6_unit : xk_6_unit rec C) (h_6_kind : xk_6_kind C) (h_6_take : xk_6_take C) (h_3_emit_20 : xk_3_emit_20 C) (v1 : Int32) (t : Int32 × xs_S) (x : (xs_S)) (hl : mo_loop (xf_6_product_l5 rec v1) t = some x) (hK : (fun sy => mm_go C mm_Mk mm_Fk P_X6_product Q (P_X6_product.drop 38) [] [] (xs_H pt ps pg (.ref 17) sy) 0 0) x) : (mo_c2 (fun y2 sy => mm_go C mm_Mk mm_Fk P_X6_product Q (P_X6_product.drop 5) [(0, .ref 6), (1, .int v1), (2, .int y2)] [] (xs_H pt ps pg (.ref 17) sy) 0 0)) t := by
  refine mo_loop_go (G := (mo_c2 (fun y2 sy => mm_go C mm_Mk mm_Fk P_X6_product Q (P_X6_product.drop 5) [(0, .ref 6), (1, .int v1), (2, .int y2)] [] (xs_H pt ps pg (.ref 17) sy) 0 0)) ) (K := (fun sy => mm_go C mm_Mk mm_Fk P_X6_product Q (P_X6_product.drop 38) [] [] (xs_H pt ps pg (.ref 17) sy) 0 0) ) ?_ t x hl hK
  intro t r hf hK
  obtain ⟨w2, s⟩ := t
  unfold xf_6_product_l5 at hf
  by_cases c_2 : (400 : Int32) ≤ w2
  · have hf := mo_pos hf c_2
    obtain rfl := Option.some.inj hf
    refine mm_adv 3 (cs' := P_X6_product.drop 38) (l' := [(0, .ref 6), (1, .int v1), (2, .int w2)]) (st' := []) (h' := (xs_H pt ps pg (.ref 17) s)) (bc' := 0) (bs' := 0) (fun n g => (And.intro (fun _ => g) (fun q => absurd c_2 q))) ?_
    exact mm_re (c := []) hK rfl rfl
  · have hf := mo_neg hf c_2
    obtain ⟨r_3, hr_3, hf⟩ := mo_bind hf
    obtain ⟨v_3, s_3⟩ := r_3
    by_cases c_4 : v_3 = (27 : Int32)
    · have hf := mo_pos hf c_4
      refine mm_adv 7 (cs' := P_X6_product.drop 16) (l' := [(0, .ref 6), (1, .int v1), (2, .int w2)]) (st' := []) (h' := (xs_H pt ps pg (.ref 17) s_3)) (bc' := 0) (bs' := 0) (fun n g => (And.intro (fun q => absurd q c_2) (fun _ => (h_6_kind pt ps pg (.ref 17) s  v_3 s_3 _ hr_3 (And.intro (fun _ => g) (fun q => absurd c_4 q)))))) ?_
      refine mm_re (l' := [(0, .ref 6), (1, .int v1), (2, .int w2)]) (c := [(0, .ref 6), (1, .int v1), (2, .int w2)]) ?_ rfl rfl
      exact xb_6_product_j16 h_6_unit h_6_kind h_6_take h_3_emit_20 s_3 (v1) (w2) _ hf hK
    · have hf := mo_neg hf c_4
      obtain ⟨r_10, hr_10, hf⟩ := mo_bind hf
      obtain ⟨v_10, s_10⟩ := r_10
      by_cases c_11 : v_10 = (28 : Int32)
      · have hf := mo_pos hf c_11
        refine mm_adv 11 (cs' := P_X6_product.drop 16) (l' := [(0, .ref 6), (1, .int v1), (2, .int w2)]) (st' := []) (h' := (xs_H pt ps pg (.ref 17) s_10)) (bc' := 0) (bs' := 0) (fun n g => (And.intro (fun q => absurd q c_2) (fun _ => (h_6_kind pt ps pg (.ref 17) s  v_3 s_3 _ hr_3 (And.intro (fun q => absurd q c_4) (fun _ => (h_6_kind pt ps pg (.ref 17) s_3  v_10 s_10 _ hr_10 (And.intro (fun q => absurd c_11 q) (fun _ => g))))))))) ?_
        refine mm_re (l' := [(0, .ref 6), (1, .int v1), (2, .int w2)]) (c := [(0, .ref 6), (1, .int v1), (2, .int w2)]) ?_ rfl rfl
        exact xb_6_product_j16 h_6_unit h_6_kind h_6_take h_3_emit_20 s_10 (v1) (w2) _ hf hK
      · have hf := mo_neg hf c_11
        obtain rfl := Option.some.inj hf
        refine mm_adv 11 (cs' := P_X6_product.drop 38) (l' := [(0, .ref 6), (1, .int v1), (2, .int w2)]) (st' := []) (h' := (xs_H pt ps pg (.ref 17) s_10)) (bc' := 0) (bs' := 0) (fun n g => (And.intro (fun q => absurd q c_2) (fun _ => (h_6_kind pt ps pg (.ref 17) s  v_3 s_3 _ hr_3 (And.intro (fun q => absurd q c_4) (fun _ => (h_6_kind pt ps pg (.ref 17) s_3  v_10 s_10 _ hr_10 (And.intro (fun _ => g) (fun q => absurd c_11 q))))))))) ?_
        exact mm_re (c := []) hK rfl rfl
noncomputable def xf_6_product (rec : xs_S → Int32 → Option xs_S) (s : xs_S) (a0 : Int32) : Option (xs_S) :=
((xf_6_unit rec s (a0)).bind fun s_1 =>
((mo_loop (xf_6_product_l5 rec (a0)) ((0 : Int32), s_1)).bind fun s_12 =>
some s_12))
set_option maxHeartbeats 4000000 in
theorem xb_6_product {C : mm_C} {Q : mm_R} {pt : Value} {ps : Value} {pg : Value} {rec : xs_S → Int32 → Option xs_S} (h_6_unit : xk_6_unit rec C) (h_6_kind : xk_6_kind C) (h_6_take : xk_6_take C) (h_3_emit_20 : xk_3_emit_20 C) (s : xs_S) (a0 : Int32) (s2 : xs_S) (hf : xf_6_product rec s a0 = some s2) (hK : Q (none) (xs_H pt ps pg (.ref 17) s2)) : mm_go C mm_Mk mm_Fk P_X6_product Q P_X6_product [(0, .ref 6), (1, .int a0)] [] (xs_H pt ps pg (.ref 17) s) 0 0 := by
  unfold xf_6_product at hf
  obtain ⟨s_1, hr_1, hf⟩ := mo_bind hf
  obtain ⟨x_12, hl_12, hf⟩ := mo_bind hf
  refine mm_adv 5 (cs' := P_X6_product.drop 5) (l' := [(2, .int (0 : Int32)), (0, .ref 6), (1, .int a0)]) (st' := []) (h' := (xs_H pt ps pg (.ref 17) s_1)) (bc' := 0) (bs' := 0) (fun n g => (h_6_unit pt ps pg s (a0) s_1 _ hr_1 g)) ?_
  refine mm_re (l' := [(0, .ref 6), (1, .int a0), (2, .int (0 : Int32))]) (c := [(0, .ref 6), (1, .int a0), (2, .int (0 : Int32))]) ?_ rfl rfl
  refine xb_6_product_l5 h_6_unit h_6_kind h_6_take h_3_emit_20 (a0) ((0 : Int32), s_1) x_12 hl_12 ?_
  obtain ⟨s_12, rfl⟩ : ∃ q, q = x_12 := ⟨_, rfl⟩
  obtain rfl := Option.some.inj hf
  exact ⟨1, hK⟩
def xk_6_product (rec : xs_S → Int32 → Option xs_S) (C : mm_C) : Prop := ∀ (pt : Value) (ps : Value) (pg : Value) (s : xs_S) (a0 : Int32) (s2 : xs_S) (Q : mm_R), xf_6_product rec s a0 = some s2 → Q (none) (xs_H pt ps pg (.ref 17) s2) → C 174 [.ref 6, .int a0] (xs_H pt ps pg (.ref 17) s) Q
