/-! the class, method by method, 2 -/
-- 6_sum
noncomputable def xg_6_sum_j35 (rec : xs_S → Int32 → Option xs_S) (s : xs_S) (v1 : Int32) (v2 : Int32) (k0 : Int32) : Option ((Int32 × xs_S) ⊕ ((xs_S))) :=
((xf_3_emit_20 s (k0)).bind fun s_9 =>
some (.inl ((v2 + (1 : Int32)), s_9)))
set_option maxHeartbeats 4000000 in
theorem xb_6_sum_j35 {C : mm_C} {Q : mm_R} {pt : Value} {ps : Value} {pg : Value} {rec : xs_S → Int32 → Option xs_S} (h_6_product : xk_6_product rec C) (h_6_kind : xk_6_kind C) (h_6_take : xk_6_take C) (h_3_emit_20 : xk_3_emit_20 C) (s : xs_S) (v1 : Int32) (v2 : Int32) (k0 : Int32) (r : (Int32 × xs_S) ⊕ ((xs_S))) (hf : xg_6_sum_j35 rec s v1 v2 k0 = some r) (hK : mo_sum (mo_c2 (fun y2 sy => mm_go C mm_Mk mm_Fk P_X6_sum Q (P_X6_sum.drop 5) [(0, .ref 6), (1, .int v1), (2, .int y2)] [] (xs_H pt ps pg (.ref 17) sy) 0 0))  (fun sy => mm_go C mm_Mk mm_Fk P_X6_sum Q (P_X6_sum.drop 38) [] [] (xs_H pt ps pg (.ref 17) sy) 0 0)  r) : mm_go C mm_Mk mm_Fk P_X6_sum Q (P_X6_sum.drop 35) [(0, .ref 6), (1, .int v1), (2, .int v2)] [.int k0, .ref 20] (xs_H pt ps pg (.ref 17) s) 0 0 := by
  unfold xg_6_sum_j35 at hf
  obtain ⟨s_9, hr_9, hf⟩ := mo_bind hf
  obtain rfl := Option.some.inj hf
  refine mm_adv 3 (cs' := P_X6_sum.drop 5) (l' := [(2, .int (v2 + (1 : Int32))), (0, .ref 6), (1, .int v1)]) (st' := []) (h' := (xs_H pt ps pg (.ref 17) s_9)) (bc' := 0) (bs' := 0) (fun n g => (h_3_emit_20 pt ps pg (.ref 17) s (k0) s_9 _ hr_9 g)) ?_
  exact mm_re (c := [(0, .ref 6), (1, .int v1), (2, .int (v2 + (1 : Int32)))]) hK rfl rfl
noncomputable def xg_6_sum_j16 (rec : xs_S → Int32 → Option xs_S) (s : xs_S) (v1 : Int32) (v2 : Int32) : Option ((Int32 × xs_S) ⊕ ((xs_S))) :=
((xf_6_kind s ).bind fun (v_5, s_5) =>
((xf_6_take s_5 (v_5)).bind fun (v_6, s_6) =>
((xf_6_product rec s_6 (v1)).bind fun s_7 =>
(if v_5 = (25 : Int32) then
(xg_6_sum_j35 rec (s_7) (v1) (v2) ((20000 : Int32)))
else
(xg_6_sum_j35 rec (s_7) (v1) (v2) ((20001 : Int32)))))))
set_option maxHeartbeats 4000000 in
theorem xb_6_sum_j16 {C : mm_C} {Q : mm_R} {pt : Value} {ps : Value} {pg : Value} {rec : xs_S → Int32 → Option xs_S} (h_6_product : xk_6_product rec C) (h_6_kind : xk_6_kind C) (h_6_take : xk_6_take C) (h_3_emit_20 : xk_3_emit_20 C) (s : xs_S) (v1 : Int32) (v2 : Int32) (r : (Int32 × xs_S) ⊕ ((xs_S))) (hf : xg_6_sum_j16 rec s v1 v2 = some r) (hK : mo_sum (mo_c2 (fun y2 sy => mm_go C mm_Mk mm_Fk P_X6_sum Q (P_X6_sum.drop 5) [(0, .ref 6), (1, .int v1), (2, .int y2)] [] (xs_H pt ps pg (.ref 17) sy) 0 0))  (fun sy => mm_go C mm_Mk mm_Fk P_X6_sum Q (P_X6_sum.drop 38) [] [] (xs_H pt ps pg (.ref 17) sy) 0 0)  r) : mm_go C mm_Mk mm_Fk P_X6_sum Q (P_X6_sum.drop 16) [(0, .ref 6), (1, .int v1), (2, .int v2)] [] (xs_H pt ps pg (.ref 17) s) 0 0 := by
  unfold xg_6_sum_j16 at hf
  obtain ⟨r_5, hr_5, hf⟩ := mo_bind hf
  obtain ⟨v_5, s_5⟩ := r_5
  obtain ⟨r_6, hr_6, hf⟩ := mo_bind hf
  obtain ⟨v_6, s_6⟩ := r_6
  obtain ⟨s_7, hr_7, hf⟩ := mo_bind hf
  by_cases c_8 : v_5 = (25 : Int32)
  · have hf := mo_pos hf c_8
    refine mm_adv 18 (cs' := P_X6_sum.drop 35) (l' := [(3, .int v_5), (0, .ref 6), (1, .int v1), (2, .int v2)]) (st' := [.int (20000 : Int32), .ref 20]) (h' := (xs_H pt ps pg (.ref 17) s_7)) (bc' := 0) (bs' := 0) (fun n g => (h_6_kind pt ps pg (.ref 17) s  v_5 s_5 _ hr_5 (h_6_take pt ps pg (.ref 17) s_5 (v_5) v_6 s_6 _ hr_6 (h_6_product pt ps pg s_6 (v1) s_7 _ hr_7 (And.intro (fun q => absurd c_8 q) (fun _ => g)))))) ?_
    refine mm_re (l' := [(0, .ref 6), (1, .int v1), (2, .int v2)]) (c := [(0, .ref 6), (1, .int v1), (2, .int v2)]) ?_ rfl rfl
    exact xb_6_sum_j35 h_6_product h_6_kind h_6_take h_3_emit_20 s_7 (v1) (v2) ((20000 : Int32)) _ hf hK
  · have hf := mo_neg hf c_8
    refine mm_adv 17 (cs' := P_X6_sum.drop 35) (l' := [(3, .int v_5), (0, .ref 6), (1, .int v1), (2, .int v2)]) (st' := [.int (20001 : Int32), .ref 20]) (h' := (xs_H pt ps pg (.ref 17) s_7)) (bc' := 0) (bs' := 0) (fun n g => (h_6_kind pt ps pg (.ref 17) s  v_5 s_5 _ hr_5 (h_6_take pt ps pg (.ref 17) s_5 (v_5) v_6 s_6 _ hr_6 (h_6_product pt ps pg s_6 (v1) s_7 _ hr_7 (And.intro (fun _ => g) (fun q => absurd c_8 q)))))) ?_
    refine mm_re (l' := [(0, .ref 6), (1, .int v1), (2, .int v2)]) (c := [(0, .ref 6), (1, .int v1), (2, .int v2)]) ?_ rfl rfl
    exact xb_6_sum_j35 h_6_product h_6_kind h_6_take h_3_emit_20 s_7 (v1) (v2) ((20001 : Int32)) _ hf hK
noncomputable def xg_6_sum_l5 (rec : xs_S → Int32 → Option xs_S) (v1 : Int32) : (Int32 × xs_S) → Option ((Int32 × xs_S) ⊕ ((xs_S))) := fun (w2, s) =>
(if (400 : Int32) ≤ w2 then
some (.inr (s))
else
((xf_6_kind s ).bind fun (v_3, s_3) =>
(if v_3 = (25 : Int32) then
(xg_6_sum_j16 rec (s_3) (v1) (w2))
else
((xf_6_kind s_3 ).bind fun (v_10, s_10) =>
(if v_10 = (26 : Int32) then
(xg_6_sum_j16 rec (s_10) (v1) (w2))
else
some (.inr (s_10)))))))
set_option maxHeartbeats 4000000 in
theorem xb_6_sum_l5 {C : mm_C} {Q : mm_R} {pt : Value} {ps : Value} {pg : Value} {rec : xs_S → Int32 → Option xs_S} (h_6_product : xk_6_product rec C) (h_6_kind : xk_6_kind C) (h_6_take : xk_6_take C) (h_3_emit_20 : xk_3_emit_20 C) (v1 : Int32) (t : Int32 × xs_S) (x : (xs_S)) (hl : mo_loop (xg_6_sum_l5 rec v1) t = some x) (hK : (fun sy => mm_go C mm_Mk mm_Fk P_X6_sum Q (P_X6_sum.drop 38) [] [] (xs_H pt ps pg (.ref 17) sy) 0 0) x) : (mo_c2 (fun y2 sy => mm_go C mm_Mk mm_Fk P_X6_sum Q (P_X6_sum.drop 5) [(0, .ref 6), (1, .int v1), (2, .int y2)] [] (xs_H pt ps pg (.ref 17) sy) 0 0)) t := by
  refine mo_loop_go (G := (mo_c2 (fun y2 sy => mm_go C mm_Mk mm_Fk P_X6_sum Q (P_X6_sum.drop 5) [(0, .ref 6), (1, .int v1), (2, .int y2)] [] (xs_H pt ps pg (.ref 17) sy) 0 0)) ) (K := (fun sy => mm_go C mm_Mk mm_Fk P_X6_sum Q (P_X6_sum.drop 38) [] [] (xs_H pt ps pg (.ref 17) sy) 0 0) ) ?_ t x hl hK
  intro t r hf hK
  obtain ⟨w2, s⟩ := t
  unfold xg_6_sum_l5 at hf
  by_cases c_2 : (400 : Int32) ≤ w2
  · have hf := mo_pos hf c_2
    obtain rfl := Option.some.inj hf
    refine mm_adv 3 (cs' := P_X6_sum.drop 38) (l' := [(0, .ref 6), (1, .int v1), (2, .int w2)]) (st' := []) (h' := (xs_H pt ps pg (.ref 17) s)) (bc' := 0) (bs' := 0) (fun n g => (And.intro (fun _ => g) (fun q => absurd c_2 q))) ?_
    exact mm_re (c := []) hK rfl rfl
  · have hf := mo_neg hf c_2
    obtain ⟨r_3, hr_3, hf⟩ := mo_bind hf
    obtain ⟨v_3, s_3⟩ := r_3
    by_cases c_4 : v_3 = (25 : Int32)
    · have hf := mo_pos hf c_4
      refine mm_adv 7 (cs' := P_X6_sum.drop 16) (l' := [(0, .ref 6), (1, .int v1), (2, .int w2)]) (st' := []) (h' := (xs_H pt ps pg (.ref 17) s_3)) (bc' := 0) (bs' := 0) (fun n g => (And.intro (fun q => absurd q c_2) (fun _ => (h_6_kind pt ps pg (.ref 17) s  v_3 s_3 _ hr_3 (And.intro (fun _ => g) (fun q => absurd c_4 q)))))) ?_
      refine mm_re (l' := [(0, .ref 6), (1, .int v1), (2, .int w2)]) (c := [(0, .ref 6), (1, .int v1), (2, .int w2)]) ?_ rfl rfl
      exact xb_6_sum_j16 h_6_product h_6_kind h_6_take h_3_emit_20 s_3 (v1) (w2) _ hf hK
    · have hf := mo_neg hf c_4
      obtain ⟨r_10, hr_10, hf⟩ := mo_bind hf
      obtain ⟨v_10, s_10⟩ := r_10
      by_cases c_11 : v_10 = (26 : Int32)
      · have hf := mo_pos hf c_11
        refine mm_adv 11 (cs' := P_X6_sum.drop 16) (l' := [(0, .ref 6), (1, .int v1), (2, .int w2)]) (st' := []) (h' := (xs_H pt ps pg (.ref 17) s_10)) (bc' := 0) (bs' := 0) (fun n g => (And.intro (fun q => absurd q c_2) (fun _ => (h_6_kind pt ps pg (.ref 17) s  v_3 s_3 _ hr_3 (And.intro (fun q => absurd q c_4) (fun _ => (h_6_kind pt ps pg (.ref 17) s_3  v_10 s_10 _ hr_10 (And.intro (fun q => absurd c_11 q) (fun _ => g))))))))) ?_
        refine mm_re (l' := [(0, .ref 6), (1, .int v1), (2, .int w2)]) (c := [(0, .ref 6), (1, .int v1), (2, .int w2)]) ?_ rfl rfl
        exact xb_6_sum_j16 h_6_product h_6_kind h_6_take h_3_emit_20 s_10 (v1) (w2) _ hf hK
      · have hf := mo_neg hf c_11
        obtain rfl := Option.some.inj hf
        refine mm_adv 11 (cs' := P_X6_sum.drop 38) (l' := [(0, .ref 6), (1, .int v1), (2, .int w2)]) (st' := []) (h' := (xs_H pt ps pg (.ref 17) s_10)) (bc' := 0) (bs' := 0) (fun n g => (And.intro (fun q => absurd q c_2) (fun _ => (h_6_kind pt ps pg (.ref 17) s  v_3 s_3 _ hr_3 (And.intro (fun q => absurd q c_4) (fun _ => (h_6_kind pt ps pg (.ref 17) s_3  v_10 s_10 _ hr_10 (And.intro (fun _ => g) (fun q => absurd c_11 q))))))))) ?_
        exact mm_re (c := []) hK rfl rfl
noncomputable def xg_6_sum (rec : xs_S → Int32 → Option xs_S) (s : xs_S) (a0 : Int32) : Option (xs_S) :=
((xf_6_product rec s (a0)).bind fun s_1 =>
((mo_loop (xg_6_sum_l5 rec (a0)) ((0 : Int32), s_1)).bind fun s_12 =>
some s_12))
set_option maxHeartbeats 4000000 in
theorem xb_6_sum {C : mm_C} {Q : mm_R} {pt : Value} {ps : Value} {pg : Value} {rec : xs_S → Int32 → Option xs_S} (h_6_product : xk_6_product rec C) (h_6_kind : xk_6_kind C) (h_6_take : xk_6_take C) (h_3_emit_20 : xk_3_emit_20 C) (s : xs_S) (a0 : Int32) (s2 : xs_S) (hf : xg_6_sum rec s a0 = some s2) (hK : Q (none) (xs_H pt ps pg (.ref 17) s2)) : mm_go C mm_Mk mm_Fk P_X6_sum Q P_X6_sum [(0, .ref 6), (1, .int a0)] [] (xs_H pt ps pg (.ref 17) s) 0 0 := by
  unfold xg_6_sum at hf
  obtain ⟨s_1, hr_1, hf⟩ := mo_bind hf
  obtain ⟨x_12, hl_12, hf⟩ := mo_bind hf
  refine mm_adv 5 (cs' := P_X6_sum.drop 5) (l' := [(2, .int (0 : Int32)), (0, .ref 6), (1, .int a0)]) (st' := []) (h' := (xs_H pt ps pg (.ref 17) s_1)) (bc' := 0) (bs' := 0) (fun n g => (h_6_product pt ps pg s (a0) s_1 _ hr_1 g)) ?_
  refine mm_re (l' := [(0, .ref 6), (1, .int a0), (2, .int (0 : Int32))]) (c := [(0, .ref 6), (1, .int a0), (2, .int (0 : Int32))]) ?_ rfl rfl
  refine xb_6_sum_l5 h_6_product h_6_kind h_6_take h_3_emit_20 (a0) ((0 : Int32), s_1) x_12 hl_12 ?_
  obtain ⟨s_12, rfl⟩ : ∃ q, q = x_12 := ⟨_, rfl⟩
  obtain rfl := Option.some.inj hf
  exact ⟨1, hK⟩
noncomputable def xf_6_sum : Nat → xs_S → Int32 → Option xs_S
  | 0 => fun _ _ => none
  | n + 1 => xg_6_sum (xf_6_sum n)
def xk_6_sum (n : Nat) (C : mm_C) : Prop := ∀ (pt : Value) (ps : Value) (pg : Value) (s : xs_S) (a0 : Int32) (s2 : xs_S) (Q : mm_R), xf_6_sum n s a0 = some s2 → Q (none) (xs_H pt ps pg (.ref 17) s2) → C 173 [.ref 6, .int a0] (xs_H pt ps pg (.ref 17) s) Q
-- 3_fill_20
noncomputable def xf_3_fill_20 (s : xs_S) (a0 : Int32) (a1 : Int32) : Option (xs_S) :=
(if (Int32.ofNat 401) ≤ a0 then
some s
else
(bif mo_in a0 401 then some (xs_sA s 21 (upd (s.2.1 21) (a0).toNatClampNeg (a1))) else none))
set_option maxHeartbeats 4000000 in
theorem xb_3_fill_20 {C : mm_C} {Q : mm_R} {pt : Value} {ps : Value} {pg : Value} {pr : Value}  (s : xs_S) (a0 : Int32) (a1 : Int32) (s2 : xs_S) (hf : xf_3_fill_20 s a0 a1 = some s2) (hK : Q (none) (xs_H pt ps pg pr s2)) : mm_go C mm_Mk mm_Fk P_X3_fill Q P_X3_fill [(0, .ref 20), (1, .int a0), (2, .int a1)] [] (xs_H pt ps pg pr s) 0 0 := by
  unfold xf_3_fill_20 at hf
  by_cases c_1 : (Int32.ofNat 401) ≤ a0
  · have hf := mo_pos hf c_1
    obtain rfl := Option.some.inj hf
    exact ⟨6, (And.intro (fun _ => hK) (fun q => absurd c_1 q))⟩
  · have hf := mo_neg hf c_1
    obtain ⟨hi_2, hf⟩ := mo_if hf
    obtain rfl := Option.some.inj hf
    exact ⟨11, (And.intro (fun q => absurd q c_1) (fun _ => (And.intro hi_2 hK)))⟩
def xk_3_fill_20 (C : mm_C) : Prop := ∀ (pt : Value) (ps : Value) (pg : Value) (pr : Value) (s : xs_S) (a0 : Int32) (a1 : Int32) (s2 : xs_S) (Q : mm_R), xf_3_fill_20 s a0 a1 = some s2 → Q (none) (xs_H pt ps pg pr s2) → C 153 [.ref 20, .int a0, .int a1] (xs_H pt ps pg pr s) Q
-- 6_tellLaw
noncomputable def xf_6_tellLaw_j10 (s : xs_S)  : Option (xs_S) :=
((xf_6_fail s ((1 : Int32))).bind fun s_3 =>
some s_3)
set_option maxHeartbeats 4000000 in
theorem xb_6_tellLaw_j10 {C : mm_C} {Q : mm_R} {pt : Value} {ps : Value} {pg : Value} (h_6_kind : xk_6_kind C) (h_6_fail : xk_6_fail C) (h_6_take : xk_6_take C) (h_6_sum : xk_6_sum 8 C) (h_3_emit_20 : xk_3_emit_20 C) (h_3_fill_20 : xk_3_fill_20 C) (s : xs_S)  (s2 : xs_S) (hf : xf_6_tellLaw_j10 s = some s2) (hK : Q (none) (xs_H pt ps pg (.ref 17) s2)) : mm_go C mm_Mk mm_Fk P_X6_tellLaw Q (P_X6_tellLaw.drop 10) [(0, .ref 6)] [] (xs_H pt ps pg (.ref 17) s) 0 0 := by
  unfold xf_6_tellLaw_j10 at hf
  obtain ⟨s_3, hr_3, hf⟩ := mo_bind hf
  obtain rfl := Option.some.inj hf
  exact ⟨4, (h_6_fail pt ps pg (.ref 17) s ((1 : Int32)) s_3 _ hr_3 hK)⟩
noncomputable def xf_6_tellLaw_j44 (s : xs_S) (v1 : Int32) (v2 : Int32) (v3 : Int32) : Option ((Int32 × xs_S) ⊕ ((xs_S))) :=
((xf_6_take s ((9 : Int32))).bind fun (v_12, s_12) =>
((xf_6_sum 8 s_12 ((0 : Int32))).bind fun s_13 =>
((xf_6_take s_13 ((29 : Int32))).bind fun (v_14, s_14) =>
((xf_6_sum 8 s_14 ((0 : Int32))).bind fun s_15 =>
((xf_6_take s_15 ((10 : Int32))).bind fun (v_16, s_16) =>
((xf_3_emit_20 s_16 ((20004 : Int32))).bind fun s_17 =>
((xf_3_emit_20 s_17 ((0 : Int32))).bind fun s_18 =>
((xf_6_sum 8 s_18 ((0 : Int32))).bind fun s_19 =>
((xf_6_take s_19 ((11 : Int32))).bind fun (v_20, s_20) =>
((xf_3_emit_20 s_20 ((20005 : Int32))).bind fun s_21 =>
((xf_3_fill_20 s_21 ((s_17.1 321)) ((s_21.1 321))).bind fun s_22 =>
some (.inl ((v3 + (1 : Int32)), s_22)))))))))))))
set_option maxHeartbeats 4000000 in
theorem xb_6_tellLaw_j44 {C : mm_C} {Q : mm_R} {pt : Value} {ps : Value} {pg : Value} (h_6_kind : xk_6_kind C) (h_6_fail : xk_6_fail C) (h_6_take : xk_6_take C) (h_6_sum : xk_6_sum 8 C) (h_3_emit_20 : xk_3_emit_20 C) (h_3_fill_20 : xk_3_fill_20 C) (s : xs_S) (v1 : Int32) (v2 : Int32) (v3 : Int32) (r : (Int32 × xs_S) ⊕ ((xs_S))) (hf : xf_6_tellLaw_j44 s v1 v2 v3 = some r) (hK : mo_sum (mo_c2 (fun y3 sy => mm_go C mm_Mk mm_Fk P_X6_tellLaw Q (P_X6_tellLaw.drop 31) [(0, .ref 6), (1, .int v1), (2, .int v2), (3, .int y3)] [] (xs_H pt ps pg (.ref 17) sy) 0 0))  (fun sy => mm_go C mm_Mk mm_Fk P_X6_tellLaw Q (P_X6_tellLaw.drop 100) [(0, .ref 6), (1, .int v1), (2, .int v2)] [] (xs_H pt ps pg (.ref 17) sy) 0 0)  r) : mm_go C mm_Mk mm_Fk P_X6_tellLaw Q (P_X6_tellLaw.drop 44) [(0, .ref 6), (1, .int v1), (2, .int v2), (3, .int v3)] [] (xs_H pt ps pg (.ref 17) s) 0 0 := by
  unfold xf_6_tellLaw_j44 at hf
  obtain ⟨r_12, hr_12, hf⟩ := mo_bind hf
  obtain ⟨v_12, s_12⟩ := r_12
  obtain ⟨s_13, hr_13, hf⟩ := mo_bind hf
  obtain ⟨r_14, hr_14, hf⟩ := mo_bind hf
  obtain ⟨v_14, s_14⟩ := r_14
  obtain ⟨s_15, hr_15, hf⟩ := mo_bind hf
  obtain ⟨r_16, hr_16, hf⟩ := mo_bind hf
  obtain ⟨v_16, s_16⟩ := r_16
  obtain ⟨s_17, hr_17, hf⟩ := mo_bind hf
  obtain ⟨s_18, hr_18, hf⟩ := mo_bind hf
  obtain ⟨s_19, hr_19, hf⟩ := mo_bind hf
  obtain ⟨r_20, hr_20, hf⟩ := mo_bind hf
  obtain ⟨v_20, s_20⟩ := r_20
  obtain ⟨s_21, hr_21, hf⟩ := mo_bind hf
  obtain ⟨s_22, hr_22, hf⟩ := mo_bind hf
  obtain rfl := Option.some.inj hf
  refine mm_adv 56 (cs' := P_X6_tellLaw.drop 31) (l' := [(3, .int (v3 + (1 : Int32))), (4, .int (s_17.1 321)), (0, .ref 6), (1, .int v1), (2, .int v2)]) (st' := []) (h' := (xs_H pt ps pg (.ref 17) s_22)) (bc' := 0) (bs' := 0) (fun n g => (h_6_take pt ps pg (.ref 17) s ((9 : Int32)) v_12 s_12 _ hr_12 (h_6_sum pt ps pg s_12 ((0 : Int32)) s_13 _ hr_13 (h_6_take pt ps pg (.ref 17) s_13 ((29 : Int32)) v_14 s_14 _ hr_14 (h_6_sum pt ps pg s_14 ((0 : Int32)) s_15 _ hr_15 (h_6_take pt ps pg (.ref 17) s_15 ((10 : Int32)) v_16 s_16 _ hr_16 (h_3_emit_20 pt ps pg (.ref 17) s_16 ((20004 : Int32)) s_17 _ hr_17 (h_3_emit_20 pt ps pg (.ref 17) s_17 ((0 : Int32)) s_18 _ hr_18 (h_6_sum pt ps pg s_18 ((0 : Int32)) s_19 _ hr_19 (h_6_take pt ps pg (.ref 17) s_19 ((11 : Int32)) v_20 s_20 _ hr_20 (h_3_emit_20 pt ps pg (.ref 17) s_20 ((20005 : Int32)) s_21 _ hr_21 (h_3_fill_20 pt ps pg (.ref 17) s_21 ((s_17.1 321)) ((s_21.1 321)) s_22 _ hr_22 g)))))))))))) ?_
  exact mm_re (c := [(0, .ref 6), (1, .int v1), (2, .int v2), (3, .int (v3 + (1 : Int32)))]) hK rfl rfl
noncomputable def xf_6_tellLaw_l31 (v1 : Int32) (v2 : Int32) : (Int32 × xs_S) → Option ((Int32 × xs_S) ⊕ ((xs_S))) := fun (w3, s) =>
(if (4 : Int32) < w3 then
some (.inr (s))
else
((xf_6_kind s ).bind fun (v_8, s_8) =>
(if v_8 = (9 : Int32) then
(if w3 = (4 : Int32) then
((xf_6_fail s_8 ((2 : Int32))).bind fun s_11 =>
(xf_6_tellLaw_j44 (s_11) (v1) (v2) (w3)))
else
(xf_6_tellLaw_j44 (s_8) (v1) (v2) (w3)))
else
some (.inr (s_8)))))
set_option maxHeartbeats 4000000 in
theorem xb_6_tellLaw_l31 {C : mm_C} {Q : mm_R} {pt : Value} {ps : Value} {pg : Value} (h_6_kind : xk_6_kind C) (h_6_fail : xk_6_fail C) (h_6_take : xk_6_take C) (h_6_sum : xk_6_sum 8 C) (h_3_emit_20 : xk_3_emit_20 C) (h_3_fill_20 : xk_3_fill_20 C) (v1 : Int32) (v2 : Int32) (t : Int32 × xs_S) (x : (xs_S)) (hl : mo_loop (xf_6_tellLaw_l31 v1 v2) t = some x) (hK : (fun sy => mm_go C mm_Mk mm_Fk P_X6_tellLaw Q (P_X6_tellLaw.drop 100) [(0, .ref 6), (1, .int v1), (2, .int v2)] [] (xs_H pt ps pg (.ref 17) sy) 0 0) x) : (mo_c2 (fun y3 sy => mm_go C mm_Mk mm_Fk P_X6_tellLaw Q (P_X6_tellLaw.drop 31) [(0, .ref 6), (1, .int v1), (2, .int v2), (3, .int y3)] [] (xs_H pt ps pg (.ref 17) sy) 0 0)) t := by
  refine mo_loop_go (G := (mo_c2 (fun y3 sy => mm_go C mm_Mk mm_Fk P_X6_tellLaw Q (P_X6_tellLaw.drop 31) [(0, .ref 6), (1, .int v1), (2, .int v2), (3, .int y3)] [] (xs_H pt ps pg (.ref 17) sy) 0 0)) ) (K := (fun sy => mm_go C mm_Mk mm_Fk P_X6_tellLaw Q (P_X6_tellLaw.drop 100) [(0, .ref 6), (1, .int v1), (2, .int v2)] [] (xs_H pt ps pg (.ref 17) sy) 0 0) ) ?_ t x hl hK
  intro t r hf hK
  obtain ⟨w3, s⟩ := t
  unfold xf_6_tellLaw_l31 at hf
  by_cases c_7 : (4 : Int32) < w3
  · have hf := mo_pos hf c_7
    obtain rfl := Option.some.inj hf
    refine mm_adv 3 (cs' := P_X6_tellLaw.drop 100) (l' := [(0, .ref 6), (1, .int v1), (2, .int v2), (3, .int w3)]) (st' := []) (h' := (xs_H pt ps pg (.ref 17) s)) (bc' := 0) (bs' := 0) (fun n g => (And.intro (fun _ => g) (fun q => absurd c_7 q))) ?_
    exact mm_re (c := [(0, .ref 6), (1, .int v1), (2, .int v2)]) hK rfl rfl
  · have hf := mo_neg hf c_7
    obtain ⟨r_8, hr_8, hf⟩ := mo_bind hf
    obtain ⟨v_8, s_8⟩ := r_8
    by_cases c_9 : v_8 = (9 : Int32)
    · have hf := mo_pos hf c_9
      by_cases c_10 : w3 = (4 : Int32)
      · have hf := mo_pos hf c_10
        obtain ⟨s_11, hr_11, hf⟩ := mo_bind hf
        refine mm_adv 13 (cs' := P_X6_tellLaw.drop 44) (l' := [(0, .ref 6), (1, .int v1), (2, .int v2), (3, .int w3)]) (st' := []) (h' := (xs_H pt ps pg (.ref 17) s_11)) (bc' := 0) (bs' := 0) (fun n g => (And.intro (fun q => absurd q c_7) (fun _ => (h_6_kind pt ps pg (.ref 17) s  v_8 s_8 _ hr_8 (And.intro (fun q => absurd c_9 q) (fun _ => (And.intro (fun q => absurd c_10 q) (fun _ => (h_6_fail pt ps pg (.ref 17) s_8 ((2 : Int32)) s_11 _ hr_11 g))))))))) ?_
        refine mm_re (l' := [(0, .ref 6), (1, .int v1), (2, .int v2), (3, .int w3)]) (c := [(0, .ref 6), (1, .int v1), (2, .int v2), (3, .int w3)]) ?_ rfl rfl
        exact xb_6_tellLaw_j44 h_6_kind h_6_fail h_6_take h_6_sum h_3_emit_20 h_3_fill_20 s_11 (v1) (v2) (w3) _ hf hK
      · have hf := mo_neg hf c_10
        refine mm_adv 10 (cs' := P_X6_tellLaw.drop 44) (l' := [(0, .ref 6), (1, .int v1), (2, .int v2), (3, .int w3)]) (st' := []) (h' := (xs_H pt ps pg (.ref 17) s_8)) (bc' := 0) (bs' := 0) (fun n g => (And.intro (fun q => absurd q c_7) (fun _ => (h_6_kind pt ps pg (.ref 17) s  v_8 s_8 _ hr_8 (And.intro (fun q => absurd c_9 q) (fun _ => (And.intro (fun _ => g) (fun q => absurd c_10 q)))))))) ?_
        refine mm_re (l' := [(0, .ref 6), (1, .int v1), (2, .int v2), (3, .int w3)]) (c := [(0, .ref 6), (1, .int v1), (2, .int v2), (3, .int w3)]) ?_ rfl rfl
        exact xb_6_tellLaw_j44 h_6_kind h_6_fail h_6_take h_6_sum h_3_emit_20 h_3_fill_20 s_8 (v1) (v2) (w3) _ hf hK
    · have hf := mo_neg hf c_9
      obtain rfl := Option.some.inj hf
      refine mm_adv 7 (cs' := P_X6_tellLaw.drop 100) (l' := [(0, .ref 6), (1, .int v1), (2, .int v2), (3, .int w3)]) (st' := []) (h' := (xs_H pt ps pg (.ref 17) s_8)) (bc' := 0) (bs' := 0) (fun n g => (And.intro (fun q => absurd q c_7) (fun _ => (h_6_kind pt ps pg (.ref 17) s  v_8 s_8 _ hr_8 (And.intro (fun _ => g) (fun q => absurd c_9 q)))))) ?_
      exact mm_re (c := [(0, .ref 6), (1, .int v1), (2, .int v2)]) hK rfl rfl
noncomputable def xf_6_tellLaw_j100 (s : xs_S) (v1 : Int32) (v2 : Int32) : Option (xs_S) :=
((xf_6_sum 8 s ((0 : Int32))).bind fun s_24 =>
((xf_6_take s_24 ((23 : Int32))).bind fun (v_25, s_25) =>
((xf_3_emit_20 s_25 ((20005 : Int32))).bind fun s_26 =>
(bif mo_in v1 4 then some (xs_sA s_26 22 (upd (s_26.2.1 22) (v1).toNatClampNeg (v2))) else none))))
set_option maxHeartbeats 4000000 in
theorem xb_6_tellLaw_j100 {C : mm_C} {Q : mm_R} {pt : Value} {ps : Value} {pg : Value} (h_6_kind : xk_6_kind C) (h_6_fail : xk_6_fail C) (h_6_take : xk_6_take C) (h_6_sum : xk_6_sum 8 C) (h_3_emit_20 : xk_3_emit_20 C) (h_3_fill_20 : xk_3_fill_20 C) (s : xs_S) (v1 : Int32) (v2 : Int32) (s2 : xs_S) (hf : xf_6_tellLaw_j100 s v1 v2 = some s2) (hK : Q (none) (xs_H pt ps pg (.ref 17) s2)) : mm_go C mm_Mk mm_Fk P_X6_tellLaw Q (P_X6_tellLaw.drop 100) [(0, .ref 6), (1, .int v1), (2, .int v2)] [] (xs_H pt ps pg (.ref 17) s) 0 0 := by
  unfold xf_6_tellLaw_j100 at hf
  obtain ⟨s_24, hr_24, hf⟩ := mo_bind hf
  obtain ⟨r_25, hr_25, hf⟩ := mo_bind hf
  obtain ⟨v_25, s_25⟩ := r_25
  obtain ⟨s_26, hr_26, hf⟩ := mo_bind hf
  obtain ⟨hi_27, hf⟩ := mo_if hf
  obtain rfl := Option.some.inj hf
  exact ⟨20, (h_6_sum pt ps pg s ((0 : Int32)) s_24 _ hr_24 (h_6_take pt ps pg (.ref 17) s_24 ((23 : Int32)) v_25 s_25 _ hr_25 (h_3_emit_20 pt ps pg (.ref 17) s_25 ((20005 : Int32)) s_26 _ hr_26 (And.intro hi_27 hK))))⟩
noncomputable def xf_6_tellLaw (s : xs_S)  : Option (xs_S) :=
((xf_6_kind s ).bind fun (v_1, s_1) =>
(if (v_1 - (3 : Int32)) < (0 : Int32) then
(xf_6_tellLaw_j10 (s_1))
else
(if (v_1 - (3 : Int32)) < (4 : Int32) then
((xf_6_take s_1 (((3 : Int32) + (v_1 - (3 : Int32))))).bind fun (v_5, s_5) =>
((xf_6_take s_5 ((24 : Int32))).bind fun (v_6, s_6) =>
((mo_loop (xf_6_tellLaw_l31 ((v_1 - (3 : Int32))) ((s_1.1 321))) ((0 : Int32), s_6)).bind fun s_23 =>
(xf_6_tellLaw_j100 (s_23) ((v_1 - (3 : Int32))) ((s_1.1 321))))))
else
(xf_6_tellLaw_j10 (s_1)))))
set_option maxHeartbeats 4000000 in
theorem xb_6_tellLaw {C : mm_C} {Q : mm_R} {pt : Value} {ps : Value} {pg : Value} (h_6_kind : xk_6_kind C) (h_6_fail : xk_6_fail C) (h_6_take : xk_6_take C) (h_6_sum : xk_6_sum 8 C) (h_3_emit_20 : xk_3_emit_20 C) (h_3_fill_20 : xk_3_fill_20 C) (s : xs_S)  (s2 : xs_S) (hf : xf_6_tellLaw s = some s2) (hK : Q (none) (xs_H pt ps pg (.ref 17) s2)) : mm_go C mm_Mk mm_Fk P_X6_tellLaw Q P_X6_tellLaw [(0, .ref 6)] [] (xs_H pt ps pg (.ref 17) s) 0 0 := by
  unfold xf_6_tellLaw at hf
  obtain ⟨r_1, hr_1, hf⟩ := mo_bind hf
  obtain ⟨v_1, s_1⟩ := r_1
  by_cases c_2 : (v_1 - (3 : Int32)) < (0 : Int32)
  · have hf := mo_pos hf c_2
    refine mm_adv 7 (cs' := P_X6_tellLaw.drop 10) (l' := [(1, .int (v_1 - (3 : Int32))), (0, .ref 6)]) (st' := []) (h' := (xs_H pt ps pg (.ref 17) s_1)) (bc' := 0) (bs' := 0) (fun n g => (h_6_kind pt ps pg (.ref 17) s  v_1 s_1 _ hr_1 (And.intro (fun _ => g) (fun q => absurd c_2 q)))) ?_
    refine mm_re (l' := [(0, .ref 6)]) (c := [(0, .ref 6)]) ?_ rfl rfl
    exact xb_6_tellLaw_j10 h_6_kind h_6_fail h_6_take h_6_sum h_3_emit_20 h_3_fill_20 s_1 _ hf hK
  · have hf := mo_neg hf c_2
    by_cases c_4 : (v_1 - (3 : Int32)) < (4 : Int32)
    · have hf := mo_pos hf c_4
      obtain ⟨r_5, hr_5, hf⟩ := mo_bind hf
      obtain ⟨v_5, s_5⟩ := r_5
      obtain ⟨r_6, hr_6, hf⟩ := mo_bind hf
      obtain ⟨v_6, s_6⟩ := r_6
      obtain ⟨x_23, hl_23, hf⟩ := mo_bind hf
      refine mm_adv 27 (cs' := P_X6_tellLaw.drop 31) (l' := [(3, .int (0 : Int32)), (2, .int (s_1.1 321)), (1, .int (v_1 - (3 : Int32))), (0, .ref 6)]) (st' := []) (h' := (xs_H pt ps pg (.ref 17) s_6)) (bc' := 0) (bs' := 0) (fun n g => (h_6_kind pt ps pg (.ref 17) s  v_1 s_1 _ hr_1 (And.intro (fun q => absurd q c_2) (fun _ => (And.intro (fun _ => (h_6_take pt ps pg (.ref 17) s_1 (((3 : Int32) + (v_1 - (3 : Int32)))) v_5 s_5 _ hr_5 (h_6_take pt ps pg (.ref 17) s_5 ((24 : Int32)) v_6 s_6 _ hr_6 g))) (fun q => absurd c_4 q)))))) ?_
      refine mm_re (l' := [(0, .ref 6), (1, .int (v_1 - (3 : Int32))), (2, .int (s_1.1 321)), (3, .int (0 : Int32))]) (c := [(0, .ref 6), (1, .int (v_1 - (3 : Int32))), (2, .int (s_1.1 321)), (3, .int (0 : Int32))]) ?_ rfl rfl
      refine xb_6_tellLaw_l31 h_6_kind h_6_fail h_6_take h_6_sum h_3_emit_20 h_3_fill_20 ((v_1 - (3 : Int32))) ((s_1.1 321)) ((0 : Int32), s_6) x_23 hl_23 ?_
      obtain ⟨s_23, rfl⟩ : ∃ q, q = x_23 := ⟨_, rfl⟩
      refine mm_re (l' := [(0, .ref 6), (1, .int (v_1 - (3 : Int32))), (2, .int (s_1.1 321))]) (c := [(0, .ref 6), (1, .int (v_1 - (3 : Int32))), (2, .int (s_1.1 321))]) ?_ rfl rfl
      exact xb_6_tellLaw_j100 h_6_kind h_6_fail h_6_take h_6_sum h_3_emit_20 h_3_fill_20 s_23 ((v_1 - (3 : Int32))) ((s_1.1 321)) _ hf hK
    · have hf := mo_neg hf c_4
      refine mm_adv 10 (cs' := P_X6_tellLaw.drop 10) (l' := [(1, .int (v_1 - (3 : Int32))), (0, .ref 6)]) (st' := []) (h' := (xs_H pt ps pg (.ref 17) s_1)) (bc' := 0) (bs' := 0) (fun n g => (h_6_kind pt ps pg (.ref 17) s  v_1 s_1 _ hr_1 (And.intro (fun q => absurd q c_2) (fun _ => (And.intro (fun q => absurd q c_4) (fun _ => g)))))) ?_
      refine mm_re (l' := [(0, .ref 6)]) (c := [(0, .ref 6)]) ?_ rfl rfl
      exact xb_6_tellLaw_j10 h_6_kind h_6_fail h_6_take h_6_sum h_3_emit_20 h_3_fill_20 s_1 _ hf hK
def xk_6_tellLaw (C : mm_C) : Prop := ∀ (pt : Value) (ps : Value) (pg : Value) (s : xs_S)  (s2 : xs_S) (Q : mm_R), xf_6_tellLaw s = some s2 → Q (none) (xs_H pt ps pg (.ref 17) s2) → C 172 [.ref 6] (xs_H pt ps pg (.ref 17) s) Q
-- 6_tellNumber
noncomputable def xf_6_tellNumber (s : xs_S) (a0 : Int32) (a1 : Int32) (a2 : Int32) : Option (Int32 × xs_S) :=
((xf_6_take s (a0)).bind fun (v_1, s_1) =>
((xf_6_takeInt s_1 (a1) (a2)).bind fun (v_2, s_2) =>
((xf_6_take s_2 ((23 : Int32))).bind fun (v_3, s_3) =>
some (v_2, s_3))))
set_option maxHeartbeats 4000000 in
theorem xb_6_tellNumber {C : mm_C} {Q : mm_R} {pt : Value} {ps : Value} {pg : Value} {pr : Value} (h_6_take : xk_6_take C) (h_6_takeInt : xk_6_takeInt C) (s : xs_S) (a0 : Int32) (a1 : Int32) (a2 : Int32) (v : Int32) (s2 : xs_S) (hf : xf_6_tellNumber s a0 a1 a2 = some (v, s2)) (hK : Q (some (.int v)) (xs_H pt ps pg pr s2)) : mm_go C mm_Mk mm_Fk P_X6_tellNumber Q P_X6_tellNumber [(0, .ref 6), (1, .int a0), (2, .int a1), (3, .int a2)] [] (xs_H pt ps pg pr s) 0 0 := by
  unfold xf_6_tellNumber at hf
  obtain ⟨r_1, hr_1, hf⟩ := mo_bind hf
  obtain ⟨v_1, s_1⟩ := r_1
  obtain ⟨r_2, hr_2, hf⟩ := mo_bind hf
  obtain ⟨v_2, s_2⟩ := r_2
  obtain ⟨r_3, hr_3, hf⟩ := mo_bind hf
  obtain ⟨v_3, s_3⟩ := r_3
  obtain ⟨rfl, rfl⟩ := mo_pair hf
  exact ⟨15, (h_6_take pt ps pg pr s (a0) v_1 s_1 _ hr_1 (h_6_takeInt pt ps pg pr s_1 (a1) (a2) v_2 s_2 _ hr_2 (h_6_take pt ps pg pr s_2 ((23 : Int32)) v_3 s_3 _ hr_3 hK)))⟩
def xk_6_tellNumber (C : mm_C) : Prop := ∀ (pt : Value) (ps : Value) (pg : Value) (pr : Value) (s : xs_S) (a0 : Int32) (a1 : Int32) (a2 : Int32) (v : Int32) (s2 : xs_S) (Q : mm_R), xf_6_tellNumber s a0 a1 a2 = some (v, s2) → Q (some (.int v)) (xs_H pt ps pg pr s2) → C 171 [.ref 6, .int a0, .int a1, .int a2] (xs_H pt ps pg pr s) Q
-- 6_conclude
noncomputable def xf_6_conclude (s : xs_S)  : Option (xs_S) :=
(if (s.1 101) = (0 : Int32) then
(if (s.1 103) = (0 : Int32) then
some s
else
some (xs_sI (xs_sI s 101 ((s.1 103))) 102 ((s.1 104))))
else
((xf_6_placeNow s ).bind fun (v_3, s_3) =>
some (xs_sI s_3 102 (v_3))))
set_option maxHeartbeats 4000000 in
theorem xb_6_conclude {C : mm_C} {Q : mm_R} {pt : Value} {ps : Value} {pg : Value} {pr : Value} (h_6_placeNow : xk_6_placeNow C) (s : xs_S)  (s2 : xs_S) (hf : xf_6_conclude s = some s2) (hK : Q (none) (xs_H pt ps pg pr s2)) : mm_go C mm_Mk mm_Fk P_X6_conclude Q P_X6_conclude [(0, .ref 6)] [] (xs_H pt ps pg pr s) 0 0 := by
  unfold xf_6_conclude at hf
  by_cases c_1 : (s.1 101) = (0 : Int32)
  · have hf := mo_pos hf c_1
    by_cases c_2 : (s.1 103) = (0 : Int32)
    · have hf := mo_pos hf c_2
      obtain rfl := Option.some.inj hf
      exact ⟨7, (And.intro (fun _ => (And.intro (fun _ => hK) (fun q => absurd c_2 q))) (fun q => absurd c_1 q))⟩
    · have hf := mo_neg hf c_2
      obtain rfl := Option.some.inj hf
      exact ⟨15, (And.intro (fun _ => (And.intro (fun q => absurd q c_2) (fun _ => (And.intro trivial (And.intro trivial hK))))) (fun q => absurd c_1 q))⟩
  · have hf := mo_neg hf c_1
    obtain ⟨r_3, hr_3, hf⟩ := mo_bind hf
    obtain ⟨v_3, s_3⟩ := r_3
    obtain rfl := Option.some.inj hf
    exact ⟨9, (And.intro (fun q => absurd q c_1) (fun _ => (h_6_placeNow pt ps pg pr s  v_3 s_3 _ hr_3 (And.intro trivial hK))))⟩
def xk_6_conclude (C : mm_C) : Prop := ∀ (pt : Value) (ps : Value) (pg : Value) (pr : Value) (s : xs_S)  (s2 : xs_S) (Q : mm_R), xf_6_conclude s = some s2 → Q (none) (xs_H pt ps pg pr s2) → C 167 [.ref 6] (xs_H pt ps pg pr s) Q
-- 6_readInto_17
noncomputable def xf_6_readInto_17_j65 (s : xs_S) (v2 : Int32) : Option ((Int32 × xs_S) ⊕ ((xs_S))) :=
some (.inl ((v2 + (1 : Int32)), s))
set_option maxHeartbeats 4000000 in
theorem xb_6_readInto_17_j65 {C : mm_C} {Q : mm_R} {pt : Value} {ps : Value} {pg : Value} (h_7_clear_17 : xk_7_clear_17 C) (h_8_scan : xk_8_scan C) (h_6_kind : xk_6_kind C) (h_6_tellSpeaker : xk_6_tellSpeaker C) (h_6_tellWord : xk_6_tellWord C) (h_6_tellPair : xk_6_tellPair C) (h_6_tellLaw : xk_6_tellLaw C) (h_6_tellNumber : xk_6_tellNumber C) (h_6_conclude : xk_6_conclude C) (s : xs_S) (v2 : Int32) (r : (Int32 × xs_S) ⊕ ((xs_S))) (hf : xf_6_readInto_17_j65 s v2 = some r) (hK : mo_sum (mo_c2 (fun y2 sy => mm_go C mm_Mk mm_Fk P_X6_readInto Q (P_X6_readInto.drop 23) [(0, .ref 6), (2, .int y2)] [] (xs_H pt ps pg (.ref 17) sy) 0 0))  (fun sy => mm_go C mm_Mk mm_Fk P_X6_readInto Q (P_X6_readInto.drop 67) [(0, .ref 6)] [] (xs_H pt ps pg (.ref 17) sy) 0 0)  r) : mm_go C mm_Mk mm_Fk P_X6_readInto Q (P_X6_readInto.drop 65) [(0, .ref 6), (2, .int v2)] [] (xs_H pt ps pg (.ref 17) s) 0 0 := by
  unfold xf_6_readInto_17_j65 at hf
  obtain rfl := Option.some.inj hf
  refine mm_adv 2 (cs' := P_X6_readInto.drop 23) (l' := [(2, .int (v2 + (1 : Int32))), (0, .ref 6)]) (st' := []) (h' := (xs_H pt ps pg (.ref 17) s)) (bc' := 0) (bs' := 0) (fun n g => g) ?_
  exact mm_re (c := [(0, .ref 6), (2, .int (v2 + (1 : Int32)))]) hK rfl rfl
noncomputable def xf_6_readInto_17_j63 (s : xs_S) (v2 : Int32) : Option ((Int32 × xs_S) ⊕ ((xs_S))) :=
((xf_6_tellLaw s ).bind fun s_12 =>
(xf_6_readInto_17_j65 (s_12) (v2)))
set_option maxHeartbeats 4000000 in
theorem xb_6_readInto_17_j63 {C : mm_C} {Q : mm_R} {pt : Value} {ps : Value} {pg : Value} (h_7_clear_17 : xk_7_clear_17 C) (h_8_scan : xk_8_scan C) (h_6_kind : xk_6_kind C) (h_6_tellSpeaker : xk_6_tellSpeaker C) (h_6_tellWord : xk_6_tellWord C) (h_6_tellPair : xk_6_tellPair C) (h_6_tellLaw : xk_6_tellLaw C) (h_6_tellNumber : xk_6_tellNumber C) (h_6_conclude : xk_6_conclude C) (s : xs_S) (v2 : Int32) (r : (Int32 × xs_S) ⊕ ((xs_S))) (hf : xf_6_readInto_17_j63 s v2 = some r) (hK : mo_sum (mo_c2 (fun y2 sy => mm_go C mm_Mk mm_Fk P_X6_readInto Q (P_X6_readInto.drop 23) [(0, .ref 6), (2, .int y2)] [] (xs_H pt ps pg (.ref 17) sy) 0 0))  (fun sy => mm_go C mm_Mk mm_Fk P_X6_readInto Q (P_X6_readInto.drop 67) [(0, .ref 6)] [] (xs_H pt ps pg (.ref 17) sy) 0 0)  r) : mm_go C mm_Mk mm_Fk P_X6_readInto Q (P_X6_readInto.drop 63) [(0, .ref 6), (2, .int v2)] [] (xs_H pt ps pg (.ref 17) s) 0 0 := by
  unfold xf_6_readInto_17_j63 at hf
  obtain ⟨s_12, hr_12, hf⟩ := mo_bind hf
  refine mm_adv 2 (cs' := P_X6_readInto.drop 65) (l' := [(0, .ref 6), (2, .int v2)]) (st' := []) (h' := (xs_H pt ps pg (.ref 17) s_12)) (bc' := 0) (bs' := 0) (fun n g => (h_6_tellLaw pt ps pg s  s_12 _ hr_12 g)) ?_
  refine mm_re (l' := [(0, .ref 6), (2, .int v2)]) (c := [(0, .ref 6), (2, .int v2)]) ?_ rfl rfl
  exact xb_6_readInto_17_j65 h_7_clear_17 h_8_scan h_6_kind h_6_tellSpeaker h_6_tellWord h_6_tellPair h_6_tellLaw h_6_tellNumber h_6_conclude s_12 (v2) _ hf hK
noncomputable def xf_6_readInto_17_l23  : (Int32 × xs_S) → Option ((Int32 × xs_S) ⊕ ((xs_S))) := fun (w2, s) =>
(if (400 : Int32) < w2 then
some (.inr (s))
else
(if (s.1 101) = (0 : Int32) then
((xf_6_kind s ).bind fun (v_5, s_5) =>
(if v_5 = (32 : Int32) then
some (.inr (s_5))
else
((xf_6_kind s_5 ).bind fun (v_7, s_7) =>
(if v_7 = (0 : Int32) then
((xf_6_tellSpeaker s_7 ).bind fun s_9 =>
(xf_6_readInto_17_j65 (s_9) (w2)))
else
(if v_7 = (1 : Int32) then
((xf_6_tellWord s_7 ).bind fun s_10 =>
(xf_6_readInto_17_j65 (s_10) (w2)))
else
(if v_7 = (2 : Int32) then
((xf_6_tellPair s_7 ).bind fun s_11 =>
(xf_6_readInto_17_j65 (s_11) (w2)))
else
(if v_7 = (3 : Int32) then
(xf_6_readInto_17_j63 (s_7) (w2))
else
(if v_7 = (4 : Int32) then
(xf_6_readInto_17_j63 (s_7) (w2))
else
(if v_7 = (5 : Int32) then
(xf_6_readInto_17_j63 (s_7) (w2))
else
(if v_7 = (6 : Int32) then
(xf_6_readInto_17_j63 (s_7) (w2))
else
(if v_7 = (7 : Int32) then
((xf_6_tellNumber s_7 ((7 : Int32)) ((1 : Int32)) ((19 : Int32))).bind fun (v_13, s_13) =>
(xf_6_readInto_17_j65 ((xs_sI s_13 279 (v_13))) (w2)))
else
(if v_7 = (8 : Int32) then
((xf_6_tellNumber s_7 ((8 : Int32)) ((0 : Int32)) ((9999 : Int32))).bind fun (v_14, s_14) =>
(xf_6_readInto_17_j65 ((xs_sI s_14 280 (v_14))) (w2)))
else
(xf_6_readInto_17_j63 (s_7) (w2))))))))))))))
else
some (.inr (s))))
set_option maxHeartbeats 4000000 in
theorem xb_6_readInto_17_l23 {C : mm_C} {Q : mm_R} {pt : Value} {ps : Value} {pg : Value} (h_7_clear_17 : xk_7_clear_17 C) (h_8_scan : xk_8_scan C) (h_6_kind : xk_6_kind C) (h_6_tellSpeaker : xk_6_tellSpeaker C) (h_6_tellWord : xk_6_tellWord C) (h_6_tellPair : xk_6_tellPair C) (h_6_tellLaw : xk_6_tellLaw C) (h_6_tellNumber : xk_6_tellNumber C) (h_6_conclude : xk_6_conclude C)  (t : Int32 × xs_S) (x : (xs_S)) (hl : mo_loop (xf_6_readInto_17_l23 ) t = some x) (hK : (fun sy => mm_go C mm_Mk mm_Fk P_X6_readInto Q (P_X6_readInto.drop 67) [(0, .ref 6)] [] (xs_H pt ps pg (.ref 17) sy) 0 0) x) : (mo_c2 (fun y2 sy => mm_go C mm_Mk mm_Fk P_X6_readInto Q (P_X6_readInto.drop 23) [(0, .ref 6), (2, .int y2)] [] (xs_H pt ps pg (.ref 17) sy) 0 0)) t := by
  refine mo_loop_go (G := (mo_c2 (fun y2 sy => mm_go C mm_Mk mm_Fk P_X6_readInto Q (P_X6_readInto.drop 23) [(0, .ref 6), (2, .int y2)] [] (xs_H pt ps pg (.ref 17) sy) 0 0)) ) (K := (fun sy => mm_go C mm_Mk mm_Fk P_X6_readInto Q (P_X6_readInto.drop 67) [(0, .ref 6)] [] (xs_H pt ps pg (.ref 17) sy) 0 0) ) ?_ t x hl hK
  intro t r hf hK
  obtain ⟨w2, s⟩ := t
  unfold xf_6_readInto_17_l23 at hf
  by_cases c_3 : (400 : Int32) < w2
  · have hf := mo_pos hf c_3
    obtain rfl := Option.some.inj hf
    refine mm_adv 3 (cs' := P_X6_readInto.drop 67) (l' := [(0, .ref 6), (2, .int w2)]) (st' := []) (h' := (xs_H pt ps pg (.ref 17) s)) (bc' := 0) (bs' := 0) (fun n g => (And.intro (fun _ => g) (fun q => absurd c_3 q))) ?_
    exact mm_re (c := [(0, .ref 6)]) hK rfl rfl
  · have hf := mo_neg hf c_3
    by_cases c_4 : (s.1 101) = (0 : Int32)
    · have hf := mo_pos hf c_4
      obtain ⟨r_5, hr_5, hf⟩ := mo_bind hf
      obtain ⟨v_5, s_5⟩ := r_5
      by_cases c_6 : v_5 = (32 : Int32)
      · have hf := mo_pos hf c_6
        obtain rfl := Option.some.inj hf
        refine mm_adv 10 (cs' := P_X6_readInto.drop 67) (l' := [(0, .ref 6), (2, .int w2)]) (st' := []) (h' := (xs_H pt ps pg (.ref 17) s_5)) (bc' := 0) (bs' := 0) (fun n g => (And.intro (fun q => absurd q c_3) (fun _ => (And.intro (fun q => absurd c_4 q) (fun _ => (h_6_kind pt ps pg (.ref 17) s  v_5 s_5 _ hr_5 (And.intro (fun _ => g) (fun q => absurd c_6 q)))))))) ?_
        exact mm_re (c := [(0, .ref 6)]) hK rfl rfl
      · have hf := mo_neg hf c_6
        obtain ⟨r_7, hr_7, hf⟩ := mo_bind hf
        obtain ⟨v_7, s_7⟩ := r_7
        by_cases c_8_0 : v_7 = (0 : Int32)
        · have hf := mo_pos hf c_8_0
          obtain ⟨s_9, hr_9, hf⟩ := mo_bind hf
          refine mm_adv 16 (cs' := P_X6_readInto.drop 65) (l' := [(0, .ref 6), (2, .int w2)]) (st' := []) (h' := (xs_H pt ps pg (.ref 17) s_9)) (bc' := 0) (bs' := 0) (fun n g => (And.intro (fun q => absurd q c_3) (fun _ => (And.intro (fun q => absurd c_4 q) (fun _ => (h_6_kind pt ps pg (.ref 17) s  v_5 s_5 _ hr_5 (And.intro (fun q => absurd q c_6) (fun _ => (h_6_kind pt ps pg (.ref 17) s_5  v_7 s_7 _ hr_7 (And.intro (fun _ => (h_6_tellSpeaker pt ps pg s_7  s_9 _ hr_9 g)) (fun q => absurd c_8_0 q))))))))))) ?_
          refine mm_re (l' := [(0, .ref 6), (2, .int w2)]) (c := [(0, .ref 6), (2, .int w2)]) ?_ rfl rfl
          exact xb_6_readInto_17_j65 h_7_clear_17 h_8_scan h_6_kind h_6_tellSpeaker h_6_tellWord h_6_tellPair h_6_tellLaw h_6_tellNumber h_6_conclude s_9 (w2) _ hf hK
        replace hf := mo_neg hf c_8_0
        by_cases c_8_1 : v_7 = (1 : Int32)
        · have hf := mo_pos hf c_8_1
          obtain ⟨s_10, hr_10, hf⟩ := mo_bind hf
          refine mm_adv 16 (cs' := P_X6_readInto.drop 65) (l' := [(0, .ref 6), (2, .int w2)]) (st' := []) (h' := (xs_H pt ps pg (.ref 17) s_10)) (bc' := 0) (bs' := 0) (fun n g => (And.intro (fun q => absurd q c_3) (fun _ => (And.intro (fun q => absurd c_4 q) (fun _ => (h_6_kind pt ps pg (.ref 17) s  v_5 s_5 _ hr_5 (And.intro (fun q => absurd q c_6) (fun _ => (h_6_kind pt ps pg (.ref 17) s_5  v_7 s_7 _ hr_7 (And.intro (fun q => absurd q c_8_0) (fun _ => (And.intro (fun _ => (h_6_tellWord pt ps pg s_7  s_10 _ hr_10 g)) (fun q => absurd c_8_1 q))))))))))))) ?_
          refine mm_re (l' := [(0, .ref 6), (2, .int w2)]) (c := [(0, .ref 6), (2, .int w2)]) ?_ rfl rfl
          exact xb_6_readInto_17_j65 h_7_clear_17 h_8_scan h_6_kind h_6_tellSpeaker h_6_tellWord h_6_tellPair h_6_tellLaw h_6_tellNumber h_6_conclude s_10 (w2) _ hf hK
        replace hf := mo_neg hf c_8_1
        by_cases c_8_2 : v_7 = (2 : Int32)
        · have hf := mo_pos hf c_8_2
          obtain ⟨s_11, hr_11, hf⟩ := mo_bind hf
          refine mm_adv 16 (cs' := P_X6_readInto.drop 65) (l' := [(0, .ref 6), (2, .int w2)]) (st' := []) (h' := (xs_H pt ps pg (.ref 17) s_11)) (bc' := 0) (bs' := 0) (fun n g => (And.intro (fun q => absurd q c_3) (fun _ => (And.intro (fun q => absurd c_4 q) (fun _ => (h_6_kind pt ps pg (.ref 17) s  v_5 s_5 _ hr_5 (And.intro (fun q => absurd q c_6) (fun _ => (h_6_kind pt ps pg (.ref 17) s_5  v_7 s_7 _ hr_7 (And.intro (fun q => absurd q c_8_0) (fun _ => (And.intro (fun q => absurd q c_8_1) (fun _ => (And.intro (fun _ => (h_6_tellPair pt ps pg s_7  s_11 _ hr_11 g)) (fun q => absurd c_8_2 q))))))))))))))) ?_
          refine mm_re (l' := [(0, .ref 6), (2, .int w2)]) (c := [(0, .ref 6), (2, .int w2)]) ?_ rfl rfl
          exact xb_6_readInto_17_j65 h_7_clear_17 h_8_scan h_6_kind h_6_tellSpeaker h_6_tellWord h_6_tellPair h_6_tellLaw h_6_tellNumber h_6_conclude s_11 (w2) _ hf hK
        replace hf := mo_neg hf c_8_2
        by_cases c_8_3 : v_7 = (3 : Int32)
        · have hf := mo_pos hf c_8_3
          refine mm_adv 13 (cs' := P_X6_readInto.drop 63) (l' := [(0, .ref 6), (2, .int w2)]) (st' := []) (h' := (xs_H pt ps pg (.ref 17) s_7)) (bc' := 0) (bs' := 0) (fun n g => (And.intro (fun q => absurd q c_3) (fun _ => (And.intro (fun q => absurd c_4 q) (fun _ => (h_6_kind pt ps pg (.ref 17) s  v_5 s_5 _ hr_5 (And.intro (fun q => absurd q c_6) (fun _ => (h_6_kind pt ps pg (.ref 17) s_5  v_7 s_7 _ hr_7 (And.intro (fun q => absurd q c_8_0) (fun _ => (And.intro (fun q => absurd q c_8_1) (fun _ => (And.intro (fun q => absurd q c_8_2) (fun _ => (And.intro (fun _ => g) (fun q => absurd c_8_3 q))))))))))))))))) ?_
          refine mm_re (l' := [(0, .ref 6), (2, .int w2)]) (c := [(0, .ref 6), (2, .int w2)]) ?_ rfl rfl
          exact xb_6_readInto_17_j63 h_7_clear_17 h_8_scan h_6_kind h_6_tellSpeaker h_6_tellWord h_6_tellPair h_6_tellLaw h_6_tellNumber h_6_conclude s_7 (w2) _ hf hK
        replace hf := mo_neg hf c_8_3
        by_cases c_8_4 : v_7 = (4 : Int32)
        · have hf := mo_pos hf c_8_4
          refine mm_adv 13 (cs' := P_X6_readInto.drop 63) (l' := [(0, .ref 6), (2, .int w2)]) (st' := []) (h' := (xs_H pt ps pg (.ref 17) s_7)) (bc' := 0) (bs' := 0) (fun n g => (And.intro (fun q => absurd q c_3) (fun _ => (And.intro (fun q => absurd c_4 q) (fun _ => (h_6_kind pt ps pg (.ref 17) s  v_5 s_5 _ hr_5 (And.intro (fun q => absurd q c_6) (fun _ => (h_6_kind pt ps pg (.ref 17) s_5  v_7 s_7 _ hr_7 (And.intro (fun q => absurd q c_8_0) (fun _ => (And.intro (fun q => absurd q c_8_1) (fun _ => (And.intro (fun q => absurd q c_8_2) (fun _ => (And.intro (fun q => absurd q c_8_3) (fun _ => (And.intro (fun _ => g) (fun q => absurd c_8_4 q))))))))))))))))))) ?_
          refine mm_re (l' := [(0, .ref 6), (2, .int w2)]) (c := [(0, .ref 6), (2, .int w2)]) ?_ rfl rfl
          exact xb_6_readInto_17_j63 h_7_clear_17 h_8_scan h_6_kind h_6_tellSpeaker h_6_tellWord h_6_tellPair h_6_tellLaw h_6_tellNumber h_6_conclude s_7 (w2) _ hf hK
        replace hf := mo_neg hf c_8_4
        by_cases c_8_5 : v_7 = (5 : Int32)
        · have hf := mo_pos hf c_8_5
          refine mm_adv 13 (cs' := P_X6_readInto.drop 63) (l' := [(0, .ref 6), (2, .int w2)]) (st' := []) (h' := (xs_H pt ps pg (.ref 17) s_7)) (bc' := 0) (bs' := 0) (fun n g => (And.intro (fun q => absurd q c_3) (fun _ => (And.intro (fun q => absurd c_4 q) (fun _ => (h_6_kind pt ps pg (.ref 17) s  v_5 s_5 _ hr_5 (And.intro (fun q => absurd q c_6) (fun _ => (h_6_kind pt ps pg (.ref 17) s_5  v_7 s_7 _ hr_7 (And.intro (fun q => absurd q c_8_0) (fun _ => (And.intro (fun q => absurd q c_8_1) (fun _ => (And.intro (fun q => absurd q c_8_2) (fun _ => (And.intro (fun q => absurd q c_8_3) (fun _ => (And.intro (fun q => absurd q c_8_4) (fun _ => (And.intro (fun _ => g) (fun q => absurd c_8_5 q))))))))))))))))))))) ?_
          refine mm_re (l' := [(0, .ref 6), (2, .int w2)]) (c := [(0, .ref 6), (2, .int w2)]) ?_ rfl rfl
          exact xb_6_readInto_17_j63 h_7_clear_17 h_8_scan h_6_kind h_6_tellSpeaker h_6_tellWord h_6_tellPair h_6_tellLaw h_6_tellNumber h_6_conclude s_7 (w2) _ hf hK
        replace hf := mo_neg hf c_8_5
        by_cases c_8_6 : v_7 = (6 : Int32)
        · have hf := mo_pos hf c_8_6
          refine mm_adv 13 (cs' := P_X6_readInto.drop 63) (l' := [(0, .ref 6), (2, .int w2)]) (st' := []) (h' := (xs_H pt ps pg (.ref 17) s_7)) (bc' := 0) (bs' := 0) (fun n g => (And.intro (fun q => absurd q c_3) (fun _ => (And.intro (fun q => absurd c_4 q) (fun _ => (h_6_kind pt ps pg (.ref 17) s  v_5 s_5 _ hr_5 (And.intro (fun q => absurd q c_6) (fun _ => (h_6_kind pt ps pg (.ref 17) s_5  v_7 s_7 _ hr_7 (And.intro (fun q => absurd q c_8_0) (fun _ => (And.intro (fun q => absurd q c_8_1) (fun _ => (And.intro (fun q => absurd q c_8_2) (fun _ => (And.intro (fun q => absurd q c_8_3) (fun _ => (And.intro (fun q => absurd q c_8_4) (fun _ => (And.intro (fun q => absurd q c_8_5) (fun _ => (And.intro (fun _ => g) (fun q => absurd c_8_6 q))))))))))))))))))))))) ?_
          refine mm_re (l' := [(0, .ref 6), (2, .int w2)]) (c := [(0, .ref 6), (2, .int w2)]) ?_ rfl rfl
          exact xb_6_readInto_17_j63 h_7_clear_17 h_8_scan h_6_kind h_6_tellSpeaker h_6_tellWord h_6_tellPair h_6_tellLaw h_6_tellNumber h_6_conclude s_7 (w2) _ hf hK
        replace hf := mo_neg hf c_8_6
        by_cases c_8_7 : v_7 = (7 : Int32)
        · have hf := mo_pos hf c_8_7
          obtain ⟨r_13, hr_13, hf⟩ := mo_bind hf
          obtain ⟨v_13, s_13⟩ := r_13
          refine mm_adv 22 (cs' := P_X6_readInto.drop 65) (l' := [(0, .ref 6), (2, .int w2)]) (st' := []) (h' := (xs_H pt ps pg (.ref 17) (xs_sI s_13 279 (v_13)))) (bc' := 0) (bs' := 0) (fun n g => (And.intro (fun q => absurd q c_3) (fun _ => (And.intro (fun q => absurd c_4 q) (fun _ => (h_6_kind pt ps pg (.ref 17) s  v_5 s_5 _ hr_5 (And.intro (fun q => absurd q c_6) (fun _ => (h_6_kind pt ps pg (.ref 17) s_5  v_7 s_7 _ hr_7 (And.intro (fun q => absurd q c_8_0) (fun _ => (And.intro (fun q => absurd q c_8_1) (fun _ => (And.intro (fun q => absurd q c_8_2) (fun _ => (And.intro (fun q => absurd q c_8_3) (fun _ => (And.intro (fun q => absurd q c_8_4) (fun _ => (And.intro (fun q => absurd q c_8_5) (fun _ => (And.intro (fun q => absurd q c_8_6) (fun _ => (And.intro (fun _ => (h_6_tellNumber pt ps pg (.ref 17) s_7 ((7 : Int32)) ((1 : Int32)) ((19 : Int32)) v_13 s_13 _ hr_13 (And.intro trivial g))) (fun q => absurd c_8_7 q))))))))))))))))))))))))) ?_
          refine mm_re (l' := [(0, .ref 6), (2, .int w2)]) (c := [(0, .ref 6), (2, .int w2)]) ?_ rfl rfl
          exact xb_6_readInto_17_j65 h_7_clear_17 h_8_scan h_6_kind h_6_tellSpeaker h_6_tellWord h_6_tellPair h_6_tellLaw h_6_tellNumber h_6_conclude (xs_sI s_13 279 (v_13)) (w2) _ hf hK
        replace hf := mo_neg hf c_8_7
        by_cases c_8_8 : v_7 = (8 : Int32)
        · have hf := mo_pos hf c_8_8
          obtain ⟨r_14, hr_14, hf⟩ := mo_bind hf
          obtain ⟨v_14, s_14⟩ := r_14
          refine mm_adv 22 (cs' := P_X6_readInto.drop 65) (l' := [(0, .ref 6), (2, .int w2)]) (st' := []) (h' := (xs_H pt ps pg (.ref 17) (xs_sI s_14 280 (v_14)))) (bc' := 0) (bs' := 0) (fun n g => (And.intro (fun q => absurd q c_3) (fun _ => (And.intro (fun q => absurd c_4 q) (fun _ => (h_6_kind pt ps pg (.ref 17) s  v_5 s_5 _ hr_5 (And.intro (fun q => absurd q c_6) (fun _ => (h_6_kind pt ps pg (.ref 17) s_5  v_7 s_7 _ hr_7 (And.intro (fun q => absurd q c_8_0) (fun _ => (And.intro (fun q => absurd q c_8_1) (fun _ => (And.intro (fun q => absurd q c_8_2) (fun _ => (And.intro (fun q => absurd q c_8_3) (fun _ => (And.intro (fun q => absurd q c_8_4) (fun _ => (And.intro (fun q => absurd q c_8_5) (fun _ => (And.intro (fun q => absurd q c_8_6) (fun _ => (And.intro (fun q => absurd q c_8_7) (fun _ => (And.intro (fun _ => (h_6_tellNumber pt ps pg (.ref 17) s_7 ((8 : Int32)) ((0 : Int32)) ((9999 : Int32)) v_14 s_14 _ hr_14 (And.intro trivial g))) (fun q => absurd c_8_8 q))))))))))))))))))))))))))) ?_
          refine mm_re (l' := [(0, .ref 6), (2, .int w2)]) (c := [(0, .ref 6), (2, .int w2)]) ?_ rfl rfl
          exact xb_6_readInto_17_j65 h_7_clear_17 h_8_scan h_6_kind h_6_tellSpeaker h_6_tellWord h_6_tellPair h_6_tellLaw h_6_tellNumber h_6_conclude (xs_sI s_14 280 (v_14)) (w2) _ hf hK
        replace hf := mo_neg hf c_8_8
        refine mm_adv 13 (cs' := P_X6_readInto.drop 63) (l' := [(0, .ref 6), (2, .int w2)]) (st' := []) (h' := (xs_H pt ps pg (.ref 17) s_7)) (bc' := 0) (bs' := 0) (fun n g => (And.intro (fun q => absurd q c_3) (fun _ => (And.intro (fun q => absurd c_4 q) (fun _ => (h_6_kind pt ps pg (.ref 17) s  v_5 s_5 _ hr_5 (And.intro (fun q => absurd q c_6) (fun _ => (h_6_kind pt ps pg (.ref 17) s_5  v_7 s_7 _ hr_7 (And.intro (fun q => absurd q c_8_0) (fun _ => (And.intro (fun q => absurd q c_8_1) (fun _ => (And.intro (fun q => absurd q c_8_2) (fun _ => (And.intro (fun q => absurd q c_8_3) (fun _ => (And.intro (fun q => absurd q c_8_4) (fun _ => (And.intro (fun q => absurd q c_8_5) (fun _ => (And.intro (fun q => absurd q c_8_6) (fun _ => (And.intro (fun q => absurd q c_8_7) (fun _ => (And.intro (fun q => absurd q c_8_8) (fun _ => g))))))))))))))))))))))))))) ?_
        refine mm_re (l' := [(0, .ref 6), (2, .int w2)]) (c := [(0, .ref 6), (2, .int w2)]) ?_ rfl rfl
        exact xb_6_readInto_17_j63 h_7_clear_17 h_8_scan h_6_kind h_6_tellSpeaker h_6_tellWord h_6_tellPair h_6_tellLaw h_6_tellNumber h_6_conclude s_7 (w2) _ hf hK
    · have hf := mo_neg hf c_4
      obtain rfl := Option.some.inj hf
      refine mm_adv 6 (cs' := P_X6_readInto.drop 67) (l' := [(0, .ref 6), (2, .int w2)]) (st' := []) (h' := (xs_H pt ps pg (.ref 17) s)) (bc' := 0) (bs' := 0) (fun n g => (And.intro (fun q => absurd q c_3) (fun _ => (And.intro (fun _ => g) (fun q => absurd c_4 q))))) ?_
      exact mm_re (c := [(0, .ref 6)]) hK rfl rfl
noncomputable def xf_6_readInto_17_j67 (s : xs_S)  : Option (Int32 × xs_S) :=
((xf_6_conclude s ).bind fun s_16 =>
some ((s_16.1 101), s_16))
set_option maxHeartbeats 4000000 in
theorem xb_6_readInto_17_j67 {C : mm_C} {Q : mm_R} {pt : Value} {ps : Value} {pg : Value} (h_7_clear_17 : xk_7_clear_17 C) (h_8_scan : xk_8_scan C) (h_6_kind : xk_6_kind C) (h_6_tellSpeaker : xk_6_tellSpeaker C) (h_6_tellWord : xk_6_tellWord C) (h_6_tellPair : xk_6_tellPair C) (h_6_tellLaw : xk_6_tellLaw C) (h_6_tellNumber : xk_6_tellNumber C) (h_6_conclude : xk_6_conclude C) (s : xs_S)  (v : Int32) (s2 : xs_S) (hf : xf_6_readInto_17_j67 s = some (v, s2)) (hK : Q (some (.int v)) (xs_H pt ps pg (.ref 17) s2)) : mm_go C mm_Mk mm_Fk P_X6_readInto Q (P_X6_readInto.drop 67) [(0, .ref 6)] [] (xs_H pt ps pg (.ref 17) s) 0 0 := by
  unfold xf_6_readInto_17_j67 at hf
  obtain ⟨s_16, hr_16, hf⟩ := mo_bind hf
  obtain ⟨rfl, rfl⟩ := mo_pair hf
  exact ⟨5, (h_6_conclude pt ps pg (.ref 17) s  s_16 _ hr_16 hK)⟩
noncomputable def xf_6_readInto_17 (s : xs_S)  : Option (Int32 × xs_S) :=
((xf_7_clear_17 s ).bind fun s_1 =>
((xf_8_scan (xs_sI (xs_sI (xs_sI (xs_sI s_1 100 ((0 : Int32))) 101 ((0 : Int32))) 102 ((-1 : Int32))) 103 ((0 : Int32))) ).bind fun s_2 =>
((mo_loop (xf_6_readInto_17_l23 ) ((0 : Int32), s_2)).bind fun s_15 =>
(xf_6_readInto_17_j67 (s_15)))))
set_option maxHeartbeats 4000000 in
theorem xb_6_readInto_17 {C : mm_C} {Q : mm_R} {pt : Value} {ps : Value} {pg : Value} (h_7_clear_17 : xk_7_clear_17 C) (h_8_scan : xk_8_scan C) (h_6_kind : xk_6_kind C) (h_6_tellSpeaker : xk_6_tellSpeaker C) (h_6_tellWord : xk_6_tellWord C) (h_6_tellPair : xk_6_tellPair C) (h_6_tellLaw : xk_6_tellLaw C) (h_6_tellNumber : xk_6_tellNumber C) (h_6_conclude : xk_6_conclude C) (s : xs_S)  (v : Int32) (s2 : xs_S) (hf : xf_6_readInto_17 s = some (v, s2)) (hK : Q (some (.int v)) (xs_H pt ps pg (.ref 17) s2)) : mm_go C mm_Mk mm_Fk P_X6_readInto Q P_X6_readInto [(0, .ref 6), (1, .ref 17)] [] (xs_H pt ps pg (.ref 17) s) 0 0 := by
  unfold xf_6_readInto_17 at hf
  obtain ⟨s_1, hr_1, hf⟩ := mo_bind hf
  obtain ⟨s_2, hr_2, hf⟩ := mo_bind hf
  obtain ⟨x_15, hl_15, hf⟩ := mo_bind hf
  refine mm_adv 23 (cs' := P_X6_readInto.drop 23) (l' := [(2, .int (0 : Int32)), (0, .ref 6), (1, .ref 17)]) (st' := []) (h' := (xs_H pt ps pg (.ref 17) s_2)) (bc' := 0) (bs' := 0) (fun n g => (And.intro trivial (h_7_clear_17 pt ps pg (.ref 17) s  s_1 _ hr_1 (And.intro trivial (And.intro trivial (And.intro trivial (And.intro trivial (h_8_scan pt ps pg (.ref 17) (xs_sI (xs_sI (xs_sI (xs_sI s_1 100 ((0 : Int32))) 101 ((0 : Int32))) 102 ((-1 : Int32))) 103 ((0 : Int32)))  s_2 _ hr_2 g)))))))) ?_
  refine mm_re (l' := [(0, .ref 6), (2, .int (0 : Int32))]) (c := [(0, .ref 6), (2, .int (0 : Int32))]) ?_ rfl rfl
  refine xb_6_readInto_17_l23 h_7_clear_17 h_8_scan h_6_kind h_6_tellSpeaker h_6_tellWord h_6_tellPair h_6_tellLaw h_6_tellNumber h_6_conclude  ((0 : Int32), s_2) x_15 hl_15 ?_
  obtain ⟨s_15, rfl⟩ : ∃ q, q = x_15 := ⟨_, rfl⟩
  refine mm_re (l' := [(0, .ref 6)]) (c := [(0, .ref 6)]) ?_ rfl rfl
  exact xb_6_readInto_17_j67 h_7_clear_17 h_8_scan h_6_kind h_6_tellSpeaker h_6_tellWord h_6_tellPair h_6_tellLaw h_6_tellNumber h_6_conclude s_15 _ _ hf hK
def xk_6_readInto_17 (C : mm_C) : Prop := ∀ (pt : Value) (ps : Value) (pg : Value) (s : xs_S)  (v : Int32) (s2 : xs_S) (Q : mm_R), xf_6_readInto_17 s = some (v, s2) → Q (some (.int v)) (xs_H pt ps pg (.ref 17) s2) → C 166 [.ref 6, .ref 17] (xs_H pt ps pg (.ref 17) s) Q
