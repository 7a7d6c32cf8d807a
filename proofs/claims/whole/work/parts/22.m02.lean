/-! the reference, method by method, 2 -/
-- X12_term
noncomputable def mf_term_j12 (s : ms_S)  : Option (ms_S) :=
(bif mo_in (s.1 33) 260 then some (ms_sA (ms_sI s 33 (((s.1 33) + (1 : Int32)))) 38 (upd (s.2.1 38) ((s.1 33)).toNatClampNeg ((s.1 39)))) else none)
set_option maxHeartbeats 4000000 in
theorem mb_term_j12 {C : mm_C} {Q : mm_R} (h_expression : mk_expression C) (s : ms_S)  (s2 : ms_S) (hf : mf_term_j12 s = some s2) (hK : Q (none) (ms_H s2)) : mm_go C mm_Mk mm_Fk P_X12_term Q (P_X12_term.drop 12) [(0, .ref 0)] [] (ms_H s) 0 0 := by
  unfold mf_term_j12 at hf
  obtain ⟨hi_4, hf⟩ := mo_if hf
  obtain rfl := Option.some.inj hf
  exact ⟨14, (And.intro hi_4 (And.intro trivial hK))⟩
noncomputable def mf_term (s : ms_S)  : Option (ms_S) :=
(bif mo_in (s.1 33) 260 then (if (s.1 13) = (0 : Int32) then
((mf_expression (ms_sA s 37 (upd (s.2.1 37) ((s.1 33)).toNatClampNeg ((s.1 39)))) ).bind fun s_3 =>
(mf_term_j12 (s_3)))
else
(mf_term_j12 ((ms_sA s 37 (upd (s.2.1 37) ((s.1 33)).toNatClampNeg ((s.1 39))))))) else none)
set_option maxHeartbeats 4000000 in
theorem mb_term {C : mm_C} {Q : mm_R} (h_expression : mk_expression C) (s : ms_S)  (s2 : ms_S) (hf : mf_term s = some s2) (hK : Q (none) (ms_H s2)) : mm_go C mm_Mk mm_Fk P_X12_term Q P_X12_term [(0, .ref 0)] [] (ms_H s) 0 0 := by
  unfold mf_term at hf
  obtain ⟨hi_1, hf⟩ := mo_if hf
  by_cases c_2 : (s.1 13) = (0 : Int32)
  · have hf := mo_pos hf c_2
    obtain ⟨s_3, hr_3, hf⟩ := mo_bind hf
    refine mm_adv 12 (cs' := P_X12_term.drop 12) (l' := [(0, .ref 0)]) (st' := []) (h' := ms_H s_3) (bc' := 0) (bs' := 0) (fun n g => (And.intro hi_1 (And.intro (fun q => absurd c_2 q) (fun _ => (h_expression (ms_sA s 37 (upd (s.2.1 37) ((s.1 33)).toNatClampNeg ((s.1 39))))  s_3 _ hr_3 g))))) ?_
    refine mm_re (l' := [(0, .ref 0)]) (c := [(0, .ref 0)]) ?_ rfl rfl
    exact mb_term_j12 h_expression s_3 _ hf hK
  · have hf := mo_neg hf c_2
    refine mm_adv 10 (cs' := P_X12_term.drop 12) (l' := [(0, .ref 0)]) (st' := []) (h' := ms_H (ms_sA s 37 (upd (s.2.1 37) ((s.1 33)).toNatClampNeg ((s.1 39))))) (bc' := 0) (bs' := 0) (fun n g => (And.intro hi_1 (And.intro (fun _ => g) (fun q => absurd c_2 q)))) ?_
    refine mm_re (l' := [(0, .ref 0)]) (c := [(0, .ref 0)]) ?_ rfl rfl
    exact mb_term_j12 h_expression (ms_sA s 37 (upd (s.2.1 37) ((s.1 33)).toNatClampNeg ((s.1 39)))) _ hf hK
def mk_term (C : mm_C) : Prop := ∀ (s : ms_S)  (s2 : ms_S) (Q : mm_R), mf_term s = some s2 → Q (none) (ms_H s2) → C 27 [.ref 0] (ms_H s) Q
set_option maxRecDepth 100000 in
theorem mt_term (B : mm_C) (d : Nat) : mk_term (mm_ct B mm_Mk mm_Fk mm_PC (d + 5)) := fun s s2 Q hf hK => Or.inr (mb_term (mt_expression B (d + 0)) s s2 hf hK)
-- X12_tellLaw
noncomputable def mf_tellLaw_j58 (s : ms_S) (v1 : Int32) (v2 : Int32) (v3 : Int32) : Option ((Int32 × ms_S) ⊕ ((ms_S) ⊕ (ms_S))) :=
((mf_must s ((30 : Int32))).bind fun s_16 =>
((mf_term s_16 ).bind fun s_17 =>
((mf_must s_17 ((31 : Int32))).bind fun s_18 =>
some (.inl (v3, s_18)))))
set_option maxHeartbeats 4000000 in
theorem mb_tellLaw_j58 {C : mm_C} {Q : mm_R} (h_must : mk_must C) (h_is : mk_is C) (h_fail : mk_fail C) (h_goesOn : mk_goesOn C) (h_expression : mk_expression C) (h_term : mk_term C) (s : ms_S) (v1 : Int32) (v2 : Int32) (v3 : Int32) (r : (Int32 × ms_S) ⊕ ((ms_S) ⊕ (ms_S))) (hf : mf_tellLaw_j58 s v1 v2 v3 = some r) (hK : mo_sum (mo_c2 (fun y3 sy => mm_go C mm_Mk mm_Fk P_X12_tellLaw Q (P_X12_tellLaw.drop 8) [(0, .ref 0), (1, .int v1), (2, .int v2), (3, .int y3)] [] (ms_H sy) 0 0))  (mo_sum (fun sy => mm_go C mm_Mk mm_Fk P_X12_tellLaw Q (P_X12_tellLaw.drop 24) [] [] (ms_H sy) 0 0) (fun sy => mm_go C mm_Mk mm_Fk P_X12_tellLaw Q (P_X12_tellLaw.drop 67) [(0, .ref 0), (1, .int v1), (2, .int v2)] [] (ms_H sy) 0 0))  r) : mm_go C mm_Mk mm_Fk P_X12_tellLaw Q (P_X12_tellLaw.drop 58) [(0, .ref 0), (1, .int v1), (2, .int v2), (3, .int v3)] [] (ms_H s) 0 0 := by
  unfold mf_tellLaw_j58 at hf
  obtain ⟨s_16, hr_16, hf⟩ := mo_bind hf
  obtain ⟨s_17, hr_17, hf⟩ := mo_bind hf
  obtain ⟨s_18, hr_18, hf⟩ := mo_bind hf
  obtain rfl := Option.some.inj hf
  refine mm_adv 9 (cs' := P_X12_tellLaw.drop 8) (l' := [(0, .ref 0), (1, .int v1), (2, .int v2), (3, .int v3)]) (st' := []) (h' := ms_H s_18) (bc' := 0) (bs' := 0) (fun n g => (h_must s ((30 : Int32)) s_16 _ hr_16 (h_term s_16  s_17 _ hr_17 (h_must s_17 ((31 : Int32)) s_18 _ hr_18 g)))) ?_
  exact mm_re (c := [(0, .ref 0), (1, .int v1), (2, .int v2), (3, .int v3)]) hK rfl rfl
noncomputable def mf_tellLaw_j21 (s : ms_S) (v1 : Int32) (v2 : Int32) (v3 : Int32) : Option ((Int32 × ms_S) ⊕ ((ms_S) ⊕ (ms_S))) :=
(if (s.1 13) ≤ (0 : Int32) then
((mf_goesOn s ).bind fun s_8 =>
(bif mo_in (s_8.1 33) 260 then (bif mo_in (s_8.1 33) 260 then ((mf_expression (ms_sA (ms_sA s_8 34 (upd (s_8.2.1 34) ((s_8.1 33)).toNatClampNeg ((vp_nar .boolean (1 : Int32))))) 35 (upd (s_8.2.1 35) ((s_8.1 33)).toNatClampNeg ((s_8.1 39)))) ).bind fun s_11 =>
((mf_must s_11 ((13 : Int32))).bind fun s_12 =>
(bif mo_in (s_12.1 33) 260 then (if (s_12.1 13) = (0 : Int32) then
((mf_expression (ms_sA s_12 36 (upd (s_12.2.1 36) ((s_12.1 33)).toNatClampNeg ((s_12.1 39)))) ).bind fun s_15 =>
(mf_tellLaw_j58 (s_15) (v1) (v2) ((v3 + (1 : Int32)))))
else
(mf_tellLaw_j58 ((ms_sA s_12 36 (upd (s_12.2.1 36) ((s_12.1 33)).toNatClampNeg ((s_12.1 39))))) (v1) (v2) ((v3 + (1 : Int32))))) else none))) else none) else none))
else
some (.inr (.inl (s))))
set_option maxHeartbeats 4000000 in
theorem mb_tellLaw_j21 {C : mm_C} {Q : mm_R} (h_must : mk_must C) (h_is : mk_is C) (h_fail : mk_fail C) (h_goesOn : mk_goesOn C) (h_expression : mk_expression C) (h_term : mk_term C) (s : ms_S) (v1 : Int32) (v2 : Int32) (v3 : Int32) (r : (Int32 × ms_S) ⊕ ((ms_S) ⊕ (ms_S))) (hf : mf_tellLaw_j21 s v1 v2 v3 = some r) (hK : mo_sum (mo_c2 (fun y3 sy => mm_go C mm_Mk mm_Fk P_X12_tellLaw Q (P_X12_tellLaw.drop 8) [(0, .ref 0), (1, .int v1), (2, .int v2), (3, .int y3)] [] (ms_H sy) 0 0))  (mo_sum (fun sy => mm_go C mm_Mk mm_Fk P_X12_tellLaw Q (P_X12_tellLaw.drop 24) [] [] (ms_H sy) 0 0) (fun sy => mm_go C mm_Mk mm_Fk P_X12_tellLaw Q (P_X12_tellLaw.drop 67) [(0, .ref 0), (1, .int v1), (2, .int v2)] [] (ms_H sy) 0 0))  r) : mm_go C mm_Mk mm_Fk P_X12_tellLaw Q (P_X12_tellLaw.drop 21) [(0, .ref 0), (1, .int v1), (2, .int v2), (3, .int v3)] [] (ms_H s) 0 0 := by
  unfold mf_tellLaw_j21 at hf
  by_cases c_7 : (s.1 13) ≤ (0 : Int32)
  · have hf := mo_pos hf c_7
    obtain ⟨s_8, hr_8, hf⟩ := mo_bind hf
    obtain ⟨hi_9, hf⟩ := mo_if hf
    obtain ⟨hi_10, hf⟩ := mo_if hf
    obtain ⟨s_11, hr_11, hf⟩ := mo_bind hf
    obtain ⟨s_12, hr_12, hf⟩ := mo_bind hf
    obtain ⟨hi_13, hf⟩ := mo_if hf
    by_cases c_14 : (s_12.1 13) = (0 : Int32)
    · have hf := mo_pos hf c_14
      obtain ⟨s_15, hr_15, hf⟩ := mo_bind hf
      refine mm_adv 36 (cs' := P_X12_tellLaw.drop 58) (l' := [(3, .int (v3 + (1 : Int32))), (0, .ref 0), (1, .int v1), (2, .int v2)]) (st' := []) (h' := ms_H s_15) (bc' := 0) (bs' := 0) (fun n g => (And.intro (fun _ => (h_goesOn s  s_8 _ hr_8 (And.intro hi_9 (And.intro hi_10 (h_expression (ms_sA (ms_sA s_8 34 (upd (s_8.2.1 34) ((s_8.1 33)).toNatClampNeg ((vp_nar .boolean (1 : Int32))))) 35 (upd (s_8.2.1 35) ((s_8.1 33)).toNatClampNeg ((s_8.1 39))))  s_11 _ hr_11 (h_must s_11 ((13 : Int32)) s_12 _ hr_12 (And.intro hi_13 (And.intro (fun q => absurd c_14 q) (fun _ => (h_expression (ms_sA s_12 36 (upd (s_12.2.1 36) ((s_12.1 33)).toNatClampNeg ((s_12.1 39))))  s_15 _ hr_15 g)))))))))) (fun q => absurd c_7 q))) ?_
      refine mm_re (l' := [(0, .ref 0), (1, .int v1), (2, .int v2), (3, .int (v3 + (1 : Int32)))]) (c := [(0, .ref 0), (1, .int v1), (2, .int v2), (3, .int (v3 + (1 : Int32)))]) ?_ rfl rfl
      exact mb_tellLaw_j58 h_must h_is h_fail h_goesOn h_expression h_term s_15 (v1) (v2) ((v3 + (1 : Int32))) _ hf hK
    · have hf := mo_neg hf c_14
      refine mm_adv 34 (cs' := P_X12_tellLaw.drop 58) (l' := [(3, .int (v3 + (1 : Int32))), (0, .ref 0), (1, .int v1), (2, .int v2)]) (st' := []) (h' := ms_H (ms_sA s_12 36 (upd (s_12.2.1 36) ((s_12.1 33)).toNatClampNeg ((s_12.1 39))))) (bc' := 0) (bs' := 0) (fun n g => (And.intro (fun _ => (h_goesOn s  s_8 _ hr_8 (And.intro hi_9 (And.intro hi_10 (h_expression (ms_sA (ms_sA s_8 34 (upd (s_8.2.1 34) ((s_8.1 33)).toNatClampNeg ((vp_nar .boolean (1 : Int32))))) 35 (upd (s_8.2.1 35) ((s_8.1 33)).toNatClampNeg ((s_8.1 39))))  s_11 _ hr_11 (h_must s_11 ((13 : Int32)) s_12 _ hr_12 (And.intro hi_13 (And.intro (fun _ => g) (fun q => absurd c_14 q))))))))) (fun q => absurd c_7 q))) ?_
      refine mm_re (l' := [(0, .ref 0), (1, .int v1), (2, .int v2), (3, .int (v3 + (1 : Int32)))]) (c := [(0, .ref 0), (1, .int v1), (2, .int v2), (3, .int (v3 + (1 : Int32)))]) ?_ rfl rfl
      exact mb_tellLaw_j58 h_must h_is h_fail h_goesOn h_expression h_term (ms_sA s_12 36 (upd (s_12.2.1 36) ((s_12.1 33)).toNatClampNeg ((s_12.1 39)))) (v1) (v2) ((v3 + (1 : Int32))) _ hf hK
  · have hf := mo_neg hf c_7
    obtain rfl := Option.some.inj hf
    refine mm_adv 3 (cs' := P_X12_tellLaw.drop 24) (l' := [(0, .ref 0), (1, .int v1), (2, .int v2), (3, .int v3)]) (st' := []) (h' := ms_H s) (bc' := 0) (bs' := 0) (fun n g => (And.intro (fun q => absurd q c_7) (fun _ => g))) ?_
    exact mm_re (c := []) hK rfl rfl
noncomputable def mf_tellLaw_l8 (v1 : Int32) (v2 : Int32) : (Int32 × ms_S) → Option ((Int32 × ms_S) ⊕ ((ms_S) ⊕ (ms_S))) := fun (w3, s) =>
(if (s.1 13) = (0 : Int32) then
((mf_is s ((29 : Int32))).bind fun (v_3, s_3) =>
(if v_3 = (0 : Int32) then
some (.inr (.inr (s_3)))
else
(if w3 = (4 : Int32) then
((mf_fail s_3 ((2 : Int32))).bind fun s_6 =>
(mf_tellLaw_j21 (s_6) (v1) (v2) (w3)))
else
(mf_tellLaw_j21 (s_3) (v1) (v2) (w3)))))
else
some (.inr (.inr (s))))
set_option maxHeartbeats 4000000 in
theorem mb_tellLaw_l8 {C : mm_C} {Q : mm_R} (h_must : mk_must C) (h_is : mk_is C) (h_fail : mk_fail C) (h_goesOn : mk_goesOn C) (h_expression : mk_expression C) (h_term : mk_term C) (v1 : Int32) (v2 : Int32) (t : Int32 × ms_S) (x : (ms_S) ⊕ (ms_S)) (hl : mo_loop (mf_tellLaw_l8 v1 v2) t = some x) (hK : (mo_sum (fun sy => mm_go C mm_Mk mm_Fk P_X12_tellLaw Q (P_X12_tellLaw.drop 24) [] [] (ms_H sy) 0 0) (fun sy => mm_go C mm_Mk mm_Fk P_X12_tellLaw Q (P_X12_tellLaw.drop 67) [(0, .ref 0), (1, .int v1), (2, .int v2)] [] (ms_H sy) 0 0)) x) : (mo_c2 (fun y3 sy => mm_go C mm_Mk mm_Fk P_X12_tellLaw Q (P_X12_tellLaw.drop 8) [(0, .ref 0), (1, .int v1), (2, .int v2), (3, .int y3)] [] (ms_H sy) 0 0)) t := by
  refine mo_loop_go (G := (mo_c2 (fun y3 sy => mm_go C mm_Mk mm_Fk P_X12_tellLaw Q (P_X12_tellLaw.drop 8) [(0, .ref 0), (1, .int v1), (2, .int v2), (3, .int y3)] [] (ms_H sy) 0 0)) ) (K := (mo_sum (fun sy => mm_go C mm_Mk mm_Fk P_X12_tellLaw Q (P_X12_tellLaw.drop 24) [] [] (ms_H sy) 0 0) (fun sy => mm_go C mm_Mk mm_Fk P_X12_tellLaw Q (P_X12_tellLaw.drop 67) [(0, .ref 0), (1, .int v1), (2, .int v2)] [] (ms_H sy) 0 0)) ) ?_ t x hl hK
  intro t r hf hK
  obtain ⟨w3, s⟩ := t
  unfold mf_tellLaw_l8 at hf
  by_cases c_2 : (s.1 13) = (0 : Int32)
  · have hf := mo_pos hf c_2
    obtain ⟨r_3, hr_3, hf⟩ := mo_bind hf
    obtain ⟨v_3, s_3⟩ := r_3
    by_cases c_4 : v_3 = (0 : Int32)
    · have hf := mo_pos hf c_4
      obtain rfl := Option.some.inj hf
      refine mm_adv 7 (cs' := P_X12_tellLaw.drop 67) (l' := [(0, .ref 0), (1, .int v1), (2, .int v2), (3, .int w3)]) (st' := []) (h' := ms_H s_3) (bc' := 0) (bs' := 0) (fun n g => (And.intro (fun q => absurd c_2 q) (fun _ => (h_is s ((29 : Int32)) v_3 s_3 _ hr_3 (And.intro (fun _ => g) (fun q => absurd c_4 q)))))) ?_
      exact mm_re (c := [(0, .ref 0), (1, .int v1), (2, .int v2)]) hK rfl rfl
    · have hf := mo_neg hf c_4
      by_cases c_5 : w3 = (4 : Int32)
      · have hf := mo_pos hf c_5
        obtain ⟨s_6, hr_6, hf⟩ := mo_bind hf
        refine mm_adv 13 (cs' := P_X12_tellLaw.drop 21) (l' := [(0, .ref 0), (1, .int v1), (2, .int v2), (3, .int w3)]) (st' := []) (h' := ms_H s_6) (bc' := 0) (bs' := 0) (fun n g => (And.intro (fun q => absurd c_2 q) (fun _ => (h_is s ((29 : Int32)) v_3 s_3 _ hr_3 (And.intro (fun q => absurd q c_4) (fun _ => (And.intro (fun q => absurd c_5 q) (fun _ => (h_fail s_3 ((2 : Int32)) s_6 _ hr_6 g))))))))) ?_
        refine mm_re (l' := [(0, .ref 0), (1, .int v1), (2, .int v2), (3, .int w3)]) (c := [(0, .ref 0), (1, .int v1), (2, .int v2), (3, .int w3)]) ?_ rfl rfl
        exact mb_tellLaw_j21 h_must h_is h_fail h_goesOn h_expression h_term s_6 (v1) (v2) (w3) _ hf hK
      · have hf := mo_neg hf c_5
        refine mm_adv 10 (cs' := P_X12_tellLaw.drop 21) (l' := [(0, .ref 0), (1, .int v1), (2, .int v2), (3, .int w3)]) (st' := []) (h' := ms_H s_3) (bc' := 0) (bs' := 0) (fun n g => (And.intro (fun q => absurd c_2 q) (fun _ => (h_is s ((29 : Int32)) v_3 s_3 _ hr_3 (And.intro (fun q => absurd q c_4) (fun _ => (And.intro (fun _ => g) (fun q => absurd c_5 q)))))))) ?_
        refine mm_re (l' := [(0, .ref 0), (1, .int v1), (2, .int v2), (3, .int w3)]) (c := [(0, .ref 0), (1, .int v1), (2, .int v2), (3, .int w3)]) ?_ rfl rfl
        exact mb_tellLaw_j21 h_must h_is h_fail h_goesOn h_expression h_term s_3 (v1) (v2) (w3) _ hf hK
  · have hf := mo_neg hf c_2
    obtain rfl := Option.some.inj hf
    refine mm_adv 3 (cs' := P_X12_tellLaw.drop 67) (l' := [(0, .ref 0), (1, .int v1), (2, .int v2), (3, .int w3)]) (st' := []) (h' := ms_H s) (bc' := 0) (bs' := 0) (fun n g => (And.intro (fun _ => g) (fun q => absurd c_2 q))) ?_
    exact mm_re (c := [(0, .ref 0), (1, .int v1), (2, .int v2)]) hK rfl rfl
noncomputable def mf_tellLaw_j67 (s : ms_S) (v1 : Int32) (v2 : Int32) : Option (ms_S) :=
(bif mo_in (s.1 33) 260 then ((mf_term (ms_sA s 34 (upd (s.2.1 34) ((s.1 33)).toNatClampNeg ((vp_nar .boolean (0 : Int32))))) ).bind fun s_21 =>
((mf_must s_21 ((4 : Int32))).bind fun s_22 =>
(if (s_22.1 13) ≤ (0 : Int32) then
(bif mo_in (((4 : Int32) * (s_22.1 19)) + v1) 8 then (bif mo_in (((4 : Int32) * (s_22.1 19)) + v1) 8 then some (ms_sA (ms_sA s_22 31 (upd (s_22.2.1 31) ((((4 : Int32) * (s_22.1 19)) + v1)).toNatClampNeg (v2))) 32 (upd (s_22.2.1 32) ((((4 : Int32) * (s_22.1 19)) + v1)).toNatClampNeg ((s_22.1 33)))) else none) else none)
else
some s_22))) else none)
set_option maxHeartbeats 4000000 in
theorem mb_tellLaw_j67 {C : mm_C} {Q : mm_R} (h_must : mk_must C) (h_is : mk_is C) (h_fail : mk_fail C) (h_goesOn : mk_goesOn C) (h_expression : mk_expression C) (h_term : mk_term C) (s : ms_S) (v1 : Int32) (v2 : Int32) (s2 : ms_S) (hf : mf_tellLaw_j67 s v1 v2 = some s2) (hK : Q (none) (ms_H s2)) : mm_go C mm_Mk mm_Fk P_X12_tellLaw Q (P_X12_tellLaw.drop 67) [(0, .ref 0), (1, .int v1), (2, .int v2)] [] (ms_H s) 0 0 := by
  unfold mf_tellLaw_j67 at hf
  obtain ⟨hi_20, hf⟩ := mo_if hf
  obtain ⟨s_21, hr_21, hf⟩ := mo_bind hf
  obtain ⟨s_22, hr_22, hf⟩ := mo_bind hf
  by_cases c_23 : (s_22.1 13) ≤ (0 : Int32)
  · have hf := mo_pos hf c_23
    obtain ⟨hi_24, hf⟩ := mo_if hf
    obtain ⟨hi_25, hf⟩ := mo_if hf
    obtain rfl := Option.some.inj hf
    exact ⟨36, (And.intro hi_20 (h_term (ms_sA s 34 (upd (s.2.1 34) ((s.1 33)).toNatClampNeg ((vp_nar .boolean (0 : Int32)))))  s_21 _ hr_21 (h_must s_21 ((4 : Int32)) s_22 _ hr_22 (And.intro (fun _ => (And.intro hi_24 (And.intro hi_25 hK))) (fun q => absurd c_23 q)))))⟩
  · have hf := mo_neg hf c_23
    obtain rfl := Option.some.inj hf
    exact ⟨15, (And.intro hi_20 (h_term (ms_sA s 34 (upd (s.2.1 34) ((s.1 33)).toNatClampNeg ((vp_nar .boolean (0 : Int32)))))  s_21 _ hr_21 (h_must s_21 ((4 : Int32)) s_22 _ hr_22 (And.intro (fun q => absurd q c_23) (fun _ => hK)))))⟩
noncomputable def mf_tellLaw (s : ms_S) (a0 : Int32) : Option (ms_S) :=
((mf_must s ((5 : Int32))).bind fun s_1 =>
((mo_loop (mf_tellLaw_l8 (a0) ((s_1.1 33))) ((0 : Int32), s_1)).bind fun x_19 =>
match x_19 with
| (.inl s_19) => some s_19
| (.inr s_19) => (mf_tellLaw_j67 (s_19) (a0) ((s_1.1 33)))
))
set_option maxHeartbeats 4000000 in
theorem mb_tellLaw {C : mm_C} {Q : mm_R} (h_must : mk_must C) (h_is : mk_is C) (h_fail : mk_fail C) (h_goesOn : mk_goesOn C) (h_expression : mk_expression C) (h_term : mk_term C) (s : ms_S) (a0 : Int32) (s2 : ms_S) (hf : mf_tellLaw s a0 = some s2) (hK : Q (none) (ms_H s2)) : mm_go C mm_Mk mm_Fk P_X12_tellLaw Q P_X12_tellLaw [(0, .ref 0), (1, .int a0)] [] (ms_H s) 0 0 := by
  unfold mf_tellLaw at hf
  obtain ⟨s_1, hr_1, hf⟩ := mo_bind hf
  obtain ⟨x_19, hl_19, hf⟩ := mo_bind hf
  refine mm_adv 8 (cs' := P_X12_tellLaw.drop 8) (l' := [(3, .int (0 : Int32)), (2, .int (s_1.1 33)), (0, .ref 0), (1, .int a0)]) (st' := []) (h' := ms_H s_1) (bc' := 0) (bs' := 0) (fun n g => (h_must s ((5 : Int32)) s_1 _ hr_1 g)) ?_
  refine mm_re (l' := [(0, .ref 0), (1, .int a0), (2, .int (s_1.1 33)), (3, .int (0 : Int32))]) (c := [(0, .ref 0), (1, .int a0), (2, .int (s_1.1 33)), (3, .int (0 : Int32))]) ?_ rfl rfl
  refine mb_tellLaw_l8 h_must h_is h_fail h_goesOn h_expression h_term (a0) ((s_1.1 33)) ((0 : Int32), s_1) x_19 hl_19 ?_
  cases x_19 with
  | inl y_19 =>
    obtain ⟨s_19, rfl⟩ : ∃ q, q = y_19 := ⟨_, rfl⟩
    obtain rfl := Option.some.inj hf
    exact ⟨1, hK⟩
  | inr z_19_0 =>
    obtain ⟨s_19, rfl⟩ : ∃ q, q = z_19_0 := ⟨_, rfl⟩
    refine mm_re (l' := [(0, .ref 0), (1, .int a0), (2, .int (s_1.1 33))]) (c := [(0, .ref 0), (1, .int a0), (2, .int (s_1.1 33))]) ?_ rfl rfl
    exact mb_tellLaw_j67 h_must h_is h_fail h_goesOn h_expression h_term s_19 (a0) ((s_1.1 33)) _ hf hK
def mk_tellLaw (C : mm_C) : Prop := ∀ (s : ms_S) (a0 : Int32) (s2 : ms_S) (Q : mm_R), mf_tellLaw s a0 = some s2 → Q (none) (ms_H s2) → C 26 [.ref 0, .int a0] (ms_H s) Q
set_option maxRecDepth 100000 in
theorem mt_tellLaw (B : mm_C) (d : Nat) : mk_tellLaw (mm_ct B mm_Mk mm_Fk mm_PC (d + 6)) := fun s a0 s2 Q hf hK => Or.inr (mb_tellLaw (mt_must B (d + 2)) (mt_is B (d + 4)) (mt_fail B (d + 4)) (mt_goesOn B (d + 3)) (mt_expression B (d + 1)) (mt_term B (d + 0)) s a0 s2 hf hK)
-- X12_tellOne
noncomputable def mf_tellOne_j151 (s : ms_S)  : Option (ms_S) :=
((mf_must s ((4 : Int32))).bind fun s_34 =>
some s_34)
set_option maxHeartbeats 4000000 in
theorem mb_tellOne_j151 {C : mm_C} {Q : mm_R} (h_roomFor : mk_roomFor C) (h_named : mk_named C) (h_bounded : mk_bounded C) (h_endsName : mk_endsName C) (h_goesOn : mk_goesOn C) (h_known : mk_known C) (h_wrong : mk_wrong C) (h_must : mk_must C) (h_fail : mk_fail C) (h_tellLaw : mk_tellLaw C) (s : ms_S)  (s2 : ms_S) (hf : mf_tellOne_j151 s = some s2) (hK : Q (none) (ms_H s2)) : mm_go C mm_Mk mm_Fk P_X12_tellOne Q (P_X12_tellOne.drop 151) [(0, .ref 0)] [] (ms_H s) 0 0 := by
  unfold mf_tellOne_j151 at hf
  obtain ⟨s_34, hr_34, hf⟩ := mo_bind hf
  obtain rfl := Option.some.inj hf
  exact ⟨5, (h_must s ((4 : Int32)) s_34 _ hr_34 hK)⟩
noncomputable def mf_tellOne_j205 (s : ms_S) (v1 : Int32) : Option (ms_S) :=
(if (s.1 13) ≤ (0 : Int32) then
((mf_goesOn s ).bind fun s_43 =>
((mf_tellLaw s_43 (v1)).bind fun s_44 =>
some s_44))
else
some s)
set_option maxHeartbeats 4000000 in
theorem mb_tellOne_j205 {C : mm_C} {Q : mm_R} (h_roomFor : mk_roomFor C) (h_named : mk_named C) (h_bounded : mk_bounded C) (h_endsName : mk_endsName C) (h_goesOn : mk_goesOn C) (h_known : mk_known C) (h_wrong : mk_wrong C) (h_must : mk_must C) (h_fail : mk_fail C) (h_tellLaw : mk_tellLaw C) (s : ms_S) (v1 : Int32) (s2 : ms_S) (hf : mf_tellOne_j205 s v1 = some s2) (hK : Q (none) (ms_H s2)) : mm_go C mm_Mk mm_Fk P_X12_tellOne Q (P_X12_tellOne.drop 205) [(0, .ref 0), (1, .int v1)] [] (ms_H s) 0 0 := by
  unfold mf_tellOne_j205 at hf
  by_cases c_42 : (s.1 13) ≤ (0 : Int32)
  · have hf := mo_pos hf c_42
    obtain ⟨s_43, hr_43, hf⟩ := mo_bind hf
    obtain ⟨s_44, hr_44, hf⟩ := mo_bind hf
    obtain rfl := Option.some.inj hf
    exact ⟨9, (And.intro (fun _ => (h_goesOn s  s_43 _ hr_43 (h_tellLaw s_43 (v1) s_44 _ hr_44 hK))) (fun q => absurd c_42 q))⟩
  · have hf := mo_neg hf c_42
    obtain rfl := Option.some.inj hf
    exact ⟨4, (And.intro (fun q => absurd q c_42) (fun _ => hK))⟩
noncomputable def mf_tellOne_j202 (s : ms_S) (v1 : Int32) : Option (ms_S) :=
((mf_fail s ((1 : Int32))).bind fun s_41 =>
(mf_tellOne_j205 (s_41) (v1)))
set_option maxHeartbeats 4000000 in
theorem mb_tellOne_j202 {C : mm_C} {Q : mm_R} (h_roomFor : mk_roomFor C) (h_named : mk_named C) (h_bounded : mk_bounded C) (h_endsName : mk_endsName C) (h_goesOn : mk_goesOn C) (h_known : mk_known C) (h_wrong : mk_wrong C) (h_must : mk_must C) (h_fail : mk_fail C) (h_tellLaw : mk_tellLaw C) (s : ms_S) (v1 : Int32) (s2 : ms_S) (hf : mf_tellOne_j202 s v1 = some s2) (hK : Q (none) (ms_H s2)) : mm_go C mm_Mk mm_Fk P_X12_tellOne Q (P_X12_tellOne.drop 202) [(0, .ref 0), (1, .int v1)] [] (ms_H s) 0 0 := by
  unfold mf_tellOne_j202 at hf
  obtain ⟨s_41, hr_41, hf⟩ := mo_bind hf
  refine mm_adv 3 (cs' := P_X12_tellOne.drop 205) (l' := [(0, .ref 0), (1, .int v1)]) (st' := []) (h' := ms_H s_41) (bc' := 0) (bs' := 0) (fun n g => (h_fail s ((1 : Int32)) s_41 _ hr_41 g)) ?_
  refine mm_re (l' := [(0, .ref 0), (1, .int v1)]) (c := [(0, .ref 0), (1, .int v1)]) ?_ rfl rfl
  exact mb_tellOne_j205 h_roomFor h_named h_bounded h_endsName h_goesOn h_known h_wrong h_must h_fail h_tellLaw s_41 (v1) _ hf hK
noncomputable def mf_tellOne_j185 (s : ms_S)  : Option (ms_S) :=
((mo_ag 403 (s.2.1 5) (s.1 11)).bind fun x_39 =>
(if (x_39 - (23 : Int32)) < (0 : Int32) then
(mf_tellOne_j202 (s) ((x_39 - (23 : Int32))))
else
((mo_ag 403 (s.2.1 5) (s.1 11)).bind fun x_45 =>
(if x_45 ≤ (26 : Int32) then
(mf_tellOne_j205 (s) ((x_39 - (23 : Int32))))
else
(mf_tellOne_j202 (s) ((x_39 - (23 : Int32))))))))
set_option maxHeartbeats 4000000 in
theorem mb_tellOne_j185 {C : mm_C} {Q : mm_R} (h_roomFor : mk_roomFor C) (h_named : mk_named C) (h_bounded : mk_bounded C) (h_endsName : mk_endsName C) (h_goesOn : mk_goesOn C) (h_known : mk_known C) (h_wrong : mk_wrong C) (h_must : mk_must C) (h_fail : mk_fail C) (h_tellLaw : mk_tellLaw C) (s : ms_S)  (s2 : ms_S) (hf : mf_tellOne_j185 s = some s2) (hK : Q (none) (ms_H s2)) : mm_go C mm_Mk mm_Fk P_X12_tellOne Q (P_X12_tellOne.drop 185) [(0, .ref 0)] [] (ms_H s) 0 0 := by
  unfold mf_tellOne_j185 at hf
  obtain ⟨x_39, hx_39, hf⟩ := mo_bind hf
  obtain ⟨hi_39, rfl⟩ := mo_ag_inv hx_39
  by_cases c_40 : (((s.2.1 5) ((s.1 11)).toNatClampNeg) - (23 : Int32)) < (0 : Int32)
  · have hf := mo_pos hf c_40
    refine mm_adv 10 (cs' := P_X12_tellOne.drop 202) (l' := [(1, .int (((s.2.1 5) ((s.1 11)).toNatClampNeg) - (23 : Int32))), (0, .ref 0)]) (st' := []) (h' := ms_H s) (bc' := 0) (bs' := 0) (fun n g => (And.intro hi_39 (And.intro (fun _ => g) (fun q => absurd c_40 q)))) ?_
    refine mm_re (l' := [(0, .ref 0), (1, .int (((s.2.1 5) ((s.1 11)).toNatClampNeg) - (23 : Int32)))]) (c := [(0, .ref 0), (1, .int (((s.2.1 5) ((s.1 11)).toNatClampNeg) - (23 : Int32)))]) ?_ rfl rfl
    exact mb_tellOne_j202 h_roomFor h_named h_bounded h_endsName h_goesOn h_known h_wrong h_must h_fail h_tellLaw s ((((s.2.1 5) ((s.1 11)).toNatClampNeg) - (23 : Int32))) _ hf hK
  · have hf := mo_neg hf c_40
    obtain ⟨x_45, hx_45, hf⟩ := mo_bind hf
    obtain ⟨hi_45, rfl⟩ := mo_ag_inv hx_45
    by_cases c_46 : ((s.2.1 5) ((s.1 11)).toNatClampNeg) ≤ (26 : Int32)
    · have hf := mo_pos hf c_46
      refine mm_adv 17 (cs' := P_X12_tellOne.drop 205) (l' := [(1, .int (((s.2.1 5) ((s.1 11)).toNatClampNeg) - (23 : Int32))), (0, .ref 0)]) (st' := []) (h' := ms_H s) (bc' := 0) (bs' := 0) (fun n g => (And.intro hi_39 (And.intro (fun q => absurd q c_40) (fun _ => (And.intro hi_45 (And.intro (fun _ => g) (fun q => absurd c_46 q))))))) ?_
      refine mm_re (l' := [(0, .ref 0), (1, .int (((s.2.1 5) ((s.1 11)).toNatClampNeg) - (23 : Int32)))]) (c := [(0, .ref 0), (1, .int (((s.2.1 5) ((s.1 11)).toNatClampNeg) - (23 : Int32)))]) ?_ rfl rfl
      exact mb_tellOne_j205 h_roomFor h_named h_bounded h_endsName h_goesOn h_known h_wrong h_must h_fail h_tellLaw s ((((s.2.1 5) ((s.1 11)).toNatClampNeg) - (23 : Int32))) _ hf hK
    · have hf := mo_neg hf c_46
      refine mm_adv 17 (cs' := P_X12_tellOne.drop 202) (l' := [(1, .int (((s.2.1 5) ((s.1 11)).toNatClampNeg) - (23 : Int32))), (0, .ref 0)]) (st' := []) (h' := ms_H s) (bc' := 0) (bs' := 0) (fun n g => (And.intro hi_39 (And.intro (fun q => absurd q c_40) (fun _ => (And.intro hi_45 (And.intro (fun q => absurd q c_46) (fun _ => g))))))) ?_
      refine mm_re (l' := [(0, .ref 0), (1, .int (((s.2.1 5) ((s.1 11)).toNatClampNeg) - (23 : Int32)))]) (c := [(0, .ref 0), (1, .int (((s.2.1 5) ((s.1 11)).toNatClampNeg) - (23 : Int32)))]) ?_ rfl rfl
      exact mb_tellOne_j202 h_roomFor h_named h_bounded h_endsName h_goesOn h_known h_wrong h_must h_fail h_tellLaw s ((((s.2.1 5) ((s.1 11)).toNatClampNeg) - (23 : Int32))) _ hf hK
noncomputable def mf_tellOne (s : ms_S)  : Option (ms_S) :=
((mo_ag 403 (s.2.1 5) (s.1 11)).bind fun x_1 =>
(if x_1 = (20 : Int32) then
((mo_ag 2 (s.2.1 23) (s.1 19)).bind fun x_3 =>
((mf_roomFor s (x_3) ((5 : Int32))).bind fun s_4 =>
(if (s_4.1 13) ≤ (0 : Int32) then
((mf_named s_4 ).bind fun (v_6, s_6) =>
((mo_ag 2 (s_6.2.1 23) (s_6.1 19)).bind fun x_7 =>
((mf_bounded s_6 ((0 : Int32)) ((9 : Int32))).bind fun (v_8, s_8) =>
(bif mo_in (((5 : Int32) * (s_6.1 19)) + x_7) 10 then ((mo_ag 2 (s_8.2.1 23) (s_8.1 19)).bind fun x_10 =>
((mf_endsName (ms_sA s_8 24 (upd (s_8.2.1 24) ((((5 : Int32) * (s_6.1 19)) + x_7)).toNatClampNeg (v_8))) (v_6) (x_10)).bind fun s_11 =>
(if (s_11.1 13) = (0 : Int32) then
((mo_ag 2 (s_11.2.1 23) (s_11.1 19)).bind fun x_13 =>
(bif mo_in (s_11.1 19) 2 then some (ms_sA s_11 23 (upd (s_11.2.1 23) ((s_11.1 19)).toNatClampNeg ((x_13 + (1 : Int32))))) else none))
else
some s_11))) else none))))
else
some s_4)))
else
(if x_1 = (21 : Int32) then
((mo_ag 2 (s.2.1 25) (s.1 19)).bind fun x_15 =>
((mf_roomFor s (x_15) ((6 : Int32))).bind fun s_16 =>
(if (s_16.1 13) ≤ (0 : Int32) then
((mf_named s_16 ).bind fun (v_18, s_18) =>
((mo_ag 2 (s_18.2.1 25) (s_18.1 19)).bind fun x_19 =>
((mf_bounded s_18 ((0 : Int32)) ((9 : Int32))).bind fun (v_20, s_20) =>
(bif mo_in (((6 : Int32) * (s_18.1 19)) + x_19) 12 then ((mf_endsName (ms_sA s_20 26 (upd (s_20.2.1 26) ((((6 : Int32) * (s_18.1 19)) + x_19)).toNatClampNeg (v_20))) (v_18) ((10 : Int32))).bind fun s_22 =>
(if (s_22.1 13) = (0 : Int32) then
((mo_ag 2 (s_22.2.1 25) (s_22.1 19)).bind fun x_24 =>
(bif mo_in (s_22.1 19) 2 then some (ms_sA s_22 25 (upd (s_22.2.1 25) ((s_22.1 19)).toNatClampNeg ((x_24 + (1 : Int32))))) else none))
else
some s_22)) else none))))
else
some s_16)))
else
(if x_1 = (22 : Int32) then
((mf_goesOn s ).bind fun s_26 =>
((mf_known s_26 ).bind fun (v_27, s_27) =>
(bif mo_in (s_26.1 19) 2 then ((mf_known (ms_sA s_27 27 (upd (s_27.2.1 27) ((s_26.1 19)).toNatClampNeg (v_27))) ).bind fun (v_29, s_29) =>
(bif mo_in (s_27.1 19) 2 then (if (s_29.1 13) = (0 : Int32) then
((mo_ag 2 (s_29.2.1 27) (s_29.1 19)).bind fun x_32 =>
(if x_32 < (0 : Int32) then
(mf_tellOne_j151 ((ms_sA s_29 28 (upd (s_29.2.1 28) ((s_27.1 19)).toNatClampNeg (v_29)))))
else
((mo_ag 2 (s_29.2.1 27) (s_29.1 19)).bind fun x_35 =>
((mo_ag 2 (upd (s_29.2.1 28) ((s_27.1 19)).toNatClampNeg (v_29)) (s_29.1 19)).bind fun x_36 =>
(if x_35 = x_36 then
((mf_wrong (ms_sA s_29 28 (upd (s_29.2.1 28) ((s_27.1 19)).toNatClampNeg (v_29))) ((3 : Int32)) ((s_27.1 11))).bind fun s_38 =>
(mf_tellOne_j151 (s_38)))
else
(mf_tellOne_j151 ((ms_sA s_29 28 (upd (s_29.2.1 28) ((s_27.1 19)).toNatClampNeg (v_29))))))))))
else
(mf_tellOne_j151 ((ms_sA s_29 28 (upd (s_29.2.1 28) ((s_27.1 19)).toNatClampNeg (v_29)))))) else none)) else none)))
else
(if x_1 = (23 : Int32) then
(mf_tellOne_j185 (s))
else
(if x_1 = (24 : Int32) then
(mf_tellOne_j185 (s))
else
(if x_1 = (25 : Int32) then
(mf_tellOne_j185 (s))
else
(if x_1 = (26 : Int32) then
(mf_tellOne_j185 (s))
else
(if x_1 = (27 : Int32) then
((mf_goesOn s ).bind fun s_47 =>
((mf_bounded s_47 ((1 : Int32)) ((19 : Int32))).bind fun (v_48, s_48) =>
(bif mo_in (s_47.1 19) 2 then ((mf_must (ms_sA s_48 29 (upd (s_48.2.1 29) ((s_47.1 19)).toNatClampNeg (v_48))) ((4 : Int32))).bind fun s_50 =>
some s_50) else none)))
else
(if x_1 = (28 : Int32) then
((mf_goesOn s ).bind fun s_51 =>
((mf_bounded s_51 ((0 : Int32)) ((9999 : Int32))).bind fun (v_52, s_52) =>
(bif mo_in (s_51.1 19) 2 then ((mf_must (ms_sA s_52 30 (upd (s_52.2.1 30) ((s_51.1 19)).toNatClampNeg (v_52))) ((4 : Int32))).bind fun s_54 =>
some s_54) else none)))
else
(mf_tellOne_j185 (s))))))))))))
set_option maxHeartbeats 4000000 in
theorem mb_tellOne {C : mm_C} {Q : mm_R} (h_roomFor : mk_roomFor C) (h_named : mk_named C) (h_bounded : mk_bounded C) (h_endsName : mk_endsName C) (h_goesOn : mk_goesOn C) (h_known : mk_known C) (h_wrong : mk_wrong C) (h_must : mk_must C) (h_fail : mk_fail C) (h_tellLaw : mk_tellLaw C) (s : ms_S)  (s2 : ms_S) (hf : mf_tellOne s = some s2) (hK : Q (none) (ms_H s2)) : mm_go C mm_Mk mm_Fk P_X12_tellOne Q P_X12_tellOne [(0, .ref 0)] [] (ms_H s) 0 0 := by
  unfold mf_tellOne at hf
  obtain ⟨x_1, hx_1, hf⟩ := mo_bind hf
  obtain ⟨hi_1, rfl⟩ := mo_ag_inv hx_1
  by_cases c_2_0 : ((s.2.1 5) ((s.1 11)).toNatClampNeg) = (20 : Int32)
  · have hf := mo_pos hf c_2_0
    obtain ⟨x_3, hx_3, hf⟩ := mo_bind hf
    obtain ⟨hi_3, rfl⟩ := mo_ag_inv hx_3
    obtain ⟨s_4, hr_4, hf⟩ := mo_bind hf
    by_cases c_5 : (s_4.1 13) ≤ (0 : Int32)
    · have hf := mo_pos hf c_5
      obtain ⟨r_6, hr_6, hf⟩ := mo_bind hf
      obtain ⟨v_6, s_6⟩ := r_6
      obtain ⟨x_7, hx_7, hf⟩ := mo_bind hf
      obtain ⟨hi_7, rfl⟩ := mo_ag_inv hx_7
      obtain ⟨r_8, hr_8, hf⟩ := mo_bind hf
      obtain ⟨v_8, s_8⟩ := r_8
      obtain ⟨hi_9, hf⟩ := mo_if hf
      obtain ⟨x_10, hx_10, hf⟩ := mo_bind hf
      obtain ⟨hi_10, rfl⟩ := mo_ag_inv hx_10
      obtain ⟨s_11, hr_11, hf⟩ := mo_bind hf
      by_cases c_12 : (s_11.1 13) = (0 : Int32)
      · have hf := mo_pos hf c_12
        obtain ⟨x_13, hx_13, hf⟩ := mo_bind hf
        obtain ⟨hi_13, rfl⟩ := mo_ag_inv hx_13
        obtain ⟨hi_14, hf⟩ := mo_if hf
        obtain rfl := Option.some.inj hf
        exact ⟨59, (And.intro hi_1 (And.intro (fun _ => (And.intro hi_3 (h_roomFor s (((s.2.1 23) ((s.1 19)).toNatClampNeg)) ((5 : Int32)) s_4 _ hr_4 (And.intro (fun _ => (h_named s_4  v_6 s_6 _ hr_6 (And.intro hi_7 (h_bounded s_6 ((0 : Int32)) ((9 : Int32)) v_8 s_8 _ hr_8 (And.intro hi_9 (And.intro hi_10 (h_endsName (ms_sA s_8 24 (upd (s_8.2.1 24) ((((5 : Int32) * (s_6.1 19)) + ((s_6.2.1 23) ((s_6.1 19)).toNatClampNeg))).toNatClampNeg (v_8))) (v_6) (((s_8.2.1 23) ((s_8.1 19)).toNatClampNeg)) s_11 _ hr_11 (And.intro (fun q => absurd c_12 q) (fun _ => (And.intro hi_13 (And.intro hi_14 hK))))))))))) (fun q => absurd c_5 q))))) (fun q => absurd c_2_0 q)))⟩
      · have hf := mo_neg hf c_12
        obtain rfl := Option.some.inj hf
        exact ⟨49, (And.intro hi_1 (And.intro (fun _ => (And.intro hi_3 (h_roomFor s (((s.2.1 23) ((s.1 19)).toNatClampNeg)) ((5 : Int32)) s_4 _ hr_4 (And.intro (fun _ => (h_named s_4  v_6 s_6 _ hr_6 (And.intro hi_7 (h_bounded s_6 ((0 : Int32)) ((9 : Int32)) v_8 s_8 _ hr_8 (And.intro hi_9 (And.intro hi_10 (h_endsName (ms_sA s_8 24 (upd (s_8.2.1 24) ((((5 : Int32) * (s_6.1 19)) + ((s_6.2.1 23) ((s_6.1 19)).toNatClampNeg))).toNatClampNeg (v_8))) (v_6) (((s_8.2.1 23) ((s_8.1 19)).toNatClampNeg)) s_11 _ hr_11 (And.intro (fun _ => hK) (fun q => absurd c_12 q))))))))) (fun q => absurd c_5 q))))) (fun q => absurd c_2_0 q)))⟩
    · have hf := mo_neg hf c_5
      obtain rfl := Option.some.inj hf
      exact ⟨18, (And.intro hi_1 (And.intro (fun _ => (And.intro hi_3 (h_roomFor s (((s.2.1 23) ((s.1 19)).toNatClampNeg)) ((5 : Int32)) s_4 _ hr_4 (And.intro (fun q => absurd q c_5) (fun _ => hK))))) (fun q => absurd c_2_0 q)))⟩
  replace hf := mo_neg hf c_2_0
  by_cases c_2_1 : ((s.2.1 5) ((s.1 11)).toNatClampNeg) = (21 : Int32)
  · have hf := mo_pos hf c_2_1
    obtain ⟨x_15, hx_15, hf⟩ := mo_bind hf
    obtain ⟨hi_15, rfl⟩ := mo_ag_inv hx_15
    obtain ⟨s_16, hr_16, hf⟩ := mo_bind hf
    by_cases c_17 : (s_16.1 13) ≤ (0 : Int32)
    · have hf := mo_pos hf c_17
      obtain ⟨r_18, hr_18, hf⟩ := mo_bind hf
      obtain ⟨v_18, s_18⟩ := r_18
      obtain ⟨x_19, hx_19, hf⟩ := mo_bind hf
      obtain ⟨hi_19, rfl⟩ := mo_ag_inv hx_19
      obtain ⟨r_20, hr_20, hf⟩ := mo_bind hf
      obtain ⟨v_20, s_20⟩ := r_20
      obtain ⟨hi_21, hf⟩ := mo_if hf
      obtain ⟨s_22, hr_22, hf⟩ := mo_bind hf
      by_cases c_23 : (s_22.1 13) = (0 : Int32)
      · have hf := mo_pos hf c_23
        obtain ⟨x_24, hx_24, hf⟩ := mo_bind hf
        obtain ⟨hi_24, rfl⟩ := mo_ag_inv hx_24
        obtain ⟨hi_25, hf⟩ := mo_if hf
        obtain rfl := Option.some.inj hf
        exact ⟨55, (And.intro hi_1 (And.intro (fun q => absurd q c_2_0) (fun _ => (And.intro (fun _ => (And.intro hi_15 (h_roomFor s (((s.2.1 25) ((s.1 19)).toNatClampNeg)) ((6 : Int32)) s_16 _ hr_16 (And.intro (fun _ => (h_named s_16  v_18 s_18 _ hr_18 (And.intro hi_19 (h_bounded s_18 ((0 : Int32)) ((9 : Int32)) v_20 s_20 _ hr_20 (And.intro hi_21 (h_endsName (ms_sA s_20 26 (upd (s_20.2.1 26) ((((6 : Int32) * (s_18.1 19)) + ((s_18.2.1 25) ((s_18.1 19)).toNatClampNeg))).toNatClampNeg (v_20))) (v_18) ((10 : Int32)) s_22 _ hr_22 (And.intro (fun q => absurd c_23 q) (fun _ => (And.intro hi_24 (And.intro hi_25 hK)))))))))) (fun q => absurd c_17 q))))) (fun q => absurd c_2_1 q)))))⟩
      · have hf := mo_neg hf c_23
        obtain rfl := Option.some.inj hf
        exact ⟨45, (And.intro hi_1 (And.intro (fun q => absurd q c_2_0) (fun _ => (And.intro (fun _ => (And.intro hi_15 (h_roomFor s (((s.2.1 25) ((s.1 19)).toNatClampNeg)) ((6 : Int32)) s_16 _ hr_16 (And.intro (fun _ => (h_named s_16  v_18 s_18 _ hr_18 (And.intro hi_19 (h_bounded s_18 ((0 : Int32)) ((9 : Int32)) v_20 s_20 _ hr_20 (And.intro hi_21 (h_endsName (ms_sA s_20 26 (upd (s_20.2.1 26) ((((6 : Int32) * (s_18.1 19)) + ((s_18.2.1 25) ((s_18.1 19)).toNatClampNeg))).toNatClampNeg (v_20))) (v_18) ((10 : Int32)) s_22 _ hr_22 (And.intro (fun _ => hK) (fun q => absurd c_23 q)))))))) (fun q => absurd c_17 q))))) (fun q => absurd c_2_1 q)))))⟩
    · have hf := mo_neg hf c_17
      obtain rfl := Option.some.inj hf
      exact ⟨18, (And.intro hi_1 (And.intro (fun q => absurd q c_2_0) (fun _ => (And.intro (fun _ => (And.intro hi_15 (h_roomFor s (((s.2.1 25) ((s.1 19)).toNatClampNeg)) ((6 : Int32)) s_16 _ hr_16 (And.intro (fun q => absurd q c_17) (fun _ => hK))))) (fun q => absurd c_2_1 q)))))⟩
  replace hf := mo_neg hf c_2_1
  by_cases c_2_2 : ((s.2.1 5) ((s.1 11)).toNatClampNeg) = (22 : Int32)
  · have hf := mo_pos hf c_2_2
    obtain ⟨s_26, hr_26, hf⟩ := mo_bind hf
    obtain ⟨r_27, hr_27, hf⟩ := mo_bind hf
    obtain ⟨v_27, s_27⟩ := r_27
    obtain ⟨hi_28, hf⟩ := mo_if hf
    obtain ⟨r_29, hr_29, hf⟩ := mo_bind hf
    obtain ⟨v_29, s_29⟩ := r_29
    obtain ⟨hi_30, hf⟩ := mo_if hf
    by_cases c_31 : (s_29.1 13) = (0 : Int32)
    · have hf := mo_pos hf c_31
      obtain ⟨x_32, hx_32, hf⟩ := mo_bind hf
      obtain ⟨hi_32, rfl⟩ := mo_ag_inv hx_32
      by_cases c_33 : ((s_29.2.1 27) ((s_29.1 19)).toNatClampNeg) < (0 : Int32)
      · have hf := mo_pos hf c_33
        refine mm_adv 34 (cs' := P_X12_tellOne.drop 151) (l' := [(1, .int (s_27.1 11)), (0, .ref 0)]) (st' := []) (h' := ms_H (ms_sA s_29 28 (upd (s_29.2.1 28) ((s_27.1 19)).toNatClampNeg (v_29)))) (bc' := 0) (bs' := 0) (fun n g => (And.intro hi_1 (And.intro (fun q => absurd q c_2_0) (fun _ => (And.intro (fun q => absurd q c_2_1) (fun _ => (And.intro (fun _ => (h_goesOn s  s_26 _ hr_26 (h_known s_26  v_27 s_27 _ hr_27 (And.intro hi_28 (h_known (ms_sA s_27 27 (upd (s_27.2.1 27) ((s_26.1 19)).toNatClampNeg (v_27)))  v_29 s_29 _ hr_29 (And.intro hi_30 (And.intro (fun q => absurd c_31 q) (fun _ => (And.intro hi_32 (And.intro (fun _ => g) (fun q => absurd c_33 q))))))))))) (fun q => absurd c_2_2 q)))))))) ?_
        refine mm_re (l' := [(0, .ref 0)]) (c := [(0, .ref 0)]) ?_ rfl rfl
        exact mb_tellOne_j151 h_roomFor h_named h_bounded h_endsName h_goesOn h_known h_wrong h_must h_fail h_tellLaw (ms_sA s_29 28 (upd (s_29.2.1 28) ((s_27.1 19)).toNatClampNeg (v_29))) _ hf hK
      · have hf := mo_neg hf c_33
        obtain ⟨x_35, hx_35, hf⟩ := mo_bind hf
        obtain ⟨hi_35, rfl⟩ := mo_ag_inv hx_35
        obtain ⟨x_36, hx_36, hf⟩ := mo_bind hf
        obtain ⟨hi_36, rfl⟩ := mo_ag_inv hx_36
        by_cases c_37 : ((s_29.2.1 27) ((s_29.1 19)).toNatClampNeg) = ((upd (s_29.2.1 28) ((s_27.1 19)).toNatClampNeg (v_29)) ((s_29.1 19)).toNatClampNeg)
        · have hf := mo_pos hf c_37
          obtain ⟨s_38, hr_38, hf⟩ := mo_bind hf
          refine mm_adv 49 (cs' := P_X12_tellOne.drop 151) (l' := [(1, .int (s_27.1 11)), (0, .ref 0)]) (st' := []) (h' := ms_H s_38) (bc' := 0) (bs' := 0) (fun n g => (And.intro hi_1 (And.intro (fun q => absurd q c_2_0) (fun _ => (And.intro (fun q => absurd q c_2_1) (fun _ => (And.intro (fun _ => (h_goesOn s  s_26 _ hr_26 (h_known s_26  v_27 s_27 _ hr_27 (And.intro hi_28 (h_known (ms_sA s_27 27 (upd (s_27.2.1 27) ((s_26.1 19)).toNatClampNeg (v_27)))  v_29 s_29 _ hr_29 (And.intro hi_30 (And.intro (fun q => absurd c_31 q) (fun _ => (And.intro hi_32 (And.intro (fun q => absurd q c_33) (fun _ => (And.intro hi_35 (And.intro hi_36 (And.intro (fun q => absurd c_37 q) (fun _ => (h_wrong (ms_sA s_29 28 (upd (s_29.2.1 28) ((s_27.1 19)).toNatClampNeg (v_29))) ((3 : Int32)) ((s_27.1 11)) s_38 _ hr_38 g)))))))))))))))) (fun q => absurd c_2_2 q)))))))) ?_
          refine mm_re (l' := [(0, .ref 0)]) (c := [(0, .ref 0)]) ?_ rfl rfl
          exact mb_tellOne_j151 h_roomFor h_named h_bounded h_endsName h_goesOn h_known h_wrong h_must h_fail h_tellLaw s_38 _ hf hK
        · have hf := mo_neg hf c_37
          refine mm_adv 45 (cs' := P_X12_tellOne.drop 151) (l' := [(1, .int (s_27.1 11)), (0, .ref 0)]) (st' := []) (h' := ms_H (ms_sA s_29 28 (upd (s_29.2.1 28) ((s_27.1 19)).toNatClampNeg (v_29)))) (bc' := 0) (bs' := 0) (fun n g => (And.intro hi_1 (And.intro (fun q => absurd q c_2_0) (fun _ => (And.intro (fun q => absurd q c_2_1) (fun _ => (And.intro (fun _ => (h_goesOn s  s_26 _ hr_26 (h_known s_26  v_27 s_27 _ hr_27 (And.intro hi_28 (h_known (ms_sA s_27 27 (upd (s_27.2.1 27) ((s_26.1 19)).toNatClampNeg (v_27)))  v_29 s_29 _ hr_29 (And.intro hi_30 (And.intro (fun q => absurd c_31 q) (fun _ => (And.intro hi_32 (And.intro (fun q => absurd q c_33) (fun _ => (And.intro hi_35 (And.intro hi_36 (And.intro (fun _ => g) (fun q => absurd c_37 q))))))))))))))) (fun q => absurd c_2_2 q)))))))) ?_
          refine mm_re (l' := [(0, .ref 0)]) (c := [(0, .ref 0)]) ?_ rfl rfl
          exact mb_tellOne_j151 h_roomFor h_named h_bounded h_endsName h_goesOn h_known h_wrong h_must h_fail h_tellLaw (ms_sA s_29 28 (upd (s_29.2.1 28) ((s_27.1 19)).toNatClampNeg (v_29))) _ hf hK
    · have hf := mo_neg hf c_31
      refine mm_adv 28 (cs' := P_X12_tellOne.drop 151) (l' := [(1, .int (s_27.1 11)), (0, .ref 0)]) (st' := []) (h' := ms_H (ms_sA s_29 28 (upd (s_29.2.1 28) ((s_27.1 19)).toNatClampNeg (v_29)))) (bc' := 0) (bs' := 0) (fun n g => (And.intro hi_1 (And.intro (fun q => absurd q c_2_0) (fun _ => (And.intro (fun q => absurd q c_2_1) (fun _ => (And.intro (fun _ => (h_goesOn s  s_26 _ hr_26 (h_known s_26  v_27 s_27 _ hr_27 (And.intro hi_28 (h_known (ms_sA s_27 27 (upd (s_27.2.1 27) ((s_26.1 19)).toNatClampNeg (v_27)))  v_29 s_29 _ hr_29 (And.intro hi_30 (And.intro (fun _ => g) (fun q => absurd c_31 q)))))))) (fun q => absurd c_2_2 q)))))))) ?_
      refine mm_re (l' := [(0, .ref 0)]) (c := [(0, .ref 0)]) ?_ rfl rfl
      exact mb_tellOne_j151 h_roomFor h_named h_bounded h_endsName h_goesOn h_known h_wrong h_must h_fail h_tellLaw (ms_sA s_29 28 (upd (s_29.2.1 28) ((s_27.1 19)).toNatClampNeg (v_29))) _ hf hK
  replace hf := mo_neg hf c_2_2
  by_cases c_2_3 : ((s.2.1 5) ((s.1 11)).toNatClampNeg) = (23 : Int32)
  · have hf := mo_pos hf c_2_3
    refine mm_adv 6 (cs' := P_X12_tellOne.drop 185) (l' := [(0, .ref 0)]) (st' := []) (h' := ms_H s) (bc' := 0) (bs' := 0) (fun n g => (And.intro hi_1 (And.intro (fun q => absurd q c_2_0) (fun _ => (And.intro (fun q => absurd q c_2_1) (fun _ => (And.intro (fun q => absurd q c_2_2) (fun _ => (And.intro (fun _ => g) (fun q => absurd c_2_3 q)))))))))) ?_
    refine mm_re (l' := [(0, .ref 0)]) (c := [(0, .ref 0)]) ?_ rfl rfl
    exact mb_tellOne_j185 h_roomFor h_named h_bounded h_endsName h_goesOn h_known h_wrong h_must h_fail h_tellLaw s _ hf hK
  replace hf := mo_neg hf c_2_3
  by_cases c_2_4 : ((s.2.1 5) ((s.1 11)).toNatClampNeg) = (24 : Int32)
  · have hf := mo_pos hf c_2_4
    refine mm_adv 6 (cs' := P_X12_tellOne.drop 185) (l' := [(0, .ref 0)]) (st' := []) (h' := ms_H s) (bc' := 0) (bs' := 0) (fun n g => (And.intro hi_1 (And.intro (fun q => absurd q c_2_0) (fun _ => (And.intro (fun q => absurd q c_2_1) (fun _ => (And.intro (fun q => absurd q c_2_2) (fun _ => (And.intro (fun q => absurd q c_2_3) (fun _ => (And.intro (fun _ => g) (fun q => absurd c_2_4 q)))))))))))) ?_
    refine mm_re (l' := [(0, .ref 0)]) (c := [(0, .ref 0)]) ?_ rfl rfl
    exact mb_tellOne_j185 h_roomFor h_named h_bounded h_endsName h_goesOn h_known h_wrong h_must h_fail h_tellLaw s _ hf hK
  replace hf := mo_neg hf c_2_4
  by_cases c_2_5 : ((s.2.1 5) ((s.1 11)).toNatClampNeg) = (25 : Int32)
  · have hf := mo_pos hf c_2_5
    refine mm_adv 6 (cs' := P_X12_tellOne.drop 185) (l' := [(0, .ref 0)]) (st' := []) (h' := ms_H s) (bc' := 0) (bs' := 0) (fun n g => (And.intro hi_1 (And.intro (fun q => absurd q c_2_0) (fun _ => (And.intro (fun q => absurd q c_2_1) (fun _ => (And.intro (fun q => absurd q c_2_2) (fun _ => (And.intro (fun q => absurd q c_2_3) (fun _ => (And.intro (fun q => absurd q c_2_4) (fun _ => (And.intro (fun _ => g) (fun q => absurd c_2_5 q)))))))))))))) ?_
    refine mm_re (l' := [(0, .ref 0)]) (c := [(0, .ref 0)]) ?_ rfl rfl
    exact mb_tellOne_j185 h_roomFor h_named h_bounded h_endsName h_goesOn h_known h_wrong h_must h_fail h_tellLaw s _ hf hK
  replace hf := mo_neg hf c_2_5
  by_cases c_2_6 : ((s.2.1 5) ((s.1 11)).toNatClampNeg) = (26 : Int32)
  · have hf := mo_pos hf c_2_6
    refine mm_adv 6 (cs' := P_X12_tellOne.drop 185) (l' := [(0, .ref 0)]) (st' := []) (h' := ms_H s) (bc' := 0) (bs' := 0) (fun n g => (And.intro hi_1 (And.intro (fun q => absurd q c_2_0) (fun _ => (And.intro (fun q => absurd q c_2_1) (fun _ => (And.intro (fun q => absurd q c_2_2) (fun _ => (And.intro (fun q => absurd q c_2_3) (fun _ => (And.intro (fun q => absurd q c_2_4) (fun _ => (And.intro (fun q => absurd q c_2_5) (fun _ => (And.intro (fun _ => g) (fun q => absurd c_2_6 q)))))))))))))))) ?_
    refine mm_re (l' := [(0, .ref 0)]) (c := [(0, .ref 0)]) ?_ rfl rfl
    exact mb_tellOne_j185 h_roomFor h_named h_bounded h_endsName h_goesOn h_known h_wrong h_must h_fail h_tellLaw s _ hf hK
  replace hf := mo_neg hf c_2_6
  by_cases c_2_7 : ((s.2.1 5) ((s.1 11)).toNatClampNeg) = (27 : Int32)
  · have hf := mo_pos hf c_2_7
    obtain ⟨s_47, hr_47, hf⟩ := mo_bind hf
    obtain ⟨r_48, hr_48, hf⟩ := mo_bind hf
    obtain ⟨v_48, s_48⟩ := r_48
    obtain ⟨hi_49, hf⟩ := mo_if hf
    obtain ⟨s_50, hr_50, hf⟩ := mo_bind hf
    obtain rfl := Option.some.inj hf
    exact ⟨22, (And.intro hi_1 (And.intro (fun q => absurd q c_2_0) (fun _ => (And.intro (fun q => absurd q c_2_1) (fun _ => (And.intro (fun q => absurd q c_2_2) (fun _ => (And.intro (fun q => absurd q c_2_3) (fun _ => (And.intro (fun q => absurd q c_2_4) (fun _ => (And.intro (fun q => absurd q c_2_5) (fun _ => (And.intro (fun q => absurd q c_2_6) (fun _ => (And.intro (fun _ => (h_goesOn s  s_47 _ hr_47 (h_bounded s_47 ((1 : Int32)) ((19 : Int32)) v_48 s_48 _ hr_48 (And.intro hi_49 (h_must (ms_sA s_48 29 (upd (s_48.2.1 29) ((s_47.1 19)).toNatClampNeg (v_48))) ((4 : Int32)) s_50 _ hr_50 hK))))) (fun q => absurd c_2_7 q)))))))))))))))))⟩
  replace hf := mo_neg hf c_2_7
  by_cases c_2_8 : ((s.2.1 5) ((s.1 11)).toNatClampNeg) = (28 : Int32)
  · have hf := mo_pos hf c_2_8
    obtain ⟨s_51, hr_51, hf⟩ := mo_bind hf
    obtain ⟨r_52, hr_52, hf⟩ := mo_bind hf
    obtain ⟨v_52, s_52⟩ := r_52
    obtain ⟨hi_53, hf⟩ := mo_if hf
    obtain ⟨s_54, hr_54, hf⟩ := mo_bind hf
    obtain rfl := Option.some.inj hf
    exact ⟨22, (And.intro hi_1 (And.intro (fun q => absurd q c_2_0) (fun _ => (And.intro (fun q => absurd q c_2_1) (fun _ => (And.intro (fun q => absurd q c_2_2) (fun _ => (And.intro (fun q => absurd q c_2_3) (fun _ => (And.intro (fun q => absurd q c_2_4) (fun _ => (And.intro (fun q => absurd q c_2_5) (fun _ => (And.intro (fun q => absurd q c_2_6) (fun _ => (And.intro (fun q => absurd q c_2_7) (fun _ => (And.intro (fun _ => (h_goesOn s  s_51 _ hr_51 (h_bounded s_51 ((0 : Int32)) ((9999 : Int32)) v_52 s_52 _ hr_52 (And.intro hi_53 (h_must (ms_sA s_52 30 (upd (s_52.2.1 30) ((s_51.1 19)).toNatClampNeg (v_52))) ((4 : Int32)) s_54 _ hr_54 hK))))) (fun q => absurd c_2_8 q)))))))))))))))))))⟩
  replace hf := mo_neg hf c_2_8
  refine mm_adv 6 (cs' := P_X12_tellOne.drop 185) (l' := [(0, .ref 0)]) (st' := []) (h' := ms_H s) (bc' := 0) (bs' := 0) (fun n g => (And.intro hi_1 (And.intro (fun q => absurd q c_2_0) (fun _ => (And.intro (fun q => absurd q c_2_1) (fun _ => (And.intro (fun q => absurd q c_2_2) (fun _ => (And.intro (fun q => absurd q c_2_3) (fun _ => (And.intro (fun q => absurd q c_2_4) (fun _ => (And.intro (fun q => absurd q c_2_5) (fun _ => (And.intro (fun q => absurd q c_2_6) (fun _ => (And.intro (fun q => absurd q c_2_7) (fun _ => (And.intro (fun q => absurd q c_2_8) (fun _ => g)))))))))))))))))))) ?_
  refine mm_re (l' := [(0, .ref 0)]) (c := [(0, .ref 0)]) ?_ rfl rfl
  exact mb_tellOne_j185 h_roomFor h_named h_bounded h_endsName h_goesOn h_known h_wrong h_must h_fail h_tellLaw s _ hf hK
def mk_tellOne (C : mm_C) : Prop := ∀ (s : ms_S)  (s2 : ms_S) (Q : mm_R), mf_tellOne s = some s2 → Q (none) (ms_H s2) → C 21 [.ref 0] (ms_H s) Q
set_option maxRecDepth 100000 in
theorem mt_tellOne (B : mm_C) (d : Nat) : mk_tellOne (mm_ct B mm_Mk mm_Fk mm_PC (d + 7)) := fun s s2 Q hf hK => Or.inr (mb_tellOne (mt_roomFor B (d + 3)) (mt_named B (d + 2)) (mt_bounded B (d + 3)) (mt_endsName B (d + 2)) (mt_goesOn B (d + 4)) (mt_known B (d + 2)) (mt_wrong B (d + 5)) (mt_must B (d + 3)) (mt_fail B (d + 5)) (mt_tellLaw B (d + 0)) s s2 hf hK)
-- X12_setsRow
noncomputable def mf_setsRow (s : ms_S)  : Option (ms_S) :=
((mo_ag 2 (s.2.1 29) (s.1 18)).bind fun x_1 =>
some (ms_sA s 48 (upd (upd (upd (s.2.1 48) 0 (x_1)) 1 ((0 : Int32))) 2 ((6 : Int32)))))
set_option maxHeartbeats 4000000 in
theorem mb_setsRow {C : mm_C} {Q : mm_R}  (s : ms_S)  (s2 : ms_S) (hf : mf_setsRow s = some s2) (hK : Q (none) (ms_H s2)) : mm_go C mm_Mk mm_Fk P_X12_setsRow Q P_X12_setsRow [(0, .ref 0)] [] (ms_H s) 0 0 := by
  unfold mf_setsRow at hf
  obtain ⟨x_1, hx_1, hf⟩ := mo_bind hf
  obtain ⟨hi_1, rfl⟩ := mo_ag_inv hx_1
  obtain rfl := Option.some.inj hf
  exact ⟨20, (And.intro hi_1 (And.intro (mm_vi rfl) (And.intro (mm_vi rfl) (And.intro (mm_vi rfl) hK))))⟩
def mk_setsRow (C : mm_C) : Prop := ∀ (s : ms_S)  (s2 : ms_S) (Q : mm_R), mf_setsRow s = some s2 → Q (none) (ms_H s2) → C 39 [.ref 0] (ms_H s) Q
set_option maxRecDepth 100000 in
theorem mt_setsRow (B : mm_C) (d : Nat) : mk_setsRow (mm_ct B mm_Mk mm_Fk mm_PC (d + 1)) := fun s s2 Q hf hK => Or.inr (mb_setsRow  s s2 hf hK)
-- X12_begins
noncomputable def mf_begins_l2  : (Int32 × ms_S) → Option ((Int32 × ms_S) ⊕ ((ms_S))) := fun (w1, s) =>
(if (12 : Int32) ≤ w1 then
some (.inr (s))
else
(bif mo_in w1 12 then some (.inl ((w1 + (1 : Int32)), (ms_sA s 48 (upd (s.2.1 48) (w1).toNatClampNeg ((0 : Int32)))))) else none))
set_option maxHeartbeats 4000000 in
theorem mb_begins_l2 {C : mm_C} {Q : mm_R} (h_setsRow : mk_setsRow C)  (t : Int32 × ms_S) (x : (ms_S)) (hl : mo_loop (mf_begins_l2 ) t = some x) (hK : (fun sy => mm_go C mm_Mk mm_Fk P_X12_begins Q (P_X12_begins.drop 12) [(0, .ref 0)] [] (ms_H sy) 0 0) x) : (mo_c2 (fun y1 sy => mm_go C mm_Mk mm_Fk P_X12_begins Q (P_X12_begins.drop 2) [(0, .ref 0), (1, .int y1)] [] (ms_H sy) 0 0)) t := by
  refine mo_loop_go (G := (mo_c2 (fun y1 sy => mm_go C mm_Mk mm_Fk P_X12_begins Q (P_X12_begins.drop 2) [(0, .ref 0), (1, .int y1)] [] (ms_H sy) 0 0)) ) (K := (fun sy => mm_go C mm_Mk mm_Fk P_X12_begins Q (P_X12_begins.drop 12) [(0, .ref 0)] [] (ms_H sy) 0 0) ) ?_ t x hl hK
  intro t r hf hK
  obtain ⟨w1, s⟩ := t
  unfold mf_begins_l2 at hf
  by_cases c_1 : (12 : Int32) ≤ w1
  · have hf := mo_pos hf c_1
    obtain rfl := Option.some.inj hf
    refine mm_adv 3 (cs' := P_X12_begins.drop 12) (l' := [(0, .ref 0), (1, .int w1)]) (st' := []) (h' := ms_H s) (bc' := 0) (bs' := 0) (fun n g => (And.intro (fun _ => g) (fun q => absurd c_1 q))) ?_
    exact mm_re (c := [(0, .ref 0)]) hK rfl rfl
  · have hf := mo_neg hf c_1
    obtain ⟨hi_2, hf⟩ := mo_if hf
    obtain rfl := Option.some.inj hf
    refine mm_adv 10 (cs' := P_X12_begins.drop 2) (l' := [(1, .int (w1 + (1 : Int32))), (0, .ref 0)]) (st' := []) (h' := ms_H (ms_sA s 48 (upd (s.2.1 48) (w1).toNatClampNeg ((0 : Int32))))) (bc' := 0) (bs' := 0) (fun n g => (And.intro (fun q => absurd q c_1) (fun _ => (And.intro hi_2 g)))) ?_
    exact mm_re (c := [(0, .ref 0), (1, .int (w1 + (1 : Int32)))]) hK rfl rfl
noncomputable def mf_begins (s : ms_S)  : Option (ms_S) :=
((mo_loop (mf_begins_l2 ) ((0 : Int32), s)).bind fun s_3 =>
((mf_setsRow s_3 ).bind fun s_4 =>
((mo_ag 2 (s_4.2.1 27) (s_4.1 18)).bind fun x_5 =>
((mo_ag 2 (s_4.2.1 28) (s_4.1 18)).bind fun x_6 =>
((mo_ag 2 (s_4.2.1 30) (s_4.1 18)).bind fun x_7 =>
some (ms_sA (ms_sI (ms_sI s_4 49 (x_7)) 50 ((0 : Int32))) 48 (upd (upd (s_4.2.1 48) 3 (x_5)) 4 (x_6))))))))
set_option maxHeartbeats 4000000 in
theorem mb_begins {C : mm_C} {Q : mm_R} (h_setsRow : mk_setsRow C) (s : ms_S)  (s2 : ms_S) (hf : mf_begins s = some s2) (hK : Q (none) (ms_H s2)) : mm_go C mm_Mk mm_Fk P_X12_begins Q P_X12_begins [(0, .ref 0)] [] (ms_H s) 0 0 := by
  unfold mf_begins at hf
  obtain ⟨x_3, hl_3, hf⟩ := mo_bind hf
  refine mm_adv 2 (cs' := P_X12_begins.drop 2) (l' := [(1, .int (0 : Int32)), (0, .ref 0)]) (st' := []) (h' := ms_H s) (bc' := 0) (bs' := 0) (fun n g => g) ?_
  refine mm_re (l' := [(0, .ref 0), (1, .int (0 : Int32))]) (c := [(0, .ref 0), (1, .int (0 : Int32))]) ?_ rfl rfl
  refine mb_begins_l2 h_setsRow  ((0 : Int32), s) x_3 hl_3 ?_
  obtain ⟨s_3, rfl⟩ : ∃ q, q = x_3 := ⟨_, rfl⟩
  obtain ⟨s_4, hr_4, hf⟩ := mo_bind hf
  obtain ⟨x_5, hx_5, hf⟩ := mo_bind hf
  obtain ⟨hi_5, rfl⟩ := mo_ag_inv hx_5
  obtain ⟨x_6, hx_6, hf⟩ := mo_bind hf
  obtain ⟨hi_6, rfl⟩ := mo_ag_inv hx_6
  obtain ⟨x_7, hx_7, hf⟩ := mo_bind hf
  obtain ⟨hi_7, rfl⟩ := mo_ag_inv hx_7
  obtain rfl := Option.some.inj hf
  exact ⟨31, (h_setsRow s_3  s_4 _ hr_4 (And.intro hi_5 (And.intro (mm_vi rfl) (And.intro hi_6 (And.intro (mm_vi rfl) (And.intro hi_7 (And.intro trivial (And.intro trivial hK))))))))⟩
def mk_begins (C : mm_C) : Prop := ∀ (s : ms_S)  (s2 : ms_S) (Q : mm_R), mf_begins s = some s2 → Q (none) (ms_H s2) → C 40 [.ref 0] (ms_H s) Q
set_option maxRecDepth 100000 in
theorem mt_begins (B : mm_C) (d : Nat) : mk_begins (mm_ct B mm_Mk mm_Fk mm_PC (d + 2)) := fun s s2 Q hf hK => Or.inr (mb_begins (mt_setsRow B (d + 0)) s s2 hf hK)
-- X12_keepsRow
noncomputable def mf_keepsRow_l2  : (Int32 × ms_S) → Option ((Int32 × ms_S) ⊕ ((ms_S))) := fun (w1, s) =>
(if (12 : Int32) ≤ w1 then
some (.inr (s))
else
((mo_ag 12 (s.2.1 48) w1).bind fun x_2 =>
(bif mo_in w1 12 then some (.inl ((w1 + (1 : Int32)), (ms_sA s 47 (upd (s.2.1 47) (w1).toNatClampNeg (x_2))))) else none)))
set_option maxHeartbeats 4000000 in
theorem mb_keepsRow_l2 {C : mm_C} {Q : mm_R}   (t : Int32 × ms_S) (x : (ms_S)) (hl : mo_loop (mf_keepsRow_l2 ) t = some x) (hK : (fun sy => mm_go C mm_Mk mm_Fk P_X12_keepsRow Q (P_X12_keepsRow.drop 15) [] [] (ms_H sy) 0 0) x) : (mo_c2 (fun y1 sy => mm_go C mm_Mk mm_Fk P_X12_keepsRow Q (P_X12_keepsRow.drop 2) [(0, .ref 0), (1, .int y1)] [] (ms_H sy) 0 0)) t := by
  refine mo_loop_go (G := (mo_c2 (fun y1 sy => mm_go C mm_Mk mm_Fk P_X12_keepsRow Q (P_X12_keepsRow.drop 2) [(0, .ref 0), (1, .int y1)] [] (ms_H sy) 0 0)) ) (K := (fun sy => mm_go C mm_Mk mm_Fk P_X12_keepsRow Q (P_X12_keepsRow.drop 15) [] [] (ms_H sy) 0 0) ) ?_ t x hl hK
  intro t r hf hK
  obtain ⟨w1, s⟩ := t
  unfold mf_keepsRow_l2 at hf
  by_cases c_1 : (12 : Int32) ≤ w1
  · have hf := mo_pos hf c_1
    obtain rfl := Option.some.inj hf
    refine mm_adv 3 (cs' := P_X12_keepsRow.drop 15) (l' := [(0, .ref 0), (1, .int w1)]) (st' := []) (h' := ms_H s) (bc' := 0) (bs' := 0) (fun n g => (And.intro (fun _ => g) (fun q => absurd c_1 q))) ?_
    exact mm_re (c := []) hK rfl rfl
  · have hf := mo_neg hf c_1
    obtain ⟨x_2, hx_2, hf⟩ := mo_bind hf
    obtain ⟨hi_2, rfl⟩ := mo_ag_inv hx_2
    obtain ⟨hi_3, hf⟩ := mo_if hf
    obtain rfl := Option.some.inj hf
    refine mm_adv 13 (cs' := P_X12_keepsRow.drop 2) (l' := [(1, .int (w1 + (1 : Int32))), (0, .ref 0)]) (st' := []) (h' := ms_H (ms_sA s 47 (upd (s.2.1 47) (w1).toNatClampNeg (((s.2.1 48) (w1).toNatClampNeg))))) (bc' := 0) (bs' := 0) (fun n g => (And.intro (fun q => absurd q c_1) (fun _ => (And.intro hi_2 (And.intro hi_3 g))))) ?_
    exact mm_re (c := [(0, .ref 0), (1, .int (w1 + (1 : Int32)))]) hK rfl rfl
noncomputable def mf_keepsRow (s : ms_S)  : Option (ms_S) :=
((mo_loop (mf_keepsRow_l2 ) ((0 : Int32), s)).bind fun s_4 =>
some s_4)
set_option maxHeartbeats 4000000 in
theorem mb_keepsRow {C : mm_C} {Q : mm_R}  (s : ms_S)  (s2 : ms_S) (hf : mf_keepsRow s = some s2) (hK : Q (none) (ms_H s2)) : mm_go C mm_Mk mm_Fk P_X12_keepsRow Q P_X12_keepsRow [(0, .ref 0)] [] (ms_H s) 0 0 := by
  unfold mf_keepsRow at hf
  obtain ⟨x_4, hl_4, hf⟩ := mo_bind hf
  refine mm_adv 2 (cs' := P_X12_keepsRow.drop 2) (l' := [(1, .int (0 : Int32)), (0, .ref 0)]) (st' := []) (h' := ms_H s) (bc' := 0) (bs' := 0) (fun n g => g) ?_
  refine mm_re (l' := [(0, .ref 0), (1, .int (0 : Int32))]) (c := [(0, .ref 0), (1, .int (0 : Int32))]) ?_ rfl rfl
  refine mb_keepsRow_l2   ((0 : Int32), s) x_4 hl_4 ?_
  obtain ⟨s_4, rfl⟩ : ∃ q, q = x_4 := ⟨_, rfl⟩
  obtain rfl := Option.some.inj hf
  exact ⟨1, hK⟩
def mk_keepsRow (C : mm_C) : Prop := ∀ (s : ms_S)  (s2 : ms_S) (Q : mm_R), mf_keepsRow s = some s2 → Q (none) (ms_H s2) → C 41 [.ref 0] (ms_H s) Q
set_option maxRecDepth 100000 in
theorem mt_keepsRow (B : mm_C) (d : Nat) : mk_keepsRow (mm_ct B mm_Mk mm_Fk mm_PC (d + 1)) := fun s s2 Q hf hK => Or.inr (mb_keepsRow  s s2 hf hK)
-- X12_read
noncomputable def mf_read_l6  : (Int32 × ms_S) → Option ((Int32 × ms_S) ⊕ ((ms_S))) := fun (w1, s) =>
(if (s.1 4) ≤ w1 then
some (.inr (s))
else
((mo_ag 2000 (s.2.1 1) w1).bind fun x_2 =>
(bif mo_in w1 2000 then some (.inl ((w1 + (1 : Int32)), (ms_sA s 3 (upd (s.2.1 3) (w1).toNatClampNeg ((vp_nar .byte x_2)))))) else none)))
set_option maxHeartbeats 4000000 in
theorem mb_read_l6 {C : mm_C} {Q : mm_R} (h_cut : mk_cut C) (h_plain : mk_plain C) (h_is : mk_is C) (h_tellOne : mk_tellOne C) (h_begins : mk_begins C) (h_keepsRow : mk_keepsRow C)  (t : Int32 × ms_S) (x : (ms_S)) (hl : mo_loop (mf_read_l6 ) t = some x) (hK : (fun sy => mm_go C mm_Mk mm_Fk P_X12_read Q (P_X12_read.drop 20) [(0, .ref 0)] [] (ms_H sy) 0 0) x) : (mo_c2 (fun y1 sy => mm_go C mm_Mk mm_Fk P_X12_read Q (P_X12_read.drop 6) [(0, .ref 0), (1, .int y1)] [] (ms_H sy) 0 0)) t := by
  refine mo_loop_go (G := (mo_c2 (fun y1 sy => mm_go C mm_Mk mm_Fk P_X12_read Q (P_X12_read.drop 6) [(0, .ref 0), (1, .int y1)] [] (ms_H sy) 0 0)) ) (K := (fun sy => mm_go C mm_Mk mm_Fk P_X12_read Q (P_X12_read.drop 20) [(0, .ref 0)] [] (ms_H sy) 0 0) ) ?_ t x hl hK
  intro t r hf hK
  obtain ⟨w1, s⟩ := t
  unfold mf_read_l6 at hf
  by_cases c_1 : (s.1 4) ≤ w1
  · have hf := mo_pos hf c_1
    obtain rfl := Option.some.inj hf
    refine mm_adv 4 (cs' := P_X12_read.drop 20) (l' := [(0, .ref 0), (1, .int w1)]) (st' := []) (h' := ms_H s) (bc' := 0) (bs' := 0) (fun n g => (And.intro (fun _ => g) (fun q => absurd c_1 q))) ?_
    exact mm_re (c := [(0, .ref 0)]) hK rfl rfl
  · have hf := mo_neg hf c_1
    obtain ⟨x_2, hx_2, hf⟩ := mo_bind hf
    obtain ⟨hi_2, rfl⟩ := mo_ag_inv hx_2
    obtain ⟨hi_3, hf⟩ := mo_if hf
    obtain rfl := Option.some.inj hf
    refine mm_adv 14 (cs' := P_X12_read.drop 6) (l' := [(1, .int (w1 + (1 : Int32))), (0, .ref 0)]) (st' := []) (h' := ms_H (ms_sA s 3 (upd (s.2.1 3) (w1).toNatClampNeg ((vp_nar .byte ((s.2.1 1) (w1).toNatClampNeg)))))) (bc' := 0) (bs' := 0) (fun n g => (And.intro (fun q => absurd q c_1) (fun _ => (And.intro hi_2 (And.intro hi_3 g))))) ?_
    exact mm_re (c := [(0, .ref 0), (1, .int (w1 + (1 : Int32)))]) hK rfl rfl
noncomputable def mf_read_l62  : (ms_S) → Option ((ms_S) ⊕ ((ms_S))) := fun s =>
(if (s.1 13) = (0 : Int32) then
((mf_is s ((0 : Int32))).bind fun (v_8, s_8) =>
(if v_8 = (0 : Int32) then
((mf_tellOne s_8 ).bind fun s_10 =>
some (.inl (s_10)))
else
some (.inr (s_8))))
else
some (.inr (s)))
set_option maxHeartbeats 4000000 in
theorem mb_read_l62 {C : mm_C} {Q : mm_R} (h_cut : mk_cut C) (h_plain : mk_plain C) (h_is : mk_is C) (h_tellOne : mk_tellOne C) (h_begins : mk_begins C) (h_keepsRow : mk_keepsRow C)  (t : ms_S) (x : (ms_S)) (hl : mo_loop (mf_read_l62 ) t = some x) (hK : (fun sy => mm_go C mm_Mk mm_Fk P_X12_read Q (P_X12_read.drop 72) [(0, .ref 0)] [] (ms_H sy) 0 0) x) : (fun sy => mm_go C mm_Mk mm_Fk P_X12_read Q (P_X12_read.drop 62) [(0, .ref 0)] [] (ms_H sy) 0 0) t := by
  refine mo_loop_go (G := (fun sy => mm_go C mm_Mk mm_Fk P_X12_read Q (P_X12_read.drop 62) [(0, .ref 0)] [] (ms_H sy) 0 0) ) (K := (fun sy => mm_go C mm_Mk mm_Fk P_X12_read Q (P_X12_read.drop 72) [(0, .ref 0)] [] (ms_H sy) 0 0) ) ?_ t x hl hK
  intro t r hf hK
  obtain ⟨s, rfl⟩ : ∃ q, q = t := ⟨_, rfl⟩
  unfold mf_read_l62 at hf
  by_cases c_7 : (s.1 13) = (0 : Int32)
  · have hf := mo_pos hf c_7
    obtain ⟨r_8, hr_8, hf⟩ := mo_bind hf
    obtain ⟨v_8, s_8⟩ := r_8
    by_cases c_9 : v_8 = (0 : Int32)
    · have hf := mo_pos hf c_9
      obtain ⟨s_10, hr_10, hf⟩ := mo_bind hf
      obtain rfl := Option.some.inj hf
      refine mm_adv 10 (cs' := P_X12_read.drop 62) (l' := [(0, .ref 0)]) (st' := []) (h' := ms_H s_10) (bc' := 0) (bs' := 0) (fun n g => (And.intro (fun q => absurd c_7 q) (fun _ => (h_is s ((0 : Int32)) v_8 s_8 _ hr_8 (And.intro (fun q => absurd c_9 q) (fun _ => (h_tellOne s_8  s_10 _ hr_10 g))))))) ?_
      exact mm_re (c := [(0, .ref 0)]) hK rfl rfl
    · have hf := mo_neg hf c_9
      obtain rfl := Option.some.inj hf
      refine mm_adv 7 (cs' := P_X12_read.drop 72) (l' := [(0, .ref 0)]) (st' := []) (h' := ms_H s_8) (bc' := 0) (bs' := 0) (fun n g => (And.intro (fun q => absurd c_7 q) (fun _ => (h_is s ((0 : Int32)) v_8 s_8 _ hr_8 (And.intro (fun _ => g) (fun q => absurd c_9 q)))))) ?_
      exact mm_re (c := [(0, .ref 0)]) hK rfl rfl
  · have hf := mo_neg hf c_7
    obtain rfl := Option.some.inj hf
    refine mm_adv 3 (cs' := P_X12_read.drop 72) (l' := [(0, .ref 0)]) (st' := []) (h' := ms_H s) (bc' := 0) (bs' := 0) (fun n g => (And.intro (fun _ => g) (fun q => absurd c_7 q))) ?_
    exact mm_re (c := [(0, .ref 0)]) hK rfl rfl
noncomputable def mf_read_l115  : (Int32 × ms_S) → Option ((Int32 × ms_S) ⊕ ((ms_S))) := fun (w1, s) =>
(if (3 : Int32) ≤ w1 then
some (.inr (s))
else
(bif mo_in w1 3 then some (.inl ((w1 + (1 : Int32)), (ms_sA s 70 (upd (s.2.1 70) (w1).toNatClampNeg ((vp_nar .boolean (0 : Int32))))))) else none))
set_option maxHeartbeats 4000000 in
theorem mb_read_l115 {C : mm_C} {Q : mm_R} (h_cut : mk_cut C) (h_plain : mk_plain C) (h_is : mk_is C) (h_tellOne : mk_tellOne C) (h_begins : mk_begins C) (h_keepsRow : mk_keepsRow C)  (t : Int32 × ms_S) (x : (ms_S)) (hl : mo_loop (mf_read_l115 ) t = some x) (hK : (fun sy => mm_go C mm_Mk mm_Fk P_X12_read Q (P_X12_read.drop 125) [] [] (ms_H sy) 0 0) x) : (mo_c2 (fun y1 sy => mm_go C mm_Mk mm_Fk P_X12_read Q (P_X12_read.drop 115) [(0, .ref 0), (1, .int y1)] [] (ms_H sy) 0 0)) t := by
  refine mo_loop_go (G := (mo_c2 (fun y1 sy => mm_go C mm_Mk mm_Fk P_X12_read Q (P_X12_read.drop 115) [(0, .ref 0), (1, .int y1)] [] (ms_H sy) 0 0)) ) (K := (fun sy => mm_go C mm_Mk mm_Fk P_X12_read Q (P_X12_read.drop 125) [] [] (ms_H sy) 0 0) ) ?_ t x hl hK
  intro t r hf hK
  obtain ⟨w1, s⟩ := t
  unfold mf_read_l115 at hf
  by_cases c_18 : (3 : Int32) ≤ w1
  · have hf := mo_pos hf c_18
    obtain rfl := Option.some.inj hf
    refine mm_adv 3 (cs' := P_X12_read.drop 125) (l' := [(0, .ref 0), (1, .int w1)]) (st' := []) (h' := ms_H s) (bc' := 0) (bs' := 0) (fun n g => (And.intro (fun _ => g) (fun q => absurd c_18 q))) ?_
    exact mm_re (c := []) hK rfl rfl
  · have hf := mo_neg hf c_18
    obtain ⟨hi_19, hf⟩ := mo_if hf
    obtain rfl := Option.some.inj hf
    refine mm_adv 10 (cs' := P_X12_read.drop 115) (l' := [(1, .int (w1 + (1 : Int32))), (0, .ref 0)]) (st' := []) (h' := ms_H (ms_sA s 70 (upd (s.2.1 70) (w1).toNatClampNeg ((vp_nar .boolean (0 : Int32)))))) (bc' := 0) (bs' := 0) (fun n g => (And.intro (fun q => absurd q c_18) (fun _ => (And.intro hi_19 g)))) ?_
    exact mm_re (c := [(0, .ref 0), (1, .int (w1 + (1 : Int32)))]) hK rfl rfl
noncomputable def mf_read_j86 (s : ms_S) (k0 : Int32) : Option (Int32 × ms_S) :=
(if (s.1 13) ≤ (0 : Int32) then
(if (s.1 15) ≤ (0 : Int32) then
((mf_begins (ms_sI (ms_sI s 17 (k0)) 18 ((s.1 19))) ).bind fun s_16 =>
((mf_keepsRow s_16 ).bind fun s_17 =>
((mo_loop (mf_read_l115 ) ((0 : Int32), (ms_sI (ms_sI s_17 54 ((0 : Int32))) 63 ((0 : Int32))))).bind fun s_20 =>
some ((0 : Int32), s_20))))
else
some ((s.1 15), (ms_sI s 17 (k0))))
else
some ((s.1 13), (ms_sI s 17 (k0))))
set_option maxHeartbeats 4000000 in
theorem mb_read_j86 {C : mm_C} {Q : mm_R} (h_cut : mk_cut C) (h_plain : mk_plain C) (h_is : mk_is C) (h_tellOne : mk_tellOne C) (h_begins : mk_begins C) (h_keepsRow : mk_keepsRow C) (s : ms_S) (k0 : Int32) (v : Int32) (s2 : ms_S) (hf : mf_read_j86 s k0 = some (v, s2)) (hK : Q (some (.int v)) (ms_H s2)) : mm_go C mm_Mk mm_Fk P_X12_read Q (P_X12_read.drop 86) [(0, .ref 0)] [.int k0, .ref 0] (ms_H s) 0 0 := by
  unfold mf_read_j86 at hf
  by_cases c_14 : (s.1 13) ≤ (0 : Int32)
  · have hf := mo_pos hf c_14
    by_cases c_15 : (s.1 15) ≤ (0 : Int32)
    · have hf := mo_pos hf c_15
      obtain ⟨s_16, hr_16, hf⟩ := mo_bind hf
      obtain ⟨s_17, hr_17, hf⟩ := mo_bind hf
      obtain ⟨x_20, hl_20, hf⟩ := mo_bind hf
      refine mm_adv 23 (cs' := P_X12_read.drop 115) (l' := [(1, .int (0 : Int32)), (0, .ref 0)]) (st' := []) (h' := ms_H (ms_sI (ms_sI s_17 54 ((0 : Int32))) 63 ((0 : Int32)))) (bc' := 0) (bs' := 0) (fun n g => (And.intro trivial (And.intro (fun _ => (And.intro (fun _ => (And.intro trivial (h_begins (ms_sI (ms_sI s 17 (k0)) 18 ((s.1 19)))  s_16 _ hr_16 (h_keepsRow s_16  s_17 _ hr_17 (And.intro trivial (And.intro trivial g)))))) (fun q => absurd c_15 q))) (fun q => absurd c_14 q)))) ?_
      refine mm_re (l' := [(0, .ref 0), (1, .int (0 : Int32))]) (c := [(0, .ref 0), (1, .int (0 : Int32))]) ?_ rfl rfl
      refine mb_read_l115 h_cut h_plain h_is h_tellOne h_begins h_keepsRow  ((0 : Int32), (ms_sI (ms_sI s_17 54 ((0 : Int32))) 63 ((0 : Int32)))) x_20 hl_20 ?_
      obtain ⟨s_20, rfl⟩ : ∃ q, q = x_20 := ⟨_, rfl⟩
      obtain ⟨rfl, rfl⟩ := mo_pair hf
      exact ⟨2, hK⟩
    · have hf := mo_neg hf c_15
      obtain ⟨rfl, rfl⟩ := mo_pair hf
      exact ⟨10, (And.intro trivial (And.intro (fun _ => (And.intro (fun q => absurd q c_15) (fun _ => hK))) (fun q => absurd c_14 q)))⟩
  · have hf := mo_neg hf c_14
    obtain ⟨rfl, rfl⟩ := mo_pair hf
    exact ⟨7, (And.intro trivial (And.intro (fun q => absurd q c_14) (fun _ => hK)))⟩
noncomputable def mf_read_j72 (s : ms_S)  : Option (Int32 × ms_S) :=
(if (s.1 13) ≤ (0 : Int32) then
(if (s.1 15) ≤ (0 : Int32) then
(mf_read_j86 (s) ((-1 : Int32)))
else
(mf_read_j86 (s) ((s.1 16))))
else
(mf_read_j86 (s) ((s.1 14))))
set_option maxHeartbeats 4000000 in
theorem mb_read_j72 {C : mm_C} {Q : mm_R} (h_cut : mk_cut C) (h_plain : mk_plain C) (h_is : mk_is C) (h_tellOne : mk_tellOne C) (h_begins : mk_begins C) (h_keepsRow : mk_keepsRow C) (s : ms_S)  (v : Int32) (s2 : ms_S) (hf : mf_read_j72 s = some (v, s2)) (hK : Q (some (.int v)) (ms_H s2)) : mm_go C mm_Mk mm_Fk P_X12_read Q (P_X12_read.drop 72) [(0, .ref 0)] [] (ms_H s) 0 0 := by
  unfold mf_read_j72 at hf
  by_cases c_12 : (s.1 13) ≤ (0 : Int32)
  · have hf := mo_pos hf c_12
    by_cases c_13 : (s.1 15) ≤ (0 : Int32)
    · have hf := mo_pos hf c_13
      refine mm_adv 8 (cs' := P_X12_read.drop 86) (l' := [(0, .ref 0)]) (st' := [.int (-1 : Int32), .ref 0]) (h' := ms_H s) (bc' := 0) (bs' := 0) (fun n g => (And.intro (fun _ => (And.intro (fun _ => g) (fun q => absurd c_13 q))) (fun q => absurd c_12 q))) ?_
      refine mm_re (l' := [(0, .ref 0)]) (c := [(0, .ref 0)]) ?_ rfl rfl
      exact mb_read_j86 h_cut h_plain h_is h_tellOne h_begins h_keepsRow s ((-1 : Int32)) _ _ hf hK
    · have hf := mo_neg hf c_13
      refine mm_adv 10 (cs' := P_X12_read.drop 86) (l' := [(0, .ref 0)]) (st' := [.int (s.1 16), .ref 0]) (h' := ms_H s) (bc' := 0) (bs' := 0) (fun n g => (And.intro (fun _ => (And.intro (fun q => absurd q c_13) (fun _ => g))) (fun q => absurd c_12 q))) ?_
      refine mm_re (l' := [(0, .ref 0)]) (c := [(0, .ref 0)]) ?_ rfl rfl
      exact mb_read_j86 h_cut h_plain h_is h_tellOne h_begins h_keepsRow s ((s.1 16)) _ _ hf hK
  · have hf := mo_neg hf c_12
    refine mm_adv 7 (cs' := P_X12_read.drop 86) (l' := [(0, .ref 0)]) (st' := [.int (s.1 14), .ref 0]) (h' := ms_H s) (bc' := 0) (bs' := 0) (fun n g => (And.intro (fun q => absurd q c_12) (fun _ => g))) ?_
    refine mm_re (l' := [(0, .ref 0)]) (c := [(0, .ref 0)]) ?_ rfl rfl
    exact mb_read_j86 h_cut h_plain h_is h_tellOne h_begins h_keepsRow s ((s.1 14)) _ _ hf hK
noncomputable def mf_read (s : ms_S)  : Option (Int32 × ms_S) :=
((mo_loop (mf_read_l6 ) ((0 : Int32), (ms_sI s 4 ((s.1 2))))).bind fun s_4 =>
((mf_cut (ms_sI s_4 2 ((0 : Int32))) ).bind fun s_5 =>
((mf_plain (ms_sI (ms_sI (ms_sI (ms_sI (ms_sI (ms_sI s_5 11 ((0 : Int32))) 12 ((0 : Int32))) 13 ((0 : Int32))) 15 ((0 : Int32))) 19 (((1 : Int32) - (s_5.1 18)))) 20 ((0 : Int32))) (((1 : Int32) - (s_5.1 18)))).bind fun s_6 =>
((mo_loop (mf_read_l62 ) ((ms_sI (ms_sI s_6 33 (((130 : Int32) * (s_6.1 19)))) 39 (((420 : Int32) * (s_6.1 19)))))).bind fun s_11 =>
(mf_read_j72 (s_11))))))
set_option maxHeartbeats 4000000 in
theorem mb_read {C : mm_C} {Q : mm_R} (h_cut : mk_cut C) (h_plain : mk_plain C) (h_is : mk_is C) (h_tellOne : mk_tellOne C) (h_begins : mk_begins C) (h_keepsRow : mk_keepsRow C) (s : ms_S)  (v : Int32) (s2 : ms_S) (hf : mf_read s = some (v, s2)) (hK : Q (some (.int v)) (ms_H s2)) : mm_go C mm_Mk mm_Fk P_X12_read Q P_X12_read [(0, .ref 0)] [] (ms_H s) 0 0 := by
  unfold mf_read at hf
  obtain ⟨x_4, hl_4, hf⟩ := mo_bind hf
  refine mm_adv 6 (cs' := P_X12_read.drop 6) (l' := [(1, .int (0 : Int32)), (0, .ref 0)]) (st' := []) (h' := ms_H (ms_sI s 4 ((s.1 2)))) (bc' := 0) (bs' := 0) (fun n g => (And.intro trivial g)) ?_
  refine mm_re (l' := [(0, .ref 0), (1, .int (0 : Int32))]) (c := [(0, .ref 0), (1, .int (0 : Int32))]) ?_ rfl rfl
  refine mb_read_l6 h_cut h_plain h_is h_tellOne h_begins h_keepsRow  ((0 : Int32), (ms_sI s 4 ((s.1 2)))) x_4 hl_4 ?_
  obtain ⟨s_4, rfl⟩ : ∃ q, q = x_4 := ⟨_, rfl⟩
  obtain ⟨s_5, hr_5, hf⟩ := mo_bind hf
  obtain ⟨s_6, hr_6, hf⟩ := mo_bind hf
  obtain ⟨x_11, hl_11, hf⟩ := mo_bind hf
  refine mm_adv 42 (cs' := P_X12_read.drop 62) (l' := [(0, .ref 0)]) (st' := []) (h' := ms_H (ms_sI (ms_sI s_6 33 (((130 : Int32) * (s_6.1 19)))) 39 (((420 : Int32) * (s_6.1 19))))) (bc' := 0) (bs' := 0) (fun n g => (And.intro trivial (h_cut (ms_sI s_4 2 ((0 : Int32)))  s_5 _ hr_5 (And.intro trivial (And.intro trivial (And.intro trivial (And.intro trivial (And.intro trivial (And.intro trivial (h_plain (ms_sI (ms_sI (ms_sI (ms_sI (ms_sI (ms_sI s_5 11 ((0 : Int32))) 12 ((0 : Int32))) 13 ((0 : Int32))) 15 ((0 : Int32))) 19 (((1 : Int32) - (s_5.1 18)))) 20 ((0 : Int32))) (((1 : Int32) - (s_5.1 18))) s_6 _ hr_6 (And.intro trivial (And.intro trivial g)))))))))))) ?_
  refine mm_re (l' := [(0, .ref 0)]) (c := [(0, .ref 0)]) ?_ rfl rfl
  refine mb_read_l62 h_cut h_plain h_is h_tellOne h_begins h_keepsRow  ((ms_sI (ms_sI s_6 33 (((130 : Int32) * (s_6.1 19)))) 39 (((420 : Int32) * (s_6.1 19))))) x_11 hl_11 ?_
  obtain ⟨s_11, rfl⟩ : ∃ q, q = x_11 := ⟨_, rfl⟩
  refine mm_re (l' := [(0, .ref 0)]) (c := [(0, .ref 0)]) ?_ rfl rfl
  exact mb_read_j72 h_cut h_plain h_is h_tellOne h_begins h_keepsRow s_11 _ _ hf hK
def mk_read (C : mm_C) : Prop := ∀ (s : ms_S)  (v : Int32) (s2 : ms_S) (Q : mm_R), mf_read s = some (v, s2) → Q (some (.int v)) (ms_H s2) → C 18 [.ref 0] (ms_H s) Q
set_option maxRecDepth 100000 in
theorem mt_read (B : mm_C) (d : Nat) : mk_read (mm_ct B mm_Mk mm_Fk mm_PC (d + 8)) := fun s v s2 Q hf hK => Or.inr (mb_read (mt_cut B (d + 4)) (mt_plain B (d + 6)) (mt_is B (d + 6)) (mt_tellOne B (d + 0)) (mt_begins B (d + 5)) (mt_keepsRow B (d + 6)) s v s2 hf hK)
