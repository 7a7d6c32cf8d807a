/-! the reference, method by method, 9 -/
-- X12_coupleOf
noncomputable def mf_coupleOf_j28 (s : ms_S) (v1 : Int32) (v2 : Int32) (v3 : Int32) : Option ((Int32 × ms_S) ⊕ ((Int32 × ms_S) ⊕ (ms_S))) :=
some (.inl ((v3 + (1 : Int32)), s))
set_option maxHeartbeats 4000000 in
theorem mb_coupleOf_j28 {C : mm_C} {Q : mm_R} (h_lowestOf : mk_lowestOf C) (h_isCouple : mk_isCouple C) (h_couplesWith : mk_couplesWith C) (s : ms_S) (v1 : Int32) (v2 : Int32) (v3 : Int32) (r : (Int32 × ms_S) ⊕ ((Int32 × ms_S) ⊕ (ms_S))) (hf : mf_coupleOf_j28 s v1 v2 v3 = some r) (hK : mo_sum (mo_c2 (fun y3 sy => mm_go C mm_Mk mm_Fk P_X12_coupleOf Q (P_X12_coupleOf.drop 7) [(0, .ref 0), (1, .int v1), (2, .int v2), (3, .int y3)] [] (ms_H sy) 0 0))  (mo_sum (mo_c2 (fun y3 sy => mm_go C mm_Mk mm_Fk P_X12_coupleOf Q (P_X12_coupleOf.drop 26) [(3, .int y3)] [] (ms_H sy) 0 0)) (fun sy => mm_go C mm_Mk mm_Fk P_X12_coupleOf Q (P_X12_coupleOf.drop 30) [] [] (ms_H sy) 0 0))  r) : mm_go C mm_Mk mm_Fk P_X12_coupleOf Q (P_X12_coupleOf.drop 28) [(0, .ref 0), (1, .int v1), (2, .int v2), (3, .int v3)] [] (ms_H s) 0 0 := by
  unfold mf_coupleOf_j28 at hf
  obtain rfl := Option.some.inj hf
  refine mm_adv 2 (cs' := P_X12_coupleOf.drop 7) (l' := [(3, .int (v3 + (1 : Int32))), (0, .ref 0), (1, .int v1), (2, .int v2)]) (st' := []) (h' := ms_H s) (bc' := 0) (bs' := 0) (fun n g => g) ?_
  exact mm_re (c := [(0, .ref 0), (1, .int v1), (2, .int v2), (3, .int (v3 + (1 : Int32)))]) hK rfl rfl
noncomputable def mf_coupleOf_l7 (v1 : Int32) (v2 : Int32) : (Int32 × ms_S) → Option ((Int32 × ms_S) ⊕ ((Int32 × ms_S) ⊕ (ms_S))) := fun (w3, s) =>
(if (5 : Int32) ≤ w3 then
some (.inr (.inr (s)))
else
((mf_isCouple s (v2) (w3) (v1)).bind fun (v_3, s_3) =>
(if v_3 = (0 : Int32) then
(mf_coupleOf_j28 (s_3) (v1) (v2) (w3))
else
((mf_couplesWith s_3 (v2) (w3) (v1)).bind fun (v_5, s_5) =>
((mo_ag 32 (s_5.2.1 62) v1).bind fun x_6 =>
(if v_5 = x_6 then
some (.inr (.inl (w3, s_5)))
else
(mf_coupleOf_j28 (s_5) (v1) (v2) (w3))))))))
set_option maxHeartbeats 4000000 in
theorem mb_coupleOf_l7 {C : mm_C} {Q : mm_R} (h_lowestOf : mk_lowestOf C) (h_isCouple : mk_isCouple C) (h_couplesWith : mk_couplesWith C) (v1 : Int32) (v2 : Int32) (t : Int32 × ms_S) (x : (Int32 × ms_S) ⊕ (ms_S)) (hl : mo_loop (mf_coupleOf_l7 v1 v2) t = some x) (hK : (mo_sum (mo_c2 (fun y3 sy => mm_go C mm_Mk mm_Fk P_X12_coupleOf Q (P_X12_coupleOf.drop 26) [(3, .int y3)] [] (ms_H sy) 0 0)) (fun sy => mm_go C mm_Mk mm_Fk P_X12_coupleOf Q (P_X12_coupleOf.drop 30) [] [] (ms_H sy) 0 0)) x) : (mo_c2 (fun y3 sy => mm_go C mm_Mk mm_Fk P_X12_coupleOf Q (P_X12_coupleOf.drop 7) [(0, .ref 0), (1, .int v1), (2, .int v2), (3, .int y3)] [] (ms_H sy) 0 0)) t := by
  refine mo_loop_go (G := (mo_c2 (fun y3 sy => mm_go C mm_Mk mm_Fk P_X12_coupleOf Q (P_X12_coupleOf.drop 7) [(0, .ref 0), (1, .int v1), (2, .int v2), (3, .int y3)] [] (ms_H sy) 0 0)) ) (K := (mo_sum (mo_c2 (fun y3 sy => mm_go C mm_Mk mm_Fk P_X12_coupleOf Q (P_X12_coupleOf.drop 26) [(3, .int y3)] [] (ms_H sy) 0 0)) (fun sy => mm_go C mm_Mk mm_Fk P_X12_coupleOf Q (P_X12_coupleOf.drop 30) [] [] (ms_H sy) 0 0)) ) ?_ t x hl hK
  intro t r hf hK
  obtain ⟨w3, s⟩ := t
  unfold mf_coupleOf_l7 at hf
  by_cases c_2 : (5 : Int32) ≤ w3
  · have hf := mo_pos hf c_2
    obtain rfl := Option.some.inj hf
    refine mm_adv 3 (cs' := P_X12_coupleOf.drop 30) (l' := [(0, .ref 0), (1, .int v1), (2, .int v2), (3, .int w3)]) (st' := []) (h' := ms_H s) (bc' := 0) (bs' := 0) (fun n g => (And.intro (fun _ => g) (fun q => absurd c_2 q))) ?_
    exact mm_re (c := []) hK rfl rfl
  · have hf := mo_neg hf c_2
    obtain ⟨r_3, hr_3, hf⟩ := mo_bind hf
    obtain ⟨v_3, s_3⟩ := r_3
    by_cases c_4 : v_3 = (0 : Int32)
    · have hf := mo_pos hf c_4
      refine mm_adv 9 (cs' := P_X12_coupleOf.drop 28) (l' := [(0, .ref 0), (1, .int v1), (2, .int v2), (3, .int w3)]) (st' := []) (h' := ms_H s_3) (bc' := 0) (bs' := 0) (fun n g => (And.intro (fun q => absurd q c_2) (fun _ => (h_isCouple s (v2) (w3) (v1) v_3 s_3 _ hr_3 (And.intro (fun _ => g) (fun q => absurd c_4 q)))))) ?_
      refine mm_re (l' := [(0, .ref 0), (1, .int v1), (2, .int v2), (3, .int w3)]) (c := [(0, .ref 0), (1, .int v1), (2, .int v2), (3, .int w3)]) ?_ rfl rfl
      exact mb_coupleOf_j28 h_lowestOf h_isCouple h_couplesWith s_3 (v1) (v2) (w3) _ hf hK
    · have hf := mo_neg hf c_4
      obtain ⟨r_5, hr_5, hf⟩ := mo_bind hf
      obtain ⟨v_5, s_5⟩ := r_5
      obtain ⟨x_6, hx_6, hf⟩ := mo_bind hf
      obtain ⟨hi_6, rfl⟩ := mo_ag_inv hx_6
      by_cases c_7 : v_5 = ((s_5.2.1 62) (v1).toNatClampNeg)
      · have hf := mo_pos hf c_7
        obtain rfl := Option.some.inj hf
        refine mm_adv 19 (cs' := P_X12_coupleOf.drop 26) (l' := [(0, .ref 0), (1, .int v1), (2, .int v2), (3, .int w3)]) (st' := []) (h' := ms_H s_5) (bc' := 0) (bs' := 0) (fun n g => (And.intro (fun q => absurd q c_2) (fun _ => (h_isCouple s (v2) (w3) (v1) v_3 s_3 _ hr_3 (And.intro (fun q => absurd q c_4) (fun _ => (h_couplesWith s_3 (v2) (w3) (v1) v_5 s_5 _ hr_5 (And.intro hi_6 (And.intro (fun q => absurd c_7 q) (fun _ => g)))))))))) ?_
        exact mm_re (c := [(3, .int w3)]) hK rfl rfl
      · have hf := mo_neg hf c_7
        refine mm_adv 19 (cs' := P_X12_coupleOf.drop 28) (l' := [(0, .ref 0), (1, .int v1), (2, .int v2), (3, .int w3)]) (st' := []) (h' := ms_H s_5) (bc' := 0) (bs' := 0) (fun n g => (And.intro (fun q => absurd q c_2) (fun _ => (h_isCouple s (v2) (w3) (v1) v_3 s_3 _ hr_3 (And.intro (fun q => absurd q c_4) (fun _ => (h_couplesWith s_3 (v2) (w3) (v1) v_5 s_5 _ hr_5 (And.intro hi_6 (And.intro (fun _ => g) (fun q => absurd c_7 q)))))))))) ?_
        refine mm_re (l' := [(0, .ref 0), (1, .int v1), (2, .int v2), (3, .int w3)]) (c := [(0, .ref 0), (1, .int v1), (2, .int v2), (3, .int w3)]) ?_ rfl rfl
        exact mb_coupleOf_j28 h_lowestOf h_isCouple h_couplesWith s_5 (v1) (v2) (w3) _ hf hK
noncomputable def mf_coupleOf (s : ms_S) (a0 : Int32) : Option (Int32 × ms_S) :=
((mf_lowestOf (a0)).bind fun v_1 =>
((mo_loop (mf_coupleOf_l7 (a0) (v_1)) ((v_1 + (1 : Int32)), s)).bind fun x_8 =>
match x_8 with
| (.inl (e3_8, s_8)) => some (e3_8, s_8)
| (.inr s_8) => some ((-2 : Int32), s_8)
))
set_option maxHeartbeats 4000000 in
theorem mb_coupleOf {C : mm_C} {Q : mm_R} (h_lowestOf : mk_lowestOf C) (h_isCouple : mk_isCouple C) (h_couplesWith : mk_couplesWith C) (s : ms_S) (a0 : Int32) (v : Int32) (s2 : ms_S) (hf : mf_coupleOf s a0 = some (v, s2)) (hK : Q (some (.int v)) (ms_H s2)) : mm_go C mm_Mk mm_Fk P_X12_coupleOf Q P_X12_coupleOf [(0, .ref 0), (1, .int a0)] [] (ms_H s) 0 0 := by
  unfold mf_coupleOf at hf
  obtain ⟨v_1, hr_1, hf⟩ := mo_bind hf
  obtain ⟨x_8, hl_8, hf⟩ := mo_bind hf
  refine mm_adv 7 (cs' := P_X12_coupleOf.drop 7) (l' := [(3, .int (v_1 + (1 : Int32))), (2, .int v_1), (0, .ref 0), (1, .int a0)]) (st' := []) (h' := ms_H s) (bc' := 0) (bs' := 0) (fun n g => (h_lowestOf _ (a0) v_1 _ hr_1 g)) ?_
  refine mm_re (l' := [(0, .ref 0), (1, .int a0), (2, .int v_1), (3, .int (v_1 + (1 : Int32)))]) (c := [(0, .ref 0), (1, .int a0), (2, .int v_1), (3, .int (v_1 + (1 : Int32)))]) ?_ rfl rfl
  refine mb_coupleOf_l7 h_lowestOf h_isCouple h_couplesWith (a0) (v_1) ((v_1 + (1 : Int32)), s) x_8 hl_8 ?_
  cases x_8 with
  | inl y_8 =>
    obtain ⟨e3_8, s_8⟩ := y_8
    obtain ⟨rfl, rfl⟩ := mo_pair hf
    exact ⟨2, hK⟩
  | inr z_8_0 =>
    obtain ⟨s_8, rfl⟩ : ∃ q, q = z_8_0 := ⟨_, rfl⟩
    obtain ⟨rfl, rfl⟩ := mo_pair hf
    exact ⟨2, hK⟩
def mk_coupleOf (C : mm_C) : Prop := ∀ (s : ms_S) (a0 : Int32) (v : Int32) (s2 : ms_S) (Q : mm_R), mf_coupleOf s a0 = some (v, s2) → Q (some (.int v)) (ms_H s2) → C 106 [.ref 0, .int a0] (ms_H s) Q
set_option maxRecDepth 100000 in
theorem mt_coupleOf (B : mm_C) (d : Nat) : mk_coupleOf (mm_ct B mm_Mk mm_Fk mm_PC (d + 2)) := fun s a0 v s2 Q hf hK => Or.inr (mb_coupleOf (mt_lowestOf B (d + 0)) (mt_isCouple B (d + 0)) (mt_couplesWith B (d + 0)) s a0 v s2 hf hK)
-- X12_couples
noncomputable def mf_couples_j64 (s : ms_S) (v1 : Int32) (v2 : Int32) : Option ((Int32 × ms_S) ⊕ ((Int32 × ms_S) ⊕ (Int32 × ms_S))) :=
some (.inl (v2, s))
set_option maxHeartbeats 4000000 in
theorem mb_couples_j64 {C : mm_C} {Q : mm_R} (h_isSpeaker : mk_isSpeaker C) (h_fillsCouples : mk_fillsCouples C) (h_lowestOf : mk_lowestOf C) (h_coupleOf : mk_coupleOf C) (s : ms_S) (v1 : Int32) (v2 : Int32) (r : (Int32 × ms_S) ⊕ ((Int32 × ms_S) ⊕ (Int32 × ms_S))) (hf : mf_couples_j64 s v1 v2 = some r) (hK : mo_sum (mo_c2 (fun y2 sy => mm_go C mm_Mk mm_Fk P_X12_couples Q (P_X12_couples.drop 29) [(0, .ref 0), (1, .int v1), (2, .int y2)] [] (ms_H sy) 0 0))  (mo_sum (mo_c2 (fun y4 sy => mm_go C mm_Mk mm_Fk P_X12_couples Q (P_X12_couples.drop 39) [(4, .int y4)] [] (ms_H sy) 0 0)) (mo_c2 (fun y3 sy => mm_go C mm_Mk mm_Fk P_X12_couples Q (P_X12_couples.drop 44) [(3, .int y3)] [] (ms_H sy) 0 0)))  r) : mm_go C mm_Mk mm_Fk P_X12_couples Q (P_X12_couples.drop 64) [(0, .ref 0), (1, .int v1), (2, .int v2)] [] (ms_H s) 0 0 := by
  unfold mf_couples_j64 at hf
  obtain rfl := Option.some.inj hf
  refine mm_adv 1 (cs' := P_X12_couples.drop 29) (l' := [(0, .ref 0), (1, .int v1), (2, .int v2)]) (st' := []) (h' := ms_H s) (bc' := 0) (bs' := 0) (fun n g => g) ?_
  exact mm_re (c := [(0, .ref 0), (1, .int v1), (2, .int v2)]) hK rfl rfl
noncomputable def mf_couples_l29 (v1 : Int32) : (Int32 × ms_S) → Option ((Int32 × ms_S) ⊕ ((Int32 × ms_S) ⊕ (Int32 × ms_S))) := fun (w2, s) =>
((mf_lowestOf (w2)).bind fun v_6 =>
((mf_coupleOf s (w2)).bind fun (v_7, s_7) =>
(if v_6 = v1 then
some (.inr (.inl (v_7, s_7)))
else
(if v_7 = v1 then
some (.inr (.inr (v_6, s_7)))
else
(if v_7 < (0 : Int32) then
(mf_couples_j64 (s_7) (v1) ((w2 &&& (((1 : Int32) <<< (v_6 &&& 31)) ^^^ (-1 : Int32)))))
else
(mf_couples_j64 (s_7) (v1) (((w2 &&& (((1 : Int32) <<< (v_6 &&& 31)) ^^^ (-1 : Int32))) &&& (((1 : Int32) <<< (v_7 &&& 31)) ^^^ (-1 : Int32))))))))))
set_option maxHeartbeats 4000000 in
theorem mb_couples_l29 {C : mm_C} {Q : mm_R} (h_isSpeaker : mk_isSpeaker C) (h_fillsCouples : mk_fillsCouples C) (h_lowestOf : mk_lowestOf C) (h_coupleOf : mk_coupleOf C) (v1 : Int32) (t : Int32 × ms_S) (x : (Int32 × ms_S) ⊕ (Int32 × ms_S)) (hl : mo_loop (mf_couples_l29 v1) t = some x) (hK : (mo_sum (mo_c2 (fun y4 sy => mm_go C mm_Mk mm_Fk P_X12_couples Q (P_X12_couples.drop 39) [(4, .int y4)] [] (ms_H sy) 0 0)) (mo_c2 (fun y3 sy => mm_go C mm_Mk mm_Fk P_X12_couples Q (P_X12_couples.drop 44) [(3, .int y3)] [] (ms_H sy) 0 0))) x) : (mo_c2 (fun y2 sy => mm_go C mm_Mk mm_Fk P_X12_couples Q (P_X12_couples.drop 29) [(0, .ref 0), (1, .int v1), (2, .int y2)] [] (ms_H sy) 0 0)) t := by
  refine mo_loop_go (G := (mo_c2 (fun y2 sy => mm_go C mm_Mk mm_Fk P_X12_couples Q (P_X12_couples.drop 29) [(0, .ref 0), (1, .int v1), (2, .int y2)] [] (ms_H sy) 0 0)) ) (K := (mo_sum (mo_c2 (fun y4 sy => mm_go C mm_Mk mm_Fk P_X12_couples Q (P_X12_couples.drop 39) [(4, .int y4)] [] (ms_H sy) 0 0)) (mo_c2 (fun y3 sy => mm_go C mm_Mk mm_Fk P_X12_couples Q (P_X12_couples.drop 44) [(3, .int y3)] [] (ms_H sy) 0 0))) ) ?_ t x hl hK
  intro t r hf hK
  obtain ⟨w2, s⟩ := t
  unfold mf_couples_l29 at hf
  obtain ⟨v_6, hr_6, hf⟩ := mo_bind hf
  obtain ⟨r_7, hr_7, hf⟩ := mo_bind hf
  obtain ⟨v_7, s_7⟩ := r_7
  by_cases c_8 : v_6 = v1
  · have hf := mo_pos hf c_8
    obtain rfl := Option.some.inj hf
    refine mm_adv 10 (cs' := P_X12_couples.drop 39) (l' := [(4, .int v_7), (3, .int v_6), (0, .ref 0), (1, .int v1), (2, .int w2)]) (st' := []) (h' := ms_H s_7) (bc' := 0) (bs' := 0) (fun n g => (h_lowestOf _ (w2) v_6 _ hr_6 (h_coupleOf s (w2) v_7 s_7 _ hr_7 (And.intro (fun q => absurd c_8 q) (fun _ => g))))) ?_
    exact mm_re (c := [(4, .int v_7)]) hK rfl rfl
  · have hf := mo_neg hf c_8
    by_cases c_9 : v_7 = v1
    · have hf := mo_pos hf c_9
      obtain rfl := Option.some.inj hf
      refine mm_adv 13 (cs' := P_X12_couples.drop 44) (l' := [(4, .int v_7), (3, .int v_6), (0, .ref 0), (1, .int v1), (2, .int w2)]) (st' := []) (h' := ms_H s_7) (bc' := 0) (bs' := 0) (fun n g => (h_lowestOf _ (w2) v_6 _ hr_6 (h_coupleOf s (w2) v_7 s_7 _ hr_7 (And.intro (fun _ => (And.intro (fun q => absurd c_9 q) (fun _ => g))) (fun q => absurd c_8 q))))) ?_
      exact mm_re (c := [(3, .int v_6)]) hK rfl rfl
    · have hf := mo_neg hf c_9
      by_cases c_10 : v_7 < (0 : Int32)
      · have hf := mo_pos hf c_10
        refine mm_adv 23 (cs' := P_X12_couples.drop 64) (l' := [(2, .int (w2 &&& (((1 : Int32) <<< (v_6 &&& 31)) ^^^ (-1 : Int32)))), (4, .int v_7), (3, .int v_6), (0, .ref 0), (1, .int v1)]) (st' := []) (h' := ms_H s_7) (bc' := 0) (bs' := 0) (fun n g => (h_lowestOf _ (w2) v_6 _ hr_6 (h_coupleOf s (w2) v_7 s_7 _ hr_7 (And.intro (fun _ => (And.intro (fun _ => (And.intro (fun _ => g) (fun q => absurd c_10 q))) (fun q => absurd c_9 q))) (fun q => absurd c_8 q))))) ?_
        refine mm_re (l' := [(0, .ref 0), (1, .int v1), (2, .int (w2 &&& (((1 : Int32) <<< (v_6 &&& 31)) ^^^ (-1 : Int32))))]) (c := [(0, .ref 0), (1, .int v1), (2, .int (w2 &&& (((1 : Int32) <<< (v_6 &&& 31)) ^^^ (-1 : Int32))))]) ?_ rfl rfl
        exact mb_couples_j64 h_isSpeaker h_fillsCouples h_lowestOf h_coupleOf s_7 (v1) ((w2 &&& (((1 : Int32) <<< (v_6 &&& 31)) ^^^ (-1 : Int32)))) _ hf hK
      · have hf := mo_neg hf c_10
        refine mm_adv 31 (cs' := P_X12_couples.drop 64) (l' := [(2, .int ((w2 &&& (((1 : Int32) <<< (v_6 &&& 31)) ^^^ (-1 : Int32))) &&& (((1 : Int32) <<< (v_7 &&& 31)) ^^^ (-1 : Int32)))), (4, .int v_7), (3, .int v_6), (0, .ref 0), (1, .int v1)]) (st' := []) (h' := ms_H s_7) (bc' := 0) (bs' := 0) (fun n g => (h_lowestOf _ (w2) v_6 _ hr_6 (h_coupleOf s (w2) v_7 s_7 _ hr_7 (And.intro (fun _ => (And.intro (fun _ => (And.intro (fun q => absurd q c_10) (fun _ => g))) (fun q => absurd c_9 q))) (fun q => absurd c_8 q))))) ?_
        refine mm_re (l' := [(0, .ref 0), (1, .int v1), (2, .int ((w2 &&& (((1 : Int32) <<< (v_6 &&& 31)) ^^^ (-1 : Int32))) &&& (((1 : Int32) <<< (v_7 &&& 31)) ^^^ (-1 : Int32))))]) (c := [(0, .ref 0), (1, .int v1), (2, .int ((w2 &&& (((1 : Int32) <<< (v_6 &&& 31)) ^^^ (-1 : Int32))) &&& (((1 : Int32) <<< (v_7 &&& 31)) ^^^ (-1 : Int32))))]) ?_ rfl rfl
        exact mb_couples_j64 h_isSpeaker h_fillsCouples h_lowestOf h_coupleOf s_7 (v1) (((w2 &&& (((1 : Int32) <<< (v_6 &&& 31)) ^^^ (-1 : Int32))) &&& (((1 : Int32) <<< (v_7 &&& 31)) ^^^ (-1 : Int32)))) _ hf hK
noncomputable def mf_couples_j9 (s : ms_S) (v1 : Int32) : Option (Int32 × ms_S) :=
((mf_fillsCouples s ).bind fun s_2 =>
((mo_ag 2 (s_2.2.1 23) (s_2.1 18)).bind fun x_3 =>
(if v1 = (-1 : Int32) then
((mo_ag 32 (s_2.2.1 62) (((1 : Int32) <<< (x_3 &&& 31)) - (1 : Int32))).bind fun x_5 =>
some (x_5, s_2))
else
((mo_loop (mf_couples_l29 (v1)) ((((1 : Int32) <<< (x_3 &&& 31)) - (1 : Int32)), s_2)).bind fun x_11 =>
match x_11 with
| (.inl (e4_11, s_11)) => some (e4_11, s_11)
| (.inr (e3_11, s_11)) => some (e3_11, s_11)
))))
set_option maxHeartbeats 4000000 in
theorem mb_couples_j9 {C : mm_C} {Q : mm_R} (h_isSpeaker : mk_isSpeaker C) (h_fillsCouples : mk_fillsCouples C) (h_lowestOf : mk_lowestOf C) (h_coupleOf : mk_coupleOf C) (s : ms_S) (v1 : Int32) (v : Int32) (s2 : ms_S) (hf : mf_couples_j9 s v1 = some (v, s2)) (hK : Q (some (.int v)) (ms_H s2)) : mm_go C mm_Mk mm_Fk P_X12_couples Q (P_X12_couples.drop 9) [(0, .ref 0), (1, .int v1)] [] (ms_H s) 0 0 := by
  unfold mf_couples_j9 at hf
  obtain ⟨s_2, hr_2, hf⟩ := mo_bind hf
  obtain ⟨x_3, hx_3, hf⟩ := mo_bind hf
  obtain ⟨hi_3, rfl⟩ := mo_ag_inv hx_3
  by_cases c_4 : v1 = (-1 : Int32)
  · have hf := mo_pos hf c_4
    obtain ⟨x_5, hx_5, hf⟩ := mo_bind hf
    obtain ⟨hi_5, rfl⟩ := mo_ag_inv hx_5
    obtain ⟨rfl, rfl⟩ := mo_pair hf
    exact ⟨20, (h_fillsCouples s  s_2 _ hr_2 (And.intro hi_3 (And.intro (fun q => absurd c_4 q) (fun _ => (And.intro hi_5 hK)))))⟩
  · have hf := mo_neg hf c_4
    obtain ⟨x_11, hl_11, hf⟩ := mo_bind hf
    refine mm_adv 15 (cs' := P_X12_couples.drop 29) (l' := [(2, .int (((1 : Int32) <<< (((s_2.2.1 23) ((s_2.1 18)).toNatClampNeg) &&& 31)) - (1 : Int32))), (0, .ref 0), (1, .int v1)]) (st' := []) (h' := ms_H s_2) (bc' := 0) (bs' := 0) (fun n g => (h_fillsCouples s  s_2 _ hr_2 (And.intro hi_3 (And.intro (fun _ => g) (fun q => absurd c_4 q))))) ?_
    refine mm_re (l' := [(0, .ref 0), (1, .int v1), (2, .int (((1 : Int32) <<< (((s_2.2.1 23) ((s_2.1 18)).toNatClampNeg) &&& 31)) - (1 : Int32)))]) (c := [(0, .ref 0), (1, .int v1), (2, .int (((1 : Int32) <<< (((s_2.2.1 23) ((s_2.1 18)).toNatClampNeg) &&& 31)) - (1 : Int32)))]) ?_ rfl rfl
    refine mb_couples_l29 h_isSpeaker h_fillsCouples h_lowestOf h_coupleOf (v1) ((((1 : Int32) <<< (((s_2.2.1 23) ((s_2.1 18)).toNatClampNeg) &&& 31)) - (1 : Int32)), s_2) x_11 hl_11 ?_
    cases x_11 with
    | inl y_11 =>
      obtain ⟨e4_11, s_11⟩ := y_11
      obtain ⟨rfl, rfl⟩ := mo_pair hf
      exact ⟨2, hK⟩
    | inr z_11_0 =>
      obtain ⟨e3_11, s_11⟩ := z_11_0
      obtain ⟨rfl, rfl⟩ := mo_pair hf
      exact ⟨2, hK⟩
noncomputable def mf_couples (s : ms_S) (a0 : Int32) : Option (Int32 × ms_S) :=
(if a0 = (-1 : Int32) then
(mf_couples_j9 (s) (a0))
else
((mf_isSpeaker s (a0)).bind fun (v_12, s_12) =>
(if v_12 = (0 : Int32) then
some ((-1 : Int32), s_12)
else
(mf_couples_j9 (s_12) (a0)))))
set_option maxHeartbeats 4000000 in
theorem mb_couples {C : mm_C} {Q : mm_R} (h_isSpeaker : mk_isSpeaker C) (h_fillsCouples : mk_fillsCouples C) (h_lowestOf : mk_lowestOf C) (h_coupleOf : mk_coupleOf C) (s : ms_S) (a0 : Int32) (v : Int32) (s2 : ms_S) (hf : mf_couples s a0 = some (v, s2)) (hK : Q (some (.int v)) (ms_H s2)) : mm_go C mm_Mk mm_Fk P_X12_couples Q P_X12_couples [(0, .ref 0), (1, .int a0)] [] (ms_H s) 0 0 := by
  unfold mf_couples at hf
  by_cases c_1 : a0 = (-1 : Int32)
  · have hf := mo_pos hf c_1
    refine mm_adv 3 (cs' := P_X12_couples.drop 9) (l' := [(0, .ref 0), (1, .int a0)]) (st' := []) (h' := ms_H s) (bc' := 0) (bs' := 0) (fun n g => (And.intro (fun _ => g) (fun q => absurd c_1 q))) ?_
    refine mm_re (l' := [(0, .ref 0), (1, .int a0)]) (c := [(0, .ref 0), (1, .int a0)]) ?_ rfl rfl
    exact mb_couples_j9 h_isSpeaker h_fillsCouples h_lowestOf h_coupleOf s (a0) _ _ hf hK
  · have hf := mo_neg hf c_1
    obtain ⟨r_12, hr_12, hf⟩ := mo_bind hf
    obtain ⟨v_12, s_12⟩ := r_12
    by_cases c_13 : v_12 = (0 : Int32)
    · have hf := mo_pos hf c_13
      obtain ⟨rfl, rfl⟩ := mo_pair hf
      exact ⟨9, (And.intro (fun q => absurd q c_1) (fun _ => (h_isSpeaker s (a0) v_12 s_12 _ hr_12 (And.intro (fun q => absurd c_13 q) (fun _ => hK)))))⟩
    · have hf := mo_neg hf c_13
      refine mm_adv 7 (cs' := P_X12_couples.drop 9) (l' := [(0, .ref 0), (1, .int a0)]) (st' := []) (h' := ms_H s_12) (bc' := 0) (bs' := 0) (fun n g => (And.intro (fun q => absurd q c_1) (fun _ => (h_isSpeaker s (a0) v_12 s_12 _ hr_12 (And.intro (fun _ => g) (fun q => absurd c_13 q)))))) ?_
      refine mm_re (l' := [(0, .ref 0), (1, .int a0)]) (c := [(0, .ref 0), (1, .int a0)]) ?_ rfl rfl
      exact mb_couples_j9 h_isSpeaker h_fillsCouples h_lowestOf h_coupleOf s_12 (a0) _ _ hf hK
def mk_couples (C : mm_C) : Prop := ∀ (s : ms_S) (a0 : Int32) (v : Int32) (s2 : ms_S) (Q : mm_R), mf_couples s a0 = some (v, s2) → Q (some (.int v)) (ms_H s2) → C 107 [.ref 0, .int a0] (ms_H s) Q
set_option maxRecDepth 100000 in
theorem mt_couples (B : mm_C) (d : Nat) : mk_couples (mm_ct B mm_Mk mm_Fk mm_PC (d + 12)) := fun s a0 v s2 Q hf hK => Or.inr (mb_couples (mt_isSpeaker B (d + 9)) (mt_fillsCouples B (d + 0)) (mt_lowestOf B (d + 10)) (mt_coupleOf B (d + 9)) s a0 v s2 hf hK)
-- X12_wagesBoth
noncomputable def mf_wagesBoth (s : ms_S) (a0 : Int32) (a1 : Int32) : Option (Int32 × ms_S) :=
((mf_copies s ).bind fun s_1 =>
((mf_setsRow (ms_sA s_1 48 (upd (upd (s_1.2.1 48) 3 (a0)) 4 (a1))) ).bind fun s_2 =>
((mf_wagesOf s_2 ((0 : Int32))).bind fun (v_3, s_3) =>
((mf_wagesOf s_3 ((1 : Int32))).bind fun (v_4, s_4) =>
some ((v_3 + v_4), s_4)))))
set_option maxHeartbeats 4000000 in
theorem mb_wagesBoth {C : mm_C} {Q : mm_R} (h_copies : mk_copies C) (h_setsRow : mk_setsRow C) (h_wagesOf : mk_wagesOf C) (s : ms_S) (a0 : Int32) (a1 : Int32) (v : Int32) (s2 : ms_S) (hf : mf_wagesBoth s a0 a1 = some (v, s2)) (hK : Q (some (.int v)) (ms_H s2)) : mm_go C mm_Mk mm_Fk P_X12_wagesBoth Q P_X12_wagesBoth [(0, .ref 0), (1, .int a0), (2, .int a1)] [] (ms_H s) 0 0 := by
  unfold mf_wagesBoth at hf
  obtain ⟨s_1, hr_1, hf⟩ := mo_bind hf
  obtain ⟨s_2, hr_2, hf⟩ := mo_bind hf
  obtain ⟨r_3, hr_3, hf⟩ := mo_bind hf
  obtain ⟨v_3, s_3⟩ := r_3
  obtain ⟨r_4, hr_4, hf⟩ := mo_bind hf
  obtain ⟨v_4, s_4⟩ := r_4
  obtain ⟨rfl, rfl⟩ := mo_pair hf
  exact ⟨22, (h_copies s  s_1 _ hr_1 (And.intro (mm_vi rfl) (And.intro (mm_vi rfl) (h_setsRow (ms_sA s_1 48 (upd (upd (s_1.2.1 48) 3 (a0)) 4 (a1)))  s_2 _ hr_2 (h_wagesOf s_2 ((0 : Int32)) v_3 s_3 _ hr_3 (h_wagesOf s_3 ((1 : Int32)) v_4 s_4 _ hr_4 hK))))))⟩
def mk_wagesBoth (C : mm_C) : Prop := ∀ (s : ms_S) (a0 : Int32) (a1 : Int32) (v : Int32) (s2 : ms_S) (Q : mm_R), mf_wagesBoth s a0 a1 = some (v, s2) → Q (some (.int v)) (ms_H s2) → C 108 [.ref 0, .int a0, .int a1] (ms_H s) Q
set_option maxRecDepth 100000 in
theorem mt_wagesBoth (B : mm_C) (d : Nat) : mk_wagesBoth (mm_ct B mm_Mk mm_Fk mm_PC (d + 4)) := fun s a0 a1 v s2 Q hf hK => Or.inr (mb_wagesBoth (mt_copies B (d + 2)) (mt_setsRow B (d + 2)) (mt_wagesOf B (d + 0)) s a0 a1 v s2 hf hK)
-- X12_cheapest
noncomputable def mf_cheapest_j62 (s : ms_S) (v1 : Int32) (v2 : Int32) (v3 : Int32) (v4 : Int32) (v5 : Int32) : Option ((Int32 × Int32 × Int32 × ms_S) ⊕ ((Int32 × Int32 × ms_S))) :=
some (.inl (v2, v3, (v5 + (1 : Int32)), s))
set_option maxHeartbeats 4000000 in
theorem mb_cheapest_j62 {C : mm_C} {Q : mm_R} (h_in : mk_in C) (h_fillsCalm : mk_fillsCalm C) (h_wagesBoth : mk_wagesBoth C) (s : ms_S) (v1 : Int32) (v2 : Int32) (v3 : Int32) (v4 : Int32) (v5 : Int32) (r : (Int32 × Int32 × Int32 × ms_S) ⊕ ((Int32 × Int32 × ms_S))) (hf : mf_cheapest_j62 s v1 v2 v3 v4 v5 = some r) (hK : mo_sum (mo_c2 (fun y2 => (mo_c2 (fun y3 => (mo_c2 (fun y5 sy => mm_go C mm_Mk mm_Fk P_X12_cheapest Q (P_X12_cheapest.drop 26) [(0, .ref 0), (1, .int v1), (2, .int y2), (3, .int y3), (4, .int v4), (5, .int y5)] [] (ms_H sy) 0 0))))))  (mo_c2 (fun y2 => (mo_c2 (fun y3 sy => mm_go C mm_Mk mm_Fk P_X12_cheapest Q (P_X12_cheapest.drop 64) [(0, .ref 0), (1, .int v1), (2, .int y2), (3, .int y3), (4, .int v4)] [] (ms_H sy) 0 0))))  r) : mm_go C mm_Mk mm_Fk P_X12_cheapest Q (P_X12_cheapest.drop 62) [(0, .ref 0), (1, .int v1), (2, .int v2), (3, .int v3), (4, .int v4), (5, .int v5)] [] (ms_H s) 0 0 := by
  unfold mf_cheapest_j62 at hf
  obtain rfl := Option.some.inj hf
  refine mm_adv 2 (cs' := P_X12_cheapest.drop 26) (l' := [(5, .int (v5 + (1 : Int32))), (0, .ref 0), (1, .int v1), (2, .int v2), (3, .int v3), (4, .int v4)]) (st' := []) (h' := ms_H s) (bc' := 0) (bs' := 0) (fun n g => g) ?_
  exact mm_re (c := [(0, .ref 0), (1, .int v1), (2, .int v2), (3, .int v3), (4, .int v4), (5, .int (v5 + (1 : Int32)))]) hK rfl rfl
noncomputable def mf_cheapest_j51 (s : ms_S) (v1 : Int32) (v4 : Int32) (v5 : Int32) : Option ((Int32 × Int32 × Int32 × ms_S) ⊕ ((Int32 × Int32 × ms_S))) :=
((mf_wagesBoth s (v4) (v5)).bind fun (v_11, s_11) =>
(mf_cheapest_j62 (s_11) (v1) ((((10 : Int32) * v4) + v5)) (v_11) (v4) (v5)))
set_option maxHeartbeats 4000000 in
theorem mb_cheapest_j51 {C : mm_C} {Q : mm_R} (h_in : mk_in C) (h_fillsCalm : mk_fillsCalm C) (h_wagesBoth : mk_wagesBoth C) (s : ms_S) (v1 : Int32) (v4 : Int32) (v5 : Int32) (r : (Int32 × Int32 × Int32 × ms_S) ⊕ ((Int32 × Int32 × ms_S))) (hf : mf_cheapest_j51 s v1 v4 v5 = some r) (hK : mo_sum (mo_c2 (fun y2 => (mo_c2 (fun y3 => (mo_c2 (fun y5 sy => mm_go C mm_Mk mm_Fk P_X12_cheapest Q (P_X12_cheapest.drop 26) [(0, .ref 0), (1, .int v1), (2, .int y2), (3, .int y3), (4, .int v4), (5, .int y5)] [] (ms_H sy) 0 0))))))  (mo_c2 (fun y2 => (mo_c2 (fun y3 sy => mm_go C mm_Mk mm_Fk P_X12_cheapest Q (P_X12_cheapest.drop 64) [(0, .ref 0), (1, .int v1), (2, .int y2), (3, .int y3), (4, .int v4)] [] (ms_H sy) 0 0))))  r) : mm_go C mm_Mk mm_Fk P_X12_cheapest Q (P_X12_cheapest.drop 51) [(0, .ref 0), (1, .int v1), (4, .int v4), (5, .int v5)] [] (ms_H s) 0 0 := by
  unfold mf_cheapest_j51 at hf
  obtain ⟨r_11, hr_11, hf⟩ := mo_bind hf
  obtain ⟨v_11, s_11⟩ := r_11
  refine mm_adv 11 (cs' := P_X12_cheapest.drop 62) (l' := [(3, .int v_11), (2, .int (((10 : Int32) * v4) + v5)), (0, .ref 0), (1, .int v1), (4, .int v4), (5, .int v5)]) (st' := []) (h' := ms_H s_11) (bc' := 0) (bs' := 0) (fun n g => (h_wagesBoth s (v4) (v5) v_11 s_11 _ hr_11 g)) ?_
  refine mm_re (l' := [(0, .ref 0), (1, .int v1), (2, .int (((10 : Int32) * v4) + v5)), (3, .int v_11), (4, .int v4), (5, .int v5)]) (c := [(0, .ref 0), (1, .int v1), (2, .int (((10 : Int32) * v4) + v5)), (3, .int v_11), (4, .int v4), (5, .int v5)]) ?_ rfl rfl
  exact mb_cheapest_j62 h_in h_fillsCalm h_wagesBoth s_11 (v1) ((((10 : Int32) * v4) + v5)) (v_11) (v4) (v5) _ hf hK
noncomputable def mf_cheapest_l26 (v1 : Int32) (v4 : Int32) : (Int32 × Int32 × Int32 × ms_S) → Option ((Int32 × Int32 × Int32 × ms_S) ⊕ ((Int32 × Int32 × ms_S))) := fun (w2, w3, w5, s) =>
((mo_ag 2 (s.2.1 23) (s.1 18)).bind fun x_6 =>
(if x_6 ≤ w5 then
some (.inr (w2, w3, s))
else
((mo_ag 5 (s.2.1 61) v4).bind fun x_8 =>
(if ((x_8 >>> (w5 &&& 31)) &&& (1 : Int32)) = (0 : Int32) then
(mf_cheapest_j62 (s) (v1) (w2) (w3) (v4) (w5))
else
(if w2 < (0 : Int32) then
(mf_cheapest_j51 (s) (v1) (v4) (w5))
else
((mf_wagesBoth s (v4) (w5)).bind fun (v_12, s_12) =>
(if v_12 < w3 then
(mf_cheapest_j51 (s_12) (v1) (v4) (w5))
else
(mf_cheapest_j62 (s_12) (v1) (w2) (w3) (v4) (w5)))))))))
set_option maxHeartbeats 4000000 in
theorem mb_cheapest_l26 {C : mm_C} {Q : mm_R} (h_in : mk_in C) (h_fillsCalm : mk_fillsCalm C) (h_wagesBoth : mk_wagesBoth C) (v1 : Int32) (v4 : Int32) (t : Int32 × Int32 × Int32 × ms_S) (x : (Int32 × Int32 × ms_S)) (hl : mo_loop (mf_cheapest_l26 v1 v4) t = some x) (hK : (mo_c2 (fun y2 => (mo_c2 (fun y3 sy => mm_go C mm_Mk mm_Fk P_X12_cheapest Q (P_X12_cheapest.drop 64) [(0, .ref 0), (1, .int v1), (2, .int y2), (3, .int y3), (4, .int v4)] [] (ms_H sy) 0 0)))) x) : (mo_c2 (fun y2 => (mo_c2 (fun y3 => (mo_c2 (fun y5 sy => mm_go C mm_Mk mm_Fk P_X12_cheapest Q (P_X12_cheapest.drop 26) [(0, .ref 0), (1, .int v1), (2, .int y2), (3, .int y3), (4, .int v4), (5, .int y5)] [] (ms_H sy) 0 0)))))) t := by
  refine mo_loop_go (G := (mo_c2 (fun y2 => (mo_c2 (fun y3 => (mo_c2 (fun y5 sy => mm_go C mm_Mk mm_Fk P_X12_cheapest Q (P_X12_cheapest.drop 26) [(0, .ref 0), (1, .int v1), (2, .int y2), (3, .int y3), (4, .int v4), (5, .int y5)] [] (ms_H sy) 0 0)))))) ) (K := (mo_c2 (fun y2 => (mo_c2 (fun y3 sy => mm_go C mm_Mk mm_Fk P_X12_cheapest Q (P_X12_cheapest.drop 64) [(0, .ref 0), (1, .int v1), (2, .int y2), (3, .int y3), (4, .int v4)] [] (ms_H sy) 0 0)))) ) ?_ t x hl hK
  intro t r hf hK
  obtain ⟨w2, w3, w5, s⟩ := t
  unfold mf_cheapest_l26 at hf
  obtain ⟨x_6, hx_6, hf⟩ := mo_bind hf
  obtain ⟨hi_6, rfl⟩ := mo_ag_inv hx_6
  by_cases c_7 : ((s.2.1 23) ((s.1 18)).toNatClampNeg) ≤ w5
  · have hf := mo_pos hf c_7
    obtain rfl := Option.some.inj hf
    refine mm_adv 7 (cs' := P_X12_cheapest.drop 64) (l' := [(0, .ref 0), (1, .int v1), (2, .int w2), (3, .int w3), (4, .int v4), (5, .int w5)]) (st' := []) (h' := ms_H s) (bc' := 0) (bs' := 0) (fun n g => (And.intro hi_6 (And.intro (fun _ => g) (fun q => absurd c_7 q)))) ?_
    exact mm_re (c := [(0, .ref 0), (1, .int v1), (2, .int w2), (3, .int w3), (4, .int v4)]) hK rfl rfl
  · have hf := mo_neg hf c_7
    obtain ⟨x_8, hx_8, hf⟩ := mo_bind hf
    obtain ⟨hi_8, rfl⟩ := mo_ag_inv hx_8
    by_cases c_9 : ((((s.2.1 61) (v4).toNatClampNeg) >>> (w5 &&& 31)) &&& (1 : Int32)) = (0 : Int32)
    · have hf := mo_pos hf c_9
      refine mm_adv 16 (cs' := P_X12_cheapest.drop 62) (l' := [(0, .ref 0), (1, .int v1), (2, .int w2), (3, .int w3), (4, .int v4), (5, .int w5)]) (st' := []) (h' := ms_H s) (bc' := 0) (bs' := 0) (fun n g => (And.intro hi_6 (And.intro (fun q => absurd q c_7) (fun _ => (And.intro hi_8 (And.intro (fun _ => g) (fun q => absurd c_9 q))))))) ?_
      refine mm_re (l' := [(0, .ref 0), (1, .int v1), (2, .int w2), (3, .int w3), (4, .int v4), (5, .int w5)]) (c := [(0, .ref 0), (1, .int v1), (2, .int w2), (3, .int w3), (4, .int v4), (5, .int w5)]) ?_ rfl rfl
      exact mb_cheapest_j62 h_in h_fillsCalm h_wagesBoth s (v1) (w2) (w3) (v4) (w5) _ hf hK
    · have hf := mo_neg hf c_9
      by_cases c_10 : w2 < (0 : Int32)
      · have hf := mo_pos hf c_10
        refine mm_adv 18 (cs' := P_X12_cheapest.drop 51) (l' := [(0, .ref 0), (1, .int v1), (2, .int w2), (3, .int w3), (4, .int v4), (5, .int w5)]) (st' := []) (h' := ms_H s) (bc' := 0) (bs' := 0) (fun n g => (And.intro hi_6 (And.intro (fun q => absurd q c_7) (fun _ => (And.intro hi_8 (And.intro (fun q => absurd q c_9) (fun _ => (And.intro (fun _ => g) (fun q => absurd c_10 q))))))))) ?_
        refine mm_re (l' := [(0, .ref 0), (1, .int v1), (4, .int v4), (5, .int w5)]) (c := [(0, .ref 0), (1, .int v1), (4, .int v4), (5, .int w5)]) ?_ rfl rfl
        exact mb_cheapest_j51 h_in h_fillsCalm h_wagesBoth s (v1) (v4) (w5) _ hf hK
      · have hf := mo_neg hf c_10
        obtain ⟨r_12, hr_12, hf⟩ := mo_bind hf
        obtain ⟨v_12, s_12⟩ := r_12
        by_cases c_13 : v_12 < w3
        · have hf := mo_pos hf c_13
          refine mm_adv 24 (cs' := P_X12_cheapest.drop 51) (l' := [(0, .ref 0), (1, .int v1), (2, .int w2), (3, .int w3), (4, .int v4), (5, .int w5)]) (st' := []) (h' := ms_H s_12) (bc' := 0) (bs' := 0) (fun n g => (And.intro hi_6 (And.intro (fun q => absurd q c_7) (fun _ => (And.intro hi_8 (And.intro (fun q => absurd q c_9) (fun _ => (And.intro (fun q => absurd q c_10) (fun _ => (h_wagesBoth s (v4) (w5) v_12 s_12 _ hr_12 (And.intro (fun _ => g) (fun q => absurd c_13 q)))))))))))) ?_
          refine mm_re (l' := [(0, .ref 0), (1, .int v1), (4, .int v4), (5, .int w5)]) (c := [(0, .ref 0), (1, .int v1), (4, .int v4), (5, .int w5)]) ?_ rfl rfl
          exact mb_cheapest_j51 h_in h_fillsCalm h_wagesBoth s_12 (v1) (v4) (w5) _ hf hK
        · have hf := mo_neg hf c_13
          refine mm_adv 25 (cs' := P_X12_cheapest.drop 62) (l' := [(0, .ref 0), (1, .int v1), (2, .int w2), (3, .int w3), (4, .int v4), (5, .int w5)]) (st' := []) (h' := ms_H s_12) (bc' := 0) (bs' := 0) (fun n g => (And.intro hi_6 (And.intro (fun q => absurd q c_7) (fun _ => (And.intro hi_8 (And.intro (fun q => absurd q c_9) (fun _ => (And.intro (fun q => absurd q c_10) (fun _ => (h_wagesBoth s (v4) (w5) v_12 s_12 _ hr_12 (And.intro (fun q => absurd q c_13) (fun _ => g)))))))))))) ?_
          refine mm_re (l' := [(0, .ref 0), (1, .int v1), (2, .int w2), (3, .int w3), (4, .int v4), (5, .int w5)]) (c := [(0, .ref 0), (1, .int v1), (2, .int w2), (3, .int w3), (4, .int v4), (5, .int w5)]) ?_ rfl rfl
          exact mb_cheapest_j62 h_in h_fillsCalm h_wagesBoth s_12 (v1) (w2) (w3) (v4) (w5) _ hf hK
noncomputable def mf_cheapest_l15 (v1 : Int32) : (Int32 × Int32 × Int32 × ms_S) → Option ((Int32 × Int32 × Int32 × ms_S) ⊕ ((Int32 × Int32 × ms_S))) := fun (w2, w3, w4, s) =>
((mo_ag 2 (s.2.1 23) (s.1 18)).bind fun x_4 =>
(if x_4 ≤ w4 then
some (.inr (w2, w3, s))
else
((mo_loop (mf_cheapest_l26 (v1) (w4)) (w2, w3, (w4 + (1 : Int32)), s)).bind fun (e2_14, e3_14, s_14) =>
some (.inl (e2_14, e3_14, (w4 + (1 : Int32)), s_14)))))
set_option maxHeartbeats 4000000 in
theorem mb_cheapest_l15 {C : mm_C} {Q : mm_R} (h_in : mk_in C) (h_fillsCalm : mk_fillsCalm C) (h_wagesBoth : mk_wagesBoth C) (v1 : Int32) (t : Int32 × Int32 × Int32 × ms_S) (x : (Int32 × Int32 × ms_S)) (hl : mo_loop (mf_cheapest_l15 v1) t = some x) (hK : (mo_c2 (fun y2 => (mo_c2 (fun y3 sy => mm_go C mm_Mk mm_Fk P_X12_cheapest Q (P_X12_cheapest.drop 66) [(1, .int v1), (2, .int y2), (3, .int y3)] [] (ms_H sy) 0 0)))) x) : (mo_c2 (fun y2 => (mo_c2 (fun y3 => (mo_c2 (fun y4 sy => mm_go C mm_Mk mm_Fk P_X12_cheapest Q (P_X12_cheapest.drop 15) [(0, .ref 0), (1, .int v1), (2, .int y2), (3, .int y3), (4, .int y4)] [] (ms_H sy) 0 0)))))) t := by
  refine mo_loop_go (G := (mo_c2 (fun y2 => (mo_c2 (fun y3 => (mo_c2 (fun y4 sy => mm_go C mm_Mk mm_Fk P_X12_cheapest Q (P_X12_cheapest.drop 15) [(0, .ref 0), (1, .int v1), (2, .int y2), (3, .int y3), (4, .int y4)] [] (ms_H sy) 0 0)))))) ) (K := (mo_c2 (fun y2 => (mo_c2 (fun y3 sy => mm_go C mm_Mk mm_Fk P_X12_cheapest Q (P_X12_cheapest.drop 66) [(1, .int v1), (2, .int y2), (3, .int y3)] [] (ms_H sy) 0 0)))) ) ?_ t x hl hK
  intro t r hf hK
  obtain ⟨w2, w3, w4, s⟩ := t
  unfold mf_cheapest_l15 at hf
  obtain ⟨x_4, hx_4, hf⟩ := mo_bind hf
  obtain ⟨hi_4, rfl⟩ := mo_ag_inv hx_4
  by_cases c_5 : ((s.2.1 23) ((s.1 18)).toNatClampNeg) ≤ w4
  · have hf := mo_pos hf c_5
    obtain rfl := Option.some.inj hf
    refine mm_adv 7 (cs' := P_X12_cheapest.drop 66) (l' := [(0, .ref 0), (1, .int v1), (2, .int w2), (3, .int w3), (4, .int w4)]) (st' := []) (h' := ms_H s) (bc' := 0) (bs' := 0) (fun n g => (And.intro hi_4 (And.intro (fun _ => g) (fun q => absurd c_5 q)))) ?_
    exact mm_re (c := [(1, .int v1), (2, .int w2), (3, .int w3)]) hK rfl rfl
  · have hf := mo_neg hf c_5
    obtain ⟨x_14, hl_14, hf⟩ := mo_bind hf
    refine mm_adv 11 (cs' := P_X12_cheapest.drop 26) (l' := [(5, .int (w4 + (1 : Int32))), (0, .ref 0), (1, .int v1), (2, .int w2), (3, .int w3), (4, .int w4)]) (st' := []) (h' := ms_H s) (bc' := 0) (bs' := 0) (fun n g => (And.intro hi_4 (And.intro (fun q => absurd q c_5) (fun _ => g)))) ?_
    refine mm_re (l' := [(0, .ref 0), (1, .int v1), (2, .int w2), (3, .int w3), (4, .int w4), (5, .int (w4 + (1 : Int32)))]) (c := [(0, .ref 0), (1, .int v1), (2, .int w2), (3, .int w3), (4, .int w4), (5, .int (w4 + (1 : Int32)))]) ?_ rfl rfl
    refine mb_cheapest_l26 h_in h_fillsCalm h_wagesBoth (v1) (w4) (w2, w3, (w4 + (1 : Int32)), s) x_14 hl_14 ?_
    obtain ⟨e2_14, e3_14, s_14⟩ := x_14
    obtain rfl := Option.some.inj hf
    refine mm_adv 2 (cs' := P_X12_cheapest.drop 15) (l' := [(4, .int (w4 + (1 : Int32))), (0, .ref 0), (1, .int v1), (2, .int e2_14), (3, .int e3_14)]) (st' := []) (h' := ms_H s_14) (bc' := 0) (bs' := 0) (fun n g => g) ?_
    exact mm_re (c := [(0, .ref 0), (1, .int v1), (2, .int e2_14), (3, .int e3_14), (4, .int (w4 + (1 : Int32)))]) hK rfl rfl
noncomputable def mf_cheapest (s : ms_S) (a0 : Int32) : Option (Int32 × ms_S) :=
((mf_in (a0) ((0 : Int32)) ((1 : Int32))).bind fun v_1 =>
(if v_1 = (0 : Int32) then
some ((-1 : Int32), s)
else
((mf_fillsCalm s ).bind fun s_3 =>
((mo_loop (mf_cheapest_l15 (a0)) ((-2 : Int32), (-2 : Int32), (0 : Int32), s_3)).bind fun (e2_15, e3_15, s_15) =>
(if a0 = (0 : Int32) then
some (e2_15, s_15)
else
some (e3_15, s_15))))))
set_option maxHeartbeats 4000000 in
theorem mb_cheapest {C : mm_C} {Q : mm_R} (h_in : mk_in C) (h_fillsCalm : mk_fillsCalm C) (h_wagesBoth : mk_wagesBoth C) (s : ms_S) (a0 : Int32) (v : Int32) (s2 : ms_S) (hf : mf_cheapest s a0 = some (v, s2)) (hK : Q (some (.int v)) (ms_H s2)) : mm_go C mm_Mk mm_Fk P_X12_cheapest Q P_X12_cheapest [(0, .ref 0), (1, .int a0)] [] (ms_H s) 0 0 := by
  unfold mf_cheapest at hf
  obtain ⟨v_1, hr_1, hf⟩ := mo_bind hf
  by_cases c_2 : v_1 = (0 : Int32)
  · have hf := mo_pos hf c_2
    obtain ⟨rfl, rfl⟩ := mo_pair hf
    exact ⟨7, (h_in _ (a0) ((0 : Int32)) ((1 : Int32)) v_1 _ hr_1 (And.intro (fun q => absurd c_2 q) (fun _ => hK)))⟩
  · have hf := mo_neg hf c_2
    obtain ⟨s_3, hr_3, hf⟩ := mo_bind hf
    obtain ⟨x_15, hl_15, hf⟩ := mo_bind hf
    refine mm_adv 13 (cs' := P_X12_cheapest.drop 15) (l' := [(4, .int (0 : Int32)), (3, .int (-2 : Int32)), (2, .int (-2 : Int32)), (0, .ref 0), (1, .int a0)]) (st' := []) (h' := ms_H s_3) (bc' := 0) (bs' := 0) (fun n g => (h_in _ (a0) ((0 : Int32)) ((1 : Int32)) v_1 _ hr_1 (And.intro (fun _ => (h_fillsCalm s  s_3 _ hr_3 g)) (fun q => absurd c_2 q)))) ?_
    refine mm_re (l' := [(0, .ref 0), (1, .int a0), (2, .int (-2 : Int32)), (3, .int (-2 : Int32)), (4, .int (0 : Int32))]) (c := [(0, .ref 0), (1, .int a0), (2, .int (-2 : Int32)), (3, .int (-2 : Int32)), (4, .int (0 : Int32))]) ?_ rfl rfl
    refine mb_cheapest_l15 h_in h_fillsCalm h_wagesBoth (a0) ((-2 : Int32), (-2 : Int32), (0 : Int32), s_3) x_15 hl_15 ?_
    obtain ⟨e2_15, e3_15, s_15⟩ := x_15
    by_cases c_16 : a0 = (0 : Int32)
    · have hf := mo_pos hf c_16
      obtain ⟨rfl, rfl⟩ := mo_pair hf
      exact ⟨5, (And.intro (fun q => absurd c_16 q) (fun _ => hK))⟩
    · have hf := mo_neg hf c_16
      obtain ⟨rfl, rfl⟩ := mo_pair hf
      exact ⟨4, (And.intro (fun _ => hK) (fun q => absurd c_16 q))⟩
def mk_cheapest (C : mm_C) : Prop := ∀ (s : ms_S) (a0 : Int32) (v : Int32) (s2 : ms_S) (Q : mm_R), mf_cheapest s a0 = some (v, s2) → Q (some (.int v)) (ms_H s2) → C 109 [.ref 0, .int a0] (ms_H s) Q
set_option maxRecDepth 100000 in
theorem mt_cheapest (B : mm_C) (d : Nat) : mk_cheapest (mm_ct B mm_Mk mm_Fk mm_PC (d + 11)) := fun s a0 v s2 Q hf hK => Or.inr (mb_cheapest (mt_in B (d + 9)) (mt_fillsCalm B (d + 0)) (mt_wagesBoth B (d + 6)) s a0 v s2 hf hK)
-- X12_slopeIn
noncomputable def mf_slopeIn (s : ms_S) (a0 : Int32) : Option (Int32 × ms_S) :=
((mf_isLong (a0)).bind fun v_1 =>
(if v_1 = (0 : Int32) then
some ((-1 : Int32), s)
else
((mf_copies s ).bind fun s_3 =>
((mf_goes s_3 (a0)).bind fun s_4 =>
some ((s_4.2.1 48 0), s_4)))))
set_option maxHeartbeats 4000000 in
theorem mb_slopeIn {C : mm_C} {Q : mm_R} (h_isLong : mk_isLong C) (h_copies : mk_copies C) (h_goes : mk_goes C) (s : ms_S) (a0 : Int32) (v : Int32) (s2 : ms_S) (hf : mf_slopeIn s a0 = some (v, s2)) (hK : Q (some (.int v)) (ms_H s2)) : mm_go C mm_Mk mm_Fk P_X12_slopeIn Q P_X12_slopeIn [(0, .ref 0), (1, .int a0)] [] (ms_H s) 0 0 := by
  unfold mf_slopeIn at hf
  obtain ⟨v_1, hr_1, hf⟩ := mo_bind hf
  by_cases c_2 : v_1 = (0 : Int32)
  · have hf := mo_pos hf c_2
    obtain ⟨rfl, rfl⟩ := mo_pair hf
    exact ⟨5, (h_isLong _ (a0) v_1 _ hr_1 (And.intro (fun q => absurd c_2 q) (fun _ => hK)))⟩
  · have hf := mo_neg hf c_2
    obtain ⟨s_3, hr_3, hf⟩ := mo_bind hf
    obtain ⟨s_4, hr_4, hf⟩ := mo_bind hf
    obtain ⟨rfl, rfl⟩ := mo_pair hf
    exact ⟨13, (h_isLong _ (a0) v_1 _ hr_1 (And.intro (fun _ => (h_copies s  s_3 _ hr_3 (h_goes s_3 (a0) s_4 _ hr_4 (And.intro (mm_vi rfl) hK)))) (fun q => absurd c_2 q)))⟩
def mk_slopeIn (C : mm_C) : Prop := ∀ (s : ms_S) (a0 : Int32) (v : Int32) (s2 : ms_S) (Q : mm_R), mf_slopeIn s a0 = some (v, s2) → Q (some (.int v)) (ms_H s2) → C 110 [.ref 0, .int a0] (ms_H s) Q
set_option maxRecDepth 100000 in
theorem mt_slopeIn (B : mm_C) (d : Nat) : mk_slopeIn (mm_ct B mm_Mk mm_Fk mm_PC (d + 8)) := fun s a0 v s2 Q hf hK => Or.inr (mb_slopeIn (mt_isLong B (d + 5)) (mt_copies B (d + 6)) (mt_goes B (d + 0)) s a0 v s2 hf hK)
-- X12_year
noncomputable def mf_year_j32 (s : ms_S) (v1 : Int32) (v2 : Int32) (v3 : Int32) (v4 : Int32) : Option ((Int32 × Int32 × ms_S) ⊕ ((Int32 × ms_S))) :=
some (.inl (v3, (v4 + (1 : Int32)), s))
set_option maxHeartbeats 4000000 in
theorem mb_year_j32 {C : mm_C} {Q : mm_R} (h_isLong : mk_isLong C) (h_in : mk_in C) (h_copies : mk_copies C) (h_goes : mk_goes C) (h_isAsleep : mk_isAsleep C) (s : ms_S) (v1 : Int32) (v2 : Int32) (v3 : Int32) (v4 : Int32) (r : (Int32 × Int32 × ms_S) ⊕ ((Int32 × ms_S))) (hf : mf_year_j32 s v1 v2 v3 v4 = some r) (hK : mo_sum (mo_c2 (fun y3 => (mo_c2 (fun y4 sy => mm_go C mm_Mk mm_Fk P_X12_year Q (P_X12_year.drop 14) [(0, .ref 0), (1, .int v1), (2, .int v2), (3, .int y3), (4, .int y4)] [] (ms_H sy) 0 0))))  (mo_c2 (fun y3 sy => mm_go C mm_Mk mm_Fk P_X12_year Q (P_X12_year.drop 34) [(3, .int y3)] [] (ms_H sy) 0 0))  r) : mm_go C mm_Mk mm_Fk P_X12_year Q (P_X12_year.drop 32) [(0, .ref 0), (1, .int v1), (2, .int v2), (3, .int v3), (4, .int v4)] [] (ms_H s) 0 0 := by
  unfold mf_year_j32 at hf
  obtain rfl := Option.some.inj hf
  refine mm_adv 2 (cs' := P_X12_year.drop 14) (l' := [(4, .int (v4 + (1 : Int32))), (0, .ref 0), (1, .int v1), (2, .int v2), (3, .int v3)]) (st' := []) (h' := ms_H s) (bc' := 0) (bs' := 0) (fun n g => g) ?_
  exact mm_re (c := [(0, .ref 0), (1, .int v1), (2, .int v2), (3, .int v3), (4, .int (v4 + (1 : Int32)))]) hK rfl rfl
noncomputable def mf_year_l14 (v1 : Int32) (v2 : Int32) : (Int32 × Int32 × ms_S) → Option ((Int32 × Int32 × ms_S) ⊕ ((Int32 × ms_S))) := fun (w3, w4, s) =>
(if v2 ≤ w4 then
some (.inr (w3, s))
else
((mf_copies s ).bind fun s_6 =>
((mf_goes (ms_sI s_6 49 (((s_6.1 49) + w4))) (v1)).bind fun s_7 =>
((mf_isAsleep s_7 ).bind fun (v_8, s_8) =>
(if v_8 = (0 : Int32) then
(mf_year_j32 (s_8) (v1) (v2) ((w3 + (1 : Int32))) (w4))
else
(mf_year_j32 (s_8) (v1) (v2) (w3) (w4)))))))
set_option maxHeartbeats 4000000 in
theorem mb_year_l14 {C : mm_C} {Q : mm_R} (h_isLong : mk_isLong C) (h_in : mk_in C) (h_copies : mk_copies C) (h_goes : mk_goes C) (h_isAsleep : mk_isAsleep C) (v1 : Int32) (v2 : Int32) (t : Int32 × Int32 × ms_S) (x : (Int32 × ms_S)) (hl : mo_loop (mf_year_l14 v1 v2) t = some x) (hK : (mo_c2 (fun y3 sy => mm_go C mm_Mk mm_Fk P_X12_year Q (P_X12_year.drop 34) [(3, .int y3)] [] (ms_H sy) 0 0)) x) : (mo_c2 (fun y3 => (mo_c2 (fun y4 sy => mm_go C mm_Mk mm_Fk P_X12_year Q (P_X12_year.drop 14) [(0, .ref 0), (1, .int v1), (2, .int v2), (3, .int y3), (4, .int y4)] [] (ms_H sy) 0 0)))) t := by
  refine mo_loop_go (G := (mo_c2 (fun y3 => (mo_c2 (fun y4 sy => mm_go C mm_Mk mm_Fk P_X12_year Q (P_X12_year.drop 14) [(0, .ref 0), (1, .int v1), (2, .int v2), (3, .int y3), (4, .int y4)] [] (ms_H sy) 0 0)))) ) (K := (mo_c2 (fun y3 sy => mm_go C mm_Mk mm_Fk P_X12_year Q (P_X12_year.drop 34) [(3, .int y3)] [] (ms_H sy) 0 0)) ) ?_ t x hl hK
  intro t r hf hK
  obtain ⟨w3, w4, s⟩ := t
  unfold mf_year_l14 at hf
  by_cases c_5 : v2 ≤ w4
  · have hf := mo_pos hf c_5
    obtain rfl := Option.some.inj hf
    refine mm_adv 3 (cs' := P_X12_year.drop 34) (l' := [(0, .ref 0), (1, .int v1), (2, .int v2), (3, .int w3), (4, .int w4)]) (st' := []) (h' := ms_H s) (bc' := 0) (bs' := 0) (fun n g => (And.intro (fun _ => g) (fun q => absurd c_5 q))) ?_
    exact mm_re (c := [(3, .int w3)]) hK rfl rfl
  · have hf := mo_neg hf c_5
    obtain ⟨s_6, hr_6, hf⟩ := mo_bind hf
    obtain ⟨s_7, hr_7, hf⟩ := mo_bind hf
    obtain ⟨r_8, hr_8, hf⟩ := mo_bind hf
    obtain ⟨v_8, s_8⟩ := r_8
    by_cases c_9 : v_8 = (0 : Int32)
    · have hf := mo_pos hf c_9
      refine mm_adv 18 (cs' := P_X12_year.drop 32) (l' := [(3, .int (w3 + (1 : Int32))), (0, .ref 0), (1, .int v1), (2, .int v2), (4, .int w4)]) (st' := []) (h' := ms_H s_8) (bc' := 0) (bs' := 0) (fun n g => (And.intro (fun q => absurd q c_5) (fun _ => (h_copies s  s_6 _ hr_6 (And.intro trivial (h_goes (ms_sI s_6 49 (((s_6.1 49) + w4))) (v1) s_7 _ hr_7 (h_isAsleep s_7  v_8 s_8 _ hr_8 (And.intro (fun q => absurd c_9 q) (fun _ => g))))))))) ?_
      refine mm_re (l' := [(0, .ref 0), (1, .int v1), (2, .int v2), (3, .int (w3 + (1 : Int32))), (4, .int w4)]) (c := [(0, .ref 0), (1, .int v1), (2, .int v2), (3, .int (w3 + (1 : Int32))), (4, .int w4)]) ?_ rfl rfl
      exact mb_year_j32 h_isLong h_in h_copies h_goes h_isAsleep s_8 (v1) (v2) ((w3 + (1 : Int32))) (w4) _ hf hK
    · have hf := mo_neg hf c_9
      refine mm_adv 17 (cs' := P_X12_year.drop 32) (l' := [(0, .ref 0), (1, .int v1), (2, .int v2), (3, .int w3), (4, .int w4)]) (st' := []) (h' := ms_H s_8) (bc' := 0) (bs' := 0) (fun n g => (And.intro (fun q => absurd q c_5) (fun _ => (h_copies s  s_6 _ hr_6 (And.intro trivial (h_goes (ms_sI s_6 49 (((s_6.1 49) + w4))) (v1) s_7 _ hr_7 (h_isAsleep s_7  v_8 s_8 _ hr_8 (And.intro (fun _ => g) (fun q => absurd c_9 q))))))))) ?_
      refine mm_re (l' := [(0, .ref 0), (1, .int v1), (2, .int v2), (3, .int w3), (4, .int w4)]) (c := [(0, .ref 0), (1, .int v1), (2, .int v2), (3, .int w3), (4, .int w4)]) ?_ rfl rfl
      exact mb_year_j32 h_isLong h_in h_copies h_goes h_isAsleep s_8 (v1) (v2) (w3) (w4) _ hf hK
noncomputable def mf_year (s : ms_S) (a0 : Int32) (a1 : Int32) : Option (Int32 × ms_S) :=
((mf_isLong (a0)).bind fun v_1 =>
(if v_1 = (0 : Int32) then
some ((-1 : Int32), s)
else
((mf_in (a1) ((1 : Int32)) ((20 : Int32))).bind fun v_3 =>
(if v_3 = (0 : Int32) then
some ((-1 : Int32), s)
else
((mo_loop (mf_year_l14 (a0) (a1)) ((0 : Int32), (0 : Int32), s)).bind fun (e3_10, s_10) =>
some (e3_10, s_10))))))
set_option maxHeartbeats 4000000 in
theorem mb_year {C : mm_C} {Q : mm_R} (h_isLong : mk_isLong C) (h_in : mk_in C) (h_copies : mk_copies C) (h_goes : mk_goes C) (h_isAsleep : mk_isAsleep C) (s : ms_S) (a0 : Int32) (a1 : Int32) (v : Int32) (s2 : ms_S) (hf : mf_year s a0 a1 = some (v, s2)) (hK : Q (some (.int v)) (ms_H s2)) : mm_go C mm_Mk mm_Fk P_X12_year Q P_X12_year [(0, .ref 0), (1, .int a0), (2, .int a1)] [] (ms_H s) 0 0 := by
  unfold mf_year at hf
  obtain ⟨v_1, hr_1, hf⟩ := mo_bind hf
  by_cases c_2 : v_1 = (0 : Int32)
  · have hf := mo_pos hf c_2
    obtain ⟨rfl, rfl⟩ := mo_pair hf
    exact ⟨5, (h_isLong _ (a0) v_1 _ hr_1 (And.intro (fun _ => hK) (fun q => absurd c_2 q)))⟩
  · have hf := mo_neg hf c_2
    obtain ⟨v_3, hr_3, hf⟩ := mo_bind hf
    by_cases c_4 : v_3 = (0 : Int32)
    · have hf := mo_pos hf c_4
      obtain ⟨rfl, rfl⟩ := mo_pair hf
      exact ⟨10, (h_isLong _ (a0) v_1 _ hr_1 (And.intro (fun q => absurd q c_2) (fun _ => (h_in _ (a1) ((1 : Int32)) ((20 : Int32)) v_3 _ hr_3 (And.intro (fun q => absurd c_4 q) (fun _ => hK))))))⟩
    · have hf := mo_neg hf c_4
      obtain ⟨x_10, hl_10, hf⟩ := mo_bind hf
      refine mm_adv 12 (cs' := P_X12_year.drop 14) (l' := [(4, .int (0 : Int32)), (3, .int (0 : Int32)), (0, .ref 0), (1, .int a0), (2, .int a1)]) (st' := []) (h' := ms_H s) (bc' := 0) (bs' := 0) (fun n g => (h_isLong _ (a0) v_1 _ hr_1 (And.intro (fun q => absurd q c_2) (fun _ => (h_in _ (a1) ((1 : Int32)) ((20 : Int32)) v_3 _ hr_3 (And.intro (fun _ => g) (fun q => absurd c_4 q))))))) ?_
      refine mm_re (l' := [(0, .ref 0), (1, .int a0), (2, .int a1), (3, .int (0 : Int32)), (4, .int (0 : Int32))]) (c := [(0, .ref 0), (1, .int a0), (2, .int a1), (3, .int (0 : Int32)), (4, .int (0 : Int32))]) ?_ rfl rfl
      refine mb_year_l14 h_isLong h_in h_copies h_goes h_isAsleep (a0) (a1) ((0 : Int32), (0 : Int32), s) x_10 hl_10 ?_
      obtain ⟨e3_10, s_10⟩ := x_10
      obtain ⟨rfl, rfl⟩ := mo_pair hf
      exact ⟨2, hK⟩
def mk_year (C : mm_C) : Prop := ∀ (s : ms_S) (a0 : Int32) (a1 : Int32) (v : Int32) (s2 : ms_S) (Q : mm_R), mf_year s a0 a1 = some (v, s2) → Q (some (.int v)) (ms_H s2) → C 111 [.ref 0, .int a0, .int a1] (ms_H s) Q
set_option maxRecDepth 100000 in
theorem mt_year (B : mm_C) (d : Nat) : mk_year (mm_ct B mm_Mk mm_Fk mm_PC (d + 8)) := fun s a0 a1 v s2 Q hf hK => Or.inr (mb_year (mt_isLong B (d + 5)) (mt_in B (d + 6)) (mt_copies B (d + 6)) (mt_goes B (d + 0)) (mt_isAsleep B (d + 6)) s a0 a1 v s2 hf hK)
-- X12_tell
noncomputable def mf_tell (s : ms_S) (a0 : Int32) (a1 : Int32) (a2 : Int32) : Option (Int32 × ms_S) :=
(if (s.1 63) = (20 : Int32) then
some ((-1 : Int32), s)
else
((mf_in (a0) ((1 : Int32)) ((5 : Int32))).bind fun v_2 =>
(if v_2 = (0 : Int32) then
some ((-1 : Int32), s)
else
((mf_in (a1) ((0 : Int32)) ((20 : Int32))).bind fun v_4 =>
(if v_4 = (0 : Int32) then
some ((-1 : Int32), s)
else
(bif mo_in (s.1 63) 20 then (bif mo_in (s.1 63) 20 then (bif mo_in (s.1 63) 20 then some ((((s.1 63) + (1 : Int32)) - (1 : Int32)), (ms_sA (ms_sA (ms_sA (ms_sI s 63 (((s.1 63) + (1 : Int32)))) 64 (upd (s.2.1 64) ((s.1 63)).toNatClampNeg (a0))) 65 (upd (s.2.1 65) ((s.1 63)).toNatClampNeg (a1))) 66 (upd (s.2.1 66) ((s.1 63)).toNatClampNeg ((vp_nar .boolean a2))))) else none) else none) else none))))))
set_option maxHeartbeats 4000000 in
theorem mb_tell {C : mm_C} {Q : mm_R} (h_in : mk_in C) (s : ms_S) (a0 : Int32) (a1 : Int32) (a2 : Int32) (v : Int32) (s2 : ms_S) (hf : mf_tell s a0 a1 a2 = some (v, s2)) (hK : Q (some (.int v)) (ms_H s2)) : mm_go C mm_Mk mm_Fk P_X12_tell Q P_X12_tell [(0, .ref 0), (1, .int a0), (2, .int a1), (3, .int a2)] [] (ms_H s) 0 0 := by
  unfold mf_tell at hf
  by_cases c_1 : (s.1 63) = (20 : Int32)
  · have hf := mo_pos hf c_1
    obtain ⟨rfl, rfl⟩ := mo_pair hf
    exact ⟨6, (And.intro (fun _ => hK) (fun q => absurd c_1 q))⟩
  · have hf := mo_neg hf c_1
    obtain ⟨v_2, hr_2, hf⟩ := mo_bind hf
    by_cases c_3 : v_2 = (0 : Int32)
    · have hf := mo_pos hf c_3
      obtain ⟨rfl, rfl⟩ := mo_pair hf
      exact ⟨11, (And.intro (fun q => absurd q c_1) (fun _ => (h_in _ (a0) ((1 : Int32)) ((5 : Int32)) v_2 _ hr_2 (And.intro (fun _ => hK) (fun q => absurd c_3 q)))))⟩
    · have hf := mo_neg hf c_3
      obtain ⟨v_4, hr_4, hf⟩ := mo_bind hf
      by_cases c_5 : v_4 = (0 : Int32)
      · have hf := mo_pos hf c_5
        obtain ⟨rfl, rfl⟩ := mo_pair hf
        exact ⟨16, (And.intro (fun q => absurd q c_1) (fun _ => (h_in _ (a0) ((1 : Int32)) ((5 : Int32)) v_2 _ hr_2 (And.intro (fun q => absurd q c_3) (fun _ => (h_in _ (a1) ((0 : Int32)) ((20 : Int32)) v_4 _ hr_4 (And.intro (fun q => absurd c_5 q) (fun _ => hK))))))))⟩
      · have hf := mo_neg hf c_5
        obtain ⟨hi_6, hf⟩ := mo_if hf
        obtain ⟨hi_7, hf⟩ := mo_if hf
        obtain ⟨hi_8, hf⟩ := mo_if hf
        obtain ⟨rfl, rfl⟩ := mo_pair hf
        exact ⟨43, (And.intro (fun q => absurd q c_1) (fun _ => (h_in _ (a0) ((1 : Int32)) ((5 : Int32)) v_2 _ hr_2 (And.intro (fun q => absurd q c_3) (fun _ => (h_in _ (a1) ((0 : Int32)) ((20 : Int32)) v_4 _ hr_4 (And.intro (fun _ => (And.intro hi_6 (And.intro hi_7 (And.intro hi_8 (And.intro trivial hK))))) (fun q => absurd c_5 q))))))))⟩
def mk_tell (C : mm_C) : Prop := ∀ (s : ms_S) (a0 : Int32) (a1 : Int32) (a2 : Int32) (v : Int32) (s2 : ms_S) (Q : mm_R), mf_tell s a0 a1 a2 = some (v, s2) → Q (some (.int v)) (ms_H s2) → C 112 [.ref 0, .int a0, .int a1, .int a2] (ms_H s) Q
set_option maxRecDepth 100000 in
theorem mt_tell (B : mm_C) (d : Nat) : mk_tell (mm_ct B mm_Mk mm_Fk mm_PC (d + 2)) := fun s a0 a1 a2 v s2 Q hf hK => Or.inr (mb_tell (mt_in B (d + 0)) s a0 a1 a2 v s2 hf hK)
-- X12_forget
noncomputable def mf_forget (s : ms_S)  : Option (Int32 × ms_S) :=
some ((s.1 63), (ms_sI s 63 ((0 : Int32))))
set_option maxHeartbeats 4000000 in
theorem mb_forget {C : mm_C} {Q : mm_R}  (s : ms_S)  (v : Int32) (s2 : ms_S) (hf : mf_forget s = some (v, s2)) (hK : Q (some (.int v)) (ms_H s2)) : mm_go C mm_Mk mm_Fk P_X12_forget Q P_X12_forget [(0, .ref 0)] [] (ms_H s) 0 0 := by
  unfold mf_forget at hf
  obtain ⟨rfl, rfl⟩ := mo_pair hf
  exact ⟨8, (And.intro trivial hK)⟩
def mk_forget (C : mm_C) : Prop := ∀ (s : ms_S)  (v : Int32) (s2 : ms_S) (Q : mm_R), mf_forget s = some (v, s2) → Q (some (.int v)) (ms_H s2) → C 113 [.ref 0] (ms_H s) Q
set_option maxRecDepth 100000 in
theorem mt_forget (B : mm_C) (d : Nat) : mk_forget (mm_ct B mm_Mk mm_Fk mm_PC (d + 1)) := fun s v s2 Q hf hK => Or.inr (mb_forget  s v s2 hf hK)
-- X12_sevens
noncomputable def mf_sevens_l4 (v0 : Int32) : (Int32 × Int32) → Option ((Int32 × Int32) ⊕ ((Int32))) := fun (w1, w2) =>
(if v0 ≤ w2 then
some (.inr (w1))
else
some (.inl ((w1 * (7 : Int32)), (w2 + (1 : Int32)))))
set_option maxHeartbeats 4000000 in
theorem mb_sevens_l4 {C : mm_C} {Q : mm_R}  (h : mm_H) (v0 : Int32) (t : Int32 × Int32) (x : (Int32)) (hl : mo_loop (mf_sevens_l4 v0) t = some x) (hK : (fun y1 => mm_go C mm_Mk mm_Fk P_X12_sevens Q (P_X12_sevens.drop 13) [(1, .int y1)] [] h 0 0) x) : (mo_c2 (fun y1 y2 => mm_go C mm_Mk mm_Fk P_X12_sevens Q (P_X12_sevens.drop 4) [(0, .int v0), (1, .int y1), (2, .int y2)] [] h 0 0)) t := by
  refine mo_loop_go (G := (mo_c2 (fun y1 y2 => mm_go C mm_Mk mm_Fk P_X12_sevens Q (P_X12_sevens.drop 4) [(0, .int v0), (1, .int y1), (2, .int y2)] [] h 0 0)) ) (K := (fun y1 => mm_go C mm_Mk mm_Fk P_X12_sevens Q (P_X12_sevens.drop 13) [(1, .int y1)] [] h 0 0) ) ?_ t x hl hK
  intro t r hf hK
  obtain ⟨w1, w2⟩ := t
  unfold mf_sevens_l4 at hf
  by_cases c_1 : v0 ≤ w2
  · have hf := mo_pos hf c_1
    obtain rfl := Option.some.inj hf
    refine mm_adv 3 (cs' := P_X12_sevens.drop 13) (l' := [(0, .int v0), (1, .int w1), (2, .int w2)]) (st' := []) (h' := h) (bc' := 0) (bs' := 0) (fun n g => (And.intro (fun _ => g) (fun q => absurd c_1 q))) ?_
    exact mm_re (c := [(1, .int w1)]) hK rfl rfl
  · have hf := mo_neg hf c_1
    obtain rfl := Option.some.inj hf
    refine mm_adv 9 (cs' := P_X12_sevens.drop 4) (l' := [(2, .int (w2 + (1 : Int32))), (1, .int (w1 * (7 : Int32))), (0, .int v0)]) (st' := []) (h' := h) (bc' := 0) (bs' := 0) (fun n g => (And.intro (fun q => absurd q c_1) (fun _ => g))) ?_
    exact mm_re (c := [(0, .int v0), (1, .int (w1 * (7 : Int32))), (2, .int (w2 + (1 : Int32)))]) hK rfl rfl
noncomputable def mf_sevens (a0 : Int32) : Option (Int32) :=
((mo_loop (mf_sevens_l4 (a0)) ((1 : Int32), (0 : Int32))).bind fun e1_2 =>
some (e1_2))
set_option maxHeartbeats 4000000 in
theorem mb_sevens {C : mm_C} {Q : mm_R}  {h : mm_H} (a0 : Int32) (v : Int32) (hf : mf_sevens a0 = some v) (hK : Q (some (.int v)) h) : mm_go C mm_Mk mm_Fk P_X12_sevens Q P_X12_sevens [(0, .int a0)] [] h 0 0 := by
  unfold mf_sevens at hf
  obtain ⟨x_2, hl_2, hf⟩ := mo_bind hf
  refine mm_adv 4 (cs' := P_X12_sevens.drop 4) (l' := [(2, .int (0 : Int32)), (1, .int (1 : Int32)), (0, .int a0)]) (st' := []) (h' := h) (bc' := 0) (bs' := 0) (fun n g => g) ?_
  refine mm_re (l' := [(0, .int a0), (1, .int (1 : Int32)), (2, .int (0 : Int32))]) (c := [(0, .int a0), (1, .int (1 : Int32)), (2, .int (0 : Int32))]) ?_ rfl rfl
  refine mb_sevens_l4  _ (a0) ((1 : Int32), (0 : Int32)) x_2 hl_2 ?_
  obtain ⟨e1_2, rfl⟩ : ∃ q, q = x_2 := ⟨_, rfl⟩
  obtain rfl := Option.some.inj hf
  exact ⟨2, hK⟩
def mk_sevens (C : mm_C) : Prop := ∀ (h : mm_H) (a0 : Int32) (v : Int32) (Q : mm_R), mf_sevens a0 = some v → Q (some (.int v)) h → C 114 [.int a0] h Q
set_option maxRecDepth 100000 in
theorem mt_sevens (B : mm_C) (d : Nat) : mk_sevens (mm_ct B mm_Mk mm_Fk mm_PC (d + 1)) := fun h a0 v Q hf hK => Or.inr (mb_sevens  a0 v hf hK)
-- X12_doesFit
noncomputable def mf_doesFit_l6 (v1 : Int32) (v3 : Int32) (v4 : Int32) : (Int32 × Int32 × ms_S) → Option ((Int32 × Int32 × ms_S) ⊕ ((ms_S))) := fun (w5, w6, s) =>
(if w6 < (0 : Int32) then
some (.inr (s))
else
(bif mo_in w6 5 then some (.inl ((w5 / (7 : Int32)), (w6 + (-1 : Int32)), (ms_sA s 68 (upd (s.2.1 68) (w6).toNatClampNeg ((w5 - w5 / (7 : Int32) * (7 : Int32))))))) else none))
set_option maxHeartbeats 4000000 in
theorem mb_doesFit_l6 {C : mm_C} {Q : mm_R}  (v1 : Int32) (v3 : Int32) (v4 : Int32) (t : Int32 × Int32 × ms_S) (x : (ms_S)) (hl : mo_loop (mf_doesFit_l6 v1 v3 v4) t = some x) (hK : (fun sy => mm_go C mm_Mk mm_Fk P_X12_doesFit Q (P_X12_doesFit.drop 21) [(0, .ref 0), (1, .int v1), (3, .int v3), (4, .int v4)] [] (ms_H sy) 0 0) x) : (mo_c2 (fun y5 => (mo_c2 (fun y6 sy => mm_go C mm_Mk mm_Fk P_X12_doesFit Q (P_X12_doesFit.drop 6) [(0, .ref 0), (1, .int v1), (3, .int v3), (4, .int v4), (5, .int y5), (6, .int y6)] [] (ms_H sy) 0 0)))) t := by
  refine mo_loop_go (G := (mo_c2 (fun y5 => (mo_c2 (fun y6 sy => mm_go C mm_Mk mm_Fk P_X12_doesFit Q (P_X12_doesFit.drop 6) [(0, .ref 0), (1, .int v1), (3, .int v3), (4, .int v4), (5, .int y5), (6, .int y6)] [] (ms_H sy) 0 0)))) ) (K := (fun sy => mm_go C mm_Mk mm_Fk P_X12_doesFit Q (P_X12_doesFit.drop 21) [(0, .ref 0), (1, .int v1), (3, .int v3), (4, .int v4)] [] (ms_H sy) 0 0) ) ?_ t x hl hK
  intro t r hf hK
  obtain ⟨w5, w6, s⟩ := t
  unfold mf_doesFit_l6 at hf
  by_cases c_1 : w6 < (0 : Int32)
  · have hf := mo_pos hf c_1
    obtain rfl := Option.some.inj hf
    refine mm_adv 2 (cs' := P_X12_doesFit.drop 21) (l' := [(0, .ref 0), (1, .int v1), (3, .int v3), (4, .int v4), (5, .int w5), (6, .int w6)]) (st' := []) (h' := ms_H s) (bc' := 0) (bs' := 0) (fun n g => (And.intro (fun _ => g) (fun q => absurd c_1 q))) ?_
    exact mm_re (c := [(0, .ref 0), (1, .int v1), (3, .int v3), (4, .int v4)]) hK rfl rfl
  · have hf := mo_neg hf c_1
    obtain ⟨hi_2, hf⟩ := mo_if hf
    obtain rfl := Option.some.inj hf
    refine mm_adv 15 (cs' := P_X12_doesFit.drop 6) (l' := [(6, .int (w6 + (-1 : Int32))), (5, .int (w5 / (7 : Int32))), (0, .ref 0), (1, .int v1), (3, .int v3), (4, .int v4)]) (st' := []) (h' := ms_H (ms_sA s 68 (upd (s.2.1 68) (w6).toNatClampNeg ((w5 - w5 / (7 : Int32) * (7 : Int32)))))) (bc' := 0) (bs' := 0) (fun n g => (And.intro (fun q => absurd q c_1) (fun _ => (And.intro (by decide) (And.intro hi_2 (And.intro (by decide) g)))))) ?_
    exact mm_re (c := [(0, .ref 0), (1, .int v1), (3, .int v3), (4, .int v4), (5, .int (w5 / (7 : Int32))), (6, .int (w6 + (-1 : Int32)))]) hK rfl rfl
noncomputable def mf_doesFit_l25 (v3 : Int32) (v4 : Int32) : (Int32 × Int32 × ms_S) → Option ((Int32 × Int32 × ms_S) ⊕ ((ms_S) ⊕ (ms_S))) := fun (w6, w7, s) =>
(if v4 ≤ w7 then
some (.inr (.inr (s)))
else
((mo_ag 5 (s.2.1 68) w7).bind fun x_5 =>
((mo_ag 2058 (s.2.1 51) (((7 : Int32) * w6) + x_5)).bind fun x_6 =>
(if (0 : Int32) ≤ x_6 then
(bif mo_in (w7 + (1 : Int32)) 6 then some (.inl (x_6, (w7 + (1 : Int32)), (ms_sA s 67 (upd (s.2.1 67) ((w7 + (1 : Int32))).toNatClampNeg ((x_6 / (14 : Int32))))))) else none)
else
some (.inr (.inl (s)))))))
set_option maxHeartbeats 4000000 in
theorem mb_doesFit_l25 {C : mm_C} {Q : mm_R}  (v3 : Int32) (v4 : Int32) (t : Int32 × Int32 × ms_S) (x : (ms_S) ⊕ (ms_S)) (hl : mo_loop (mf_doesFit_l25 v3 v4) t = some x) (hK : (mo_sum (fun sy => mm_go C mm_Mk mm_Fk P_X12_doesFit Q (P_X12_doesFit.drop 42) [] [] (ms_H sy) 0 0) (fun sy => mm_go C mm_Mk mm_Fk P_X12_doesFit Q (P_X12_doesFit.drop 55) [(0, .ref 0), (3, .int v3), (4, .int v4)] [] (ms_H sy) 0 0)) x) : (mo_c2 (fun y6 => (mo_c2 (fun y7 sy => mm_go C mm_Mk mm_Fk P_X12_doesFit Q (P_X12_doesFit.drop 25) [(0, .ref 0), (3, .int v3), (4, .int v4), (6, .int y6), (7, .int y7)] [] (ms_H sy) 0 0)))) t := by
  refine mo_loop_go (G := (mo_c2 (fun y6 => (mo_c2 (fun y7 sy => mm_go C mm_Mk mm_Fk P_X12_doesFit Q (P_X12_doesFit.drop 25) [(0, .ref 0), (3, .int v3), (4, .int v4), (6, .int y6), (7, .int y7)] [] (ms_H sy) 0 0)))) ) (K := (mo_sum (fun sy => mm_go C mm_Mk mm_Fk P_X12_doesFit Q (P_X12_doesFit.drop 42) [] [] (ms_H sy) 0 0) (fun sy => mm_go C mm_Mk mm_Fk P_X12_doesFit Q (P_X12_doesFit.drop 55) [(0, .ref 0), (3, .int v3), (4, .int v4)] [] (ms_H sy) 0 0)) ) ?_ t x hl hK
  intro t r hf hK
  obtain ⟨w6, w7, s⟩ := t
  unfold mf_doesFit_l25 at hf
  by_cases c_4 : v4 ≤ w7
  · have hf := mo_pos hf c_4
    obtain rfl := Option.some.inj hf
    refine mm_adv 3 (cs' := P_X12_doesFit.drop 55) (l' := [(0, .ref 0), (3, .int v3), (4, .int v4), (6, .int w6), (7, .int w7)]) (st' := []) (h' := ms_H s) (bc' := 0) (bs' := 0) (fun n g => (And.intro (fun _ => g) (fun q => absurd c_4 q))) ?_
    exact mm_re (c := [(0, .ref 0), (3, .int v3), (4, .int v4)]) hK rfl rfl
  · have hf := mo_neg hf c_4
    obtain ⟨x_5, hx_5, hf⟩ := mo_bind hf
    obtain ⟨hi_5, rfl⟩ := mo_ag_inv hx_5
    obtain ⟨x_6, hx_6, hf⟩ := mo_bind hf
    obtain ⟨hi_6, rfl⟩ := mo_ag_inv hx_6
    by_cases c_7 : (0 : Int32) ≤ ((s.2.1 51) ((((7 : Int32) * w6) + ((s.2.1 68) (w7).toNatClampNeg))).toNatClampNeg)
    · have hf := mo_pos hf c_7
      obtain ⟨hi_8, hf⟩ := mo_if hf
      obtain rfl := Option.some.inj hf
      refine mm_adv 28 (cs' := P_X12_doesFit.drop 25) (l' := [(7, .int (w7 + (1 : Int32))), (6, .int ((s.2.1 51) ((((7 : Int32) * w6) + ((s.2.1 68) (w7).toNatClampNeg))).toNatClampNeg)), (0, .ref 0), (3, .int v3), (4, .int v4)]) (st' := []) (h' := ms_H (ms_sA s 67 (upd (s.2.1 67) ((w7 + (1 : Int32))).toNatClampNeg ((((s.2.1 51) ((((7 : Int32) * w6) + ((s.2.1 68) (w7).toNatClampNeg))).toNatClampNeg) / (14 : Int32)))))) (bc' := 0) (bs' := 0) (fun n g => (And.intro (fun q => absurd q c_4) (fun _ => (And.intro hi_5 (And.intro hi_6 (And.intro (fun _ => (And.intro (by decide) (And.intro hi_8 g))) (fun q => absurd c_7 q))))))) ?_
      exact mm_re (c := [(0, .ref 0), (3, .int v3), (4, .int v4), (6, .int ((s.2.1 51) ((((7 : Int32) * w6) + ((s.2.1 68) (w7).toNatClampNeg))).toNatClampNeg)), (7, .int (w7 + (1 : Int32)))]) hK rfl rfl
    · have hf := mo_neg hf c_7
      obtain rfl := Option.some.inj hf
      refine mm_adv 17 (cs' := P_X12_doesFit.drop 42) (l' := [(6, .int ((s.2.1 51) ((((7 : Int32) * w6) + ((s.2.1 68) (w7).toNatClampNeg))).toNatClampNeg)), (0, .ref 0), (3, .int v3), (4, .int v4), (7, .int w7)]) (st' := []) (h' := ms_H s) (bc' := 0) (bs' := 0) (fun n g => (And.intro (fun q => absurd q c_4) (fun _ => (And.intro hi_5 (And.intro hi_6 (And.intro (fun q => absurd q c_7) (fun _ => g))))))) ?_
      exact mm_re (c := []) hK rfl rfl
noncomputable def mf_doesFit_j81 (s : ms_S) (v3 : Int32) (v4 : Int32) (v7 : Int32) (k0 : Int32) : Option ((Int32 × ms_S) ⊕ ((ms_S) ⊕ (ms_S))) :=
((mo_ag 20 (s.2.1 66) v7).bind fun x_17 =>
(if k0 = x_17 then
some (.inl ((v7 + (1 : Int32)), s))
else
some (.inr (.inl (s)))))
set_option maxHeartbeats 4000000 in
theorem mb_doesFit_j81 {C : mm_C} {Q : mm_R}  (s : ms_S) (v3 : Int32) (v4 : Int32) (v7 : Int32) (k0 : Int32) (r : (Int32 × ms_S) ⊕ ((ms_S) ⊕ (ms_S))) (hf : mf_doesFit_j81 s v3 v4 v7 k0 = some r) (hK : mo_sum (mo_c2 (fun y7 sy => mm_go C mm_Mk mm_Fk P_X12_doesFit Q (P_X12_doesFit.drop 57) [(0, .ref 0), (3, .int v3), (4, .int v4), (7, .int y7)] [] (ms_H sy) 0 0))  (mo_sum (fun sy => mm_go C mm_Mk mm_Fk P_X12_doesFit Q (P_X12_doesFit.drop 86) [] [] (ms_H sy) 0 0) (fun sy => mm_go C mm_Mk mm_Fk P_X12_doesFit Q (P_X12_doesFit.drop 90) [] [] (ms_H sy) 0 0))  r) : mm_go C mm_Mk mm_Fk P_X12_doesFit Q (P_X12_doesFit.drop 81) [(0, .ref 0), (3, .int v3), (4, .int v4), (7, .int v7)] [.int k0] (ms_H s) 0 0 := by
  unfold mf_doesFit_j81 at hf
  obtain ⟨x_17, hx_17, hf⟩ := mo_bind hf
  obtain ⟨hi_17, rfl⟩ := mo_ag_inv hx_17
  by_cases c_18 : k0 = ((s.2.1 66) (v7).toNatClampNeg)
  · have hf := mo_pos hf c_18
    obtain rfl := Option.some.inj hf
    refine mm_adv 7 (cs' := P_X12_doesFit.drop 57) (l' := [(7, .int (v7 + (1 : Int32))), (0, .ref 0), (3, .int v3), (4, .int v4)]) (st' := []) (h' := ms_H s) (bc' := 0) (bs' := 0) (fun n g => (And.intro hi_17 (And.intro (fun _ => g) (fun q => absurd c_18 q)))) ?_
    exact mm_re (c := [(0, .ref 0), (3, .int v3), (4, .int v4), (7, .int (v7 + (1 : Int32)))]) hK rfl rfl
  · have hf := mo_neg hf c_18
    obtain rfl := Option.some.inj hf
    refine mm_adv 5 (cs' := P_X12_doesFit.drop 86) (l' := [(0, .ref 0), (3, .int v3), (4, .int v4), (7, .int v7)]) (st' := []) (h' := ms_H s) (bc' := 0) (bs' := 0) (fun n g => (And.intro hi_17 (And.intro (fun q => absurd q c_18) (fun _ => g)))) ?_
    exact mm_re (c := []) hK rfl rfl
noncomputable def mf_doesFit_l57 (v3 : Int32) (v4 : Int32) : (Int32 × ms_S) → Option ((Int32 × ms_S) ⊕ ((ms_S) ⊕ (ms_S))) := fun (w7, s) =>
(if v3 ≤ w7 then
some (.inr (.inr (s)))
else
((mo_ag 20 (s.2.1 64) w7).bind fun x_11 =>
(if v4 < x_11 then
some (.inr (.inl (s)))
else
((mo_ag 20 (s.2.1 64) w7).bind fun x_13 =>
((mo_ag 6 (s.2.1 67) x_13).bind fun x_14 =>
((mo_ag 20 (s.2.1 65) w7).bind fun x_15 =>
(if x_14 < x_15 then
(mf_doesFit_j81 (s) (v3) (v4) (w7) ((0 : Int32)))
else
(mf_doesFit_j81 (s) (v3) (v4) (w7) ((1 : Int32))))))))))
set_option maxHeartbeats 4000000 in
theorem mb_doesFit_l57 {C : mm_C} {Q : mm_R}  (v3 : Int32) (v4 : Int32) (t : Int32 × ms_S) (x : (ms_S) ⊕ (ms_S)) (hl : mo_loop (mf_doesFit_l57 v3 v4) t = some x) (hK : (mo_sum (fun sy => mm_go C mm_Mk mm_Fk P_X12_doesFit Q (P_X12_doesFit.drop 86) [] [] (ms_H sy) 0 0) (fun sy => mm_go C mm_Mk mm_Fk P_X12_doesFit Q (P_X12_doesFit.drop 90) [] [] (ms_H sy) 0 0)) x) : (mo_c2 (fun y7 sy => mm_go C mm_Mk mm_Fk P_X12_doesFit Q (P_X12_doesFit.drop 57) [(0, .ref 0), (3, .int v3), (4, .int v4), (7, .int y7)] [] (ms_H sy) 0 0)) t := by
  refine mo_loop_go (G := (mo_c2 (fun y7 sy => mm_go C mm_Mk mm_Fk P_X12_doesFit Q (P_X12_doesFit.drop 57) [(0, .ref 0), (3, .int v3), (4, .int v4), (7, .int y7)] [] (ms_H sy) 0 0)) ) (K := (mo_sum (fun sy => mm_go C mm_Mk mm_Fk P_X12_doesFit Q (P_X12_doesFit.drop 86) [] [] (ms_H sy) 0 0) (fun sy => mm_go C mm_Mk mm_Fk P_X12_doesFit Q (P_X12_doesFit.drop 90) [] [] (ms_H sy) 0 0)) ) ?_ t x hl hK
  intro t r hf hK
  obtain ⟨w7, s⟩ := t
  unfold mf_doesFit_l57 at hf
  by_cases c_10 : v3 ≤ w7
  · have hf := mo_pos hf c_10
    obtain rfl := Option.some.inj hf
    refine mm_adv 3 (cs' := P_X12_doesFit.drop 90) (l' := [(0, .ref 0), (3, .int v3), (4, .int v4), (7, .int w7)]) (st' := []) (h' := ms_H s) (bc' := 0) (bs' := 0) (fun n g => (And.intro (fun _ => g) (fun q => absurd c_10 q))) ?_
    exact mm_re (c := []) hK rfl rfl
  · have hf := mo_neg hf c_10
    obtain ⟨x_11, hx_11, hf⟩ := mo_bind hf
    obtain ⟨hi_11, rfl⟩ := mo_ag_inv hx_11
    by_cases c_12 : v4 < ((s.2.1 64) (w7).toNatClampNeg)
    · have hf := mo_pos hf c_12
      obtain rfl := Option.some.inj hf
      refine mm_adv 9 (cs' := P_X12_doesFit.drop 86) (l' := [(0, .ref 0), (3, .int v3), (4, .int v4), (7, .int w7)]) (st' := []) (h' := ms_H s) (bc' := 0) (bs' := 0) (fun n g => (And.intro (fun q => absurd q c_10) (fun _ => (And.intro hi_11 (And.intro (fun _ => g) (fun q => absurd c_12 q)))))) ?_
      exact mm_re (c := []) hK rfl rfl
    · have hf := mo_neg hf c_12
      obtain ⟨x_13, hx_13, hf⟩ := mo_bind hf
      obtain ⟨hi_13, rfl⟩ := mo_ag_inv hx_13
      obtain ⟨x_14, hx_14, hf⟩ := mo_bind hf
      obtain ⟨hi_14, rfl⟩ := mo_ag_inv hx_14
      obtain ⟨x_15, hx_15, hf⟩ := mo_bind hf
      obtain ⟨hi_15, rfl⟩ := mo_ag_inv hx_15
      by_cases c_16 : ((s.2.1 67) (((s.2.1 64) (w7).toNatClampNeg)).toNatClampNeg) < ((s.2.1 65) (w7).toNatClampNeg)
      · have hf := mo_pos hf c_16
        refine mm_adv 22 (cs' := P_X12_doesFit.drop 81) (l' := [(0, .ref 0), (3, .int v3), (4, .int v4), (7, .int w7)]) (st' := [.int (0 : Int32)]) (h' := ms_H s) (bc' := 0) (bs' := 0) (fun n g => (And.intro (fun q => absurd q c_10) (fun _ => (And.intro hi_11 (And.intro (fun q => absurd q c_12) (fun _ => (And.intro hi_13 (And.intro hi_14 (And.intro hi_15 (And.intro (fun _ => g) (fun q => absurd c_16 q))))))))))) ?_
        refine mm_re (l' := [(0, .ref 0), (3, .int v3), (4, .int v4), (7, .int w7)]) (c := [(0, .ref 0), (3, .int v3), (4, .int v4), (7, .int w7)]) ?_ rfl rfl
        exact mb_doesFit_j81  s (v3) (v4) (w7) ((0 : Int32)) _ hf hK
      · have hf := mo_neg hf c_16
        refine mm_adv 23 (cs' := P_X12_doesFit.drop 81) (l' := [(0, .ref 0), (3, .int v3), (4, .int v4), (7, .int w7)]) (st' := [.int (1 : Int32)]) (h' := ms_H s) (bc' := 0) (bs' := 0) (fun n g => (And.intro (fun q => absurd q c_10) (fun _ => (And.intro hi_11 (And.intro (fun q => absurd q c_12) (fun _ => (And.intro hi_13 (And.intro hi_14 (And.intro hi_15 (And.intro (fun q => absurd q c_16) (fun _ => g))))))))))) ?_
        refine mm_re (l' := [(0, .ref 0), (3, .int v3), (4, .int v4), (7, .int w7)]) (c := [(0, .ref 0), (3, .int v3), (4, .int v4), (7, .int w7)]) ?_ rfl rfl
        exact mb_doesFit_j81  s (v3) (v4) (w7) ((1 : Int32)) _ hf hK
noncomputable def mf_doesFit (s : ms_S) (a0 : Int32) (a1 : Int32) (a2 : Int32) (a3 : Int32) : Option (Int32 × ms_S) :=
((mo_loop (mf_doesFit_l6 (a0) (a2) (a3)) (a1, (a3 - (1 : Int32)), s)).bind fun s_3 =>
((mo_loop (mf_doesFit_l25 (a2) (a3)) (a0, (0 : Int32), s_3)).bind fun x_9 =>
match x_9 with
| (.inl s_9) => some ((0 : Int32), s_9)
| (.inr s_9) => ((mo_loop (mf_doesFit_l57 (a2) (a3)) ((0 : Int32), s_9)).bind fun x_19 =>
match x_19 with
| (.inl s_19) => some ((0 : Int32), s_19)
| (.inr s_19) => some ((1 : Int32), s_19)
)
))
set_option maxHeartbeats 4000000 in
theorem mb_doesFit {C : mm_C} {Q : mm_R}  (s : ms_S) (a0 : Int32) (a1 : Int32) (a2 : Int32) (a3 : Int32) (v : Int32) (s2 : ms_S) (hf : mf_doesFit s a0 a1 a2 a3 = some (v, s2)) (hK : Q (some (.int v)) (ms_H s2)) : mm_go C mm_Mk mm_Fk P_X12_doesFit Q P_X12_doesFit [(0, .ref 0), (1, .int a0), (2, .int a1), (3, .int a2), (4, .int a3)] [] (ms_H s) 0 0 := by
  unfold mf_doesFit at hf
  obtain ⟨x_3, hl_3, hf⟩ := mo_bind hf
  refine mm_adv 6 (cs' := P_X12_doesFit.drop 6) (l' := [(6, .int (a3 - (1 : Int32))), (5, .int a1), (0, .ref 0), (1, .int a0), (2, .int a1), (3, .int a2), (4, .int a3)]) (st' := []) (h' := ms_H s) (bc' := 0) (bs' := 0) (fun n g => g) ?_
  refine mm_re (l' := [(0, .ref 0), (1, .int a0), (3, .int a2), (4, .int a3), (5, .int a1), (6, .int (a3 - (1 : Int32)))]) (c := [(0, .ref 0), (1, .int a0), (3, .int a2), (4, .int a3), (5, .int a1), (6, .int (a3 - (1 : Int32)))]) ?_ rfl rfl
  refine mb_doesFit_l6  (a0) (a2) (a3) (a1, (a3 - (1 : Int32)), s) x_3 hl_3 ?_
  obtain ⟨s_3, rfl⟩ : ∃ q, q = x_3 := ⟨_, rfl⟩
  obtain ⟨x_9, hl_9, hf⟩ := mo_bind hf
  refine mm_adv 4 (cs' := P_X12_doesFit.drop 25) (l' := [(7, .int (0 : Int32)), (6, .int a0), (0, .ref 0), (1, .int a0), (3, .int a2), (4, .int a3)]) (st' := []) (h' := ms_H s_3) (bc' := 0) (bs' := 0) (fun n g => g) ?_
  refine mm_re (l' := [(0, .ref 0), (3, .int a2), (4, .int a3), (6, .int a0), (7, .int (0 : Int32))]) (c := [(0, .ref 0), (3, .int a2), (4, .int a3), (6, .int a0), (7, .int (0 : Int32))]) ?_ rfl rfl
  refine mb_doesFit_l25  (a2) (a3) (a0, (0 : Int32), s_3) x_9 hl_9 ?_
  cases x_9 with
  | inl y_9 =>
    obtain ⟨s_9, rfl⟩ : ∃ q, q = y_9 := ⟨_, rfl⟩
    obtain ⟨rfl, rfl⟩ := mo_pair hf
    exact ⟨2, (And.intro rfl hK)⟩
  | inr z_9_0 =>
    obtain ⟨s_9, rfl⟩ : ∃ q, q = z_9_0 := ⟨_, rfl⟩
    obtain ⟨x_19, hl_19, hf⟩ := mo_bind hf
    refine mm_adv 2 (cs' := P_X12_doesFit.drop 57) (l' := [(7, .int (0 : Int32)), (0, .ref 0), (3, .int a2), (4, .int a3)]) (st' := []) (h' := ms_H s_9) (bc' := 0) (bs' := 0) (fun n g => g) ?_
    refine mm_re (l' := [(0, .ref 0), (3, .int a2), (4, .int a3), (7, .int (0 : Int32))]) (c := [(0, .ref 0), (3, .int a2), (4, .int a3), (7, .int (0 : Int32))]) ?_ rfl rfl
    refine mb_doesFit_l57  (a2) (a3) ((0 : Int32), s_9) x_19 hl_19 ?_
    cases x_19 with
    | inl y_19 =>
      obtain ⟨s_19, rfl⟩ : ∃ q, q = y_19 := ⟨_, rfl⟩
      obtain ⟨rfl, rfl⟩ := mo_pair hf
      exact ⟨2, (And.intro rfl hK)⟩
    | inr z_19_0 =>
      obtain ⟨s_19, rfl⟩ : ∃ q, q = z_19_0 := ⟨_, rfl⟩
      obtain ⟨rfl, rfl⟩ := mo_pair hf
      exact ⟨2, (And.intro rfl hK)⟩
def mk_doesFit (C : mm_C) : Prop := ∀ (s : ms_S) (a0 : Int32) (a1 : Int32) (a2 : Int32) (a3 : Int32) (v : Int32) (s2 : ms_S) (Q : mm_R), mf_doesFit s a0 a1 a2 a3 = some (v, s2) → Q (some (.int v)) (ms_H s2) → C 115 [.ref 0, .int a0, .int a1, .int a2, .int a3] (ms_H s) Q
set_option maxRecDepth 100000 in
theorem mt_doesFit (B : mm_C) (d : Nat) : mk_doesFit (mm_ct B mm_Mk mm_Fk mm_PC (d + 1)) := fun s a0 a1 a2 a3 v s2 Q hf hK => Or.inr (mb_doesFit  s a0 a1 a2 a3 v s2 hf hK)
