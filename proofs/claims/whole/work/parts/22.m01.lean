/-! the reference, method by method, 1 -/
-- X12_is
noncomputable def mf_is (s : ms_S) (a0 : Int32) : Option (Int32 × ms_S) :=
(if (s.1 13) = (0 : Int32) then
((mo_ag 403 (s.2.1 5) (s.1 11)).bind fun x_2 =>
(if x_2 = a0 then
some ((1 : Int32), s)
else
some ((0 : Int32), s)))
else
some ((0 : Int32), s))
set_option maxHeartbeats 4000000 in
theorem mb_is {C : mm_C} {Q : mm_R}  (s : ms_S) (a0 : Int32) (v : Int32) (s2 : ms_S) (hf : mf_is s a0 = some (v, s2)) (hK : Q (some (.int v)) (ms_H s2)) : mm_go C mm_Mk mm_Fk P_X12_is Q P_X12_is [(0, .ref 0), (1, .int a0)] [] (ms_H s) 0 0 := by
  unfold mf_is at hf
  by_cases c_1 : (s.1 13) = (0 : Int32)
  · have hf := mo_pos hf c_1
    obtain ⟨x_2, hx_2, hf⟩ := mo_bind hf
    obtain ⟨hi_2, rfl⟩ := mo_ag_inv hx_2
    by_cases c_3 : ((s.2.1 5) ((s.1 11)).toNatClampNeg) = a0
    · have hf := mo_pos hf c_3
      obtain ⟨rfl, rfl⟩ := mo_pair hf
      exact ⟨13, (And.intro (fun q => absurd c_1 q) (fun _ => (And.intro hi_2 (And.intro (fun q => absurd c_3 q) (fun _ => (And.intro rfl hK))))))⟩
    · have hf := mo_neg hf c_3
      obtain ⟨rfl, rfl⟩ := mo_pair hf
      exact ⟨12, (And.intro (fun q => absurd c_1 q) (fun _ => (And.intro hi_2 (And.intro (fun _ => (And.intro rfl hK)) (fun q => absurd c_3 q)))))⟩
  · have hf := mo_neg hf c_1
    obtain ⟨rfl, rfl⟩ := mo_pair hf
    exact ⟨5, (And.intro (fun _ => (And.intro rfl hK)) (fun q => absurd c_1 q))⟩
def mk_is (C : mm_C) : Prop := ∀ (s : ms_S) (a0 : Int32) (v : Int32) (s2 : ms_S) (Q : mm_R), mf_is s a0 = some (v, s2) → Q (some (.int v)) (ms_H s2) → C 12 [.ref 0, .int a0] (ms_H s) Q
set_option maxRecDepth 100000 in
theorem mt_is (B : mm_C) (d : Nat) : mk_is (mm_ct B mm_Mk mm_Fk mm_PC (d + 1)) := fun s a0 v s2 Q hf hK => Or.inr (mb_is  s a0 v s2 hf hK)
-- X12_fail
noncomputable def mf_fail (s : ms_S) (a0 : Int32) : Option (ms_S) :=
(if (s.1 13) ≤ (0 : Int32) then
((mo_ag 403 (s.2.1 6) (s.1 11)).bind fun x_2 =>
some (ms_sI (ms_sI s 13 (a0)) 14 (x_2)))
else
some s)
set_option maxHeartbeats 4000000 in
theorem mb_fail {C : mm_C} {Q : mm_R}  (s : ms_S) (a0 : Int32) (s2 : ms_S) (hf : mf_fail s a0 = some s2) (hK : Q (none) (ms_H s2)) : mm_go C mm_Mk mm_Fk P_X12_fail Q P_X12_fail [(0, .ref 0), (1, .int a0)] [] (ms_H s) 0 0 := by
  unfold mf_fail at hf
  by_cases c_1 : (s.1 13) ≤ (0 : Int32)
  · have hf := mo_pos hf c_1
    obtain ⟨x_2, hx_2, hf⟩ := mo_bind hf
    obtain ⟨hi_2, rfl⟩ := mo_ag_inv hx_2
    obtain rfl := Option.some.inj hf
    exact ⟨14, (And.intro (fun _ => (And.intro trivial (And.intro hi_2 (And.intro trivial hK)))) (fun q => absurd c_1 q))⟩
  · have hf := mo_neg hf c_1
    obtain rfl := Option.some.inj hf
    exact ⟨4, (And.intro (fun q => absurd q c_1) (fun _ => hK))⟩
def mk_fail (C : mm_C) : Prop := ∀ (s : ms_S) (a0 : Int32) (s2 : ms_S) (Q : mm_R), mf_fail s a0 = some s2 → Q (none) (ms_H s2) → C 13 [.ref 0, .int a0] (ms_H s) Q
set_option maxRecDepth 100000 in
theorem mt_fail (B : mm_C) (d : Nat) : mk_fail (mm_ct B mm_Mk mm_Fk mm_PC (d + 1)) := fun s a0 s2 Q hf hK => Or.inr (mb_fail  s a0 s2 hf hK)
-- X12_wrong
noncomputable def mf_wrong (s : ms_S) (a0 : Int32) (a1 : Int32) : Option (ms_S) :=
((mo_ag 403 (s.2.1 6) a1).bind fun x_1 =>
(if (0 : Int32) < (s.1 13) then
some s
else
(if (s.1 15) = (0 : Int32) then
some (ms_sI (ms_sI s 15 (a0)) 16 (x_1))
else
(if (s.1 16) < x_1 then
some s
else
(if x_1 = (s.1 16) then
(if a0 < (s.1 15) then
some (ms_sI (ms_sI s 15 (a0)) 16 (x_1))
else
some s)
else
some (ms_sI (ms_sI s 15 (a0)) 16 (x_1)))))))
set_option maxHeartbeats 4000000 in
theorem mb_wrong {C : mm_C} {Q : mm_R}  (s : ms_S) (a0 : Int32) (a1 : Int32) (s2 : ms_S) (hf : mf_wrong s a0 a1 = some s2) (hK : Q (none) (ms_H s2)) : mm_go C mm_Mk mm_Fk P_X12_wrong Q P_X12_wrong [(0, .ref 0), (1, .int a0), (2, .int a1)] [] (ms_H s) 0 0 := by
  unfold mf_wrong at hf
  obtain ⟨x_1, hx_1, hf⟩ := mo_bind hf
  obtain ⟨hi_1, rfl⟩ := mo_ag_inv hx_1
  by_cases c_2 : (0 : Int32) < (s.1 13)
  · have hf := mo_pos hf c_2
    obtain rfl := Option.some.inj hf
    exact ⟨9, (And.intro hi_1 (And.intro (fun _ => hK) (fun q => absurd c_2 q)))⟩
  · have hf := mo_neg hf c_2
    by_cases c_3 : (s.1 15) = (0 : Int32)
    · have hf := mo_pos hf c_3
      obtain rfl := Option.some.inj hf
      exact ⟨18, (And.intro hi_1 (And.intro (fun q => absurd q c_2) (fun _ => (And.intro (fun _ => (And.intro trivial (And.intro trivial hK))) (fun q => absurd c_3 q)))))⟩
    · have hf := mo_neg hf c_3
      by_cases c_4 : (s.1 16) < ((s.2.1 6) (a1).toNatClampNeg)
      · have hf := mo_pos hf c_4
        obtain rfl := Option.some.inj hf
        exact ⟨16, (And.intro hi_1 (And.intro (fun q => absurd q c_2) (fun _ => (And.intro (fun q => absurd q c_3) (fun _ => (And.intro (fun _ => hK) (fun q => absurd c_4 q)))))))⟩
      · have hf := mo_neg hf c_4
        by_cases c_5 : ((s.2.1 6) (a1).toNatClampNeg) = (s.1 16)
        · have hf := mo_pos hf c_5
          by_cases c_6 : a0 < (s.1 15)
          · have hf := mo_pos hf c_6
            obtain rfl := Option.some.inj hf
            exact ⟨30, (And.intro hi_1 (And.intro (fun q => absurd q c_2) (fun _ => (And.intro (fun q => absurd q c_3) (fun _ => (And.intro (fun q => absurd q c_4) (fun _ => (And.intro (fun q => absurd c_5 q) (fun _ => (And.intro (fun _ => (And.intro trivial (And.intro trivial hK))) (fun q => absurd c_6 q)))))))))))⟩
          · have hf := mo_neg hf c_6
            obtain rfl := Option.some.inj hf
            exact ⟨24, (And.intro hi_1 (And.intro (fun q => absurd q c_2) (fun _ => (And.intro (fun q => absurd q c_3) (fun _ => (And.intro (fun q => absurd q c_4) (fun _ => (And.intro (fun q => absurd c_5 q) (fun _ => (And.intro (fun q => absurd q c_6) (fun _ => hK)))))))))))⟩
        · have hf := mo_neg hf c_5
          obtain rfl := Option.some.inj hf
          exact ⟨26, (And.intro hi_1 (And.intro (fun q => absurd q c_2) (fun _ => (And.intro (fun q => absurd q c_3) (fun _ => (And.intro (fun q => absurd q c_4) (fun _ => (And.intro (fun _ => (And.intro trivial (And.intro trivial hK))) (fun q => absurd c_5 q)))))))))⟩
def mk_wrong (C : mm_C) : Prop := ∀ (s : ms_S) (a0 : Int32) (a1 : Int32) (s2 : ms_S) (Q : mm_R), mf_wrong s a0 a1 = some s2 → Q (none) (ms_H s2) → C 14 [.ref 0, .int a0, .int a1] (ms_H s) Q
set_option maxRecDepth 100000 in
theorem mt_wrong (B : mm_C) (d : Nat) : mk_wrong (mm_ct B mm_Mk mm_Fk mm_PC (d + 1)) := fun s a0 a1 s2 Q hf hK => Or.inr (mb_wrong  s a0 a1 s2 hf hK)
-- X12_goesOn
noncomputable def mf_goesOn (s : ms_S)  : Option (ms_S) :=
(if (s.1 11) = (400 : Int32) then
((mf_fail s ((2 : Int32))).bind fun s_2 =>
some s_2)
else
some (ms_sI s 11 (((s.1 11) + (1 : Int32)))))
set_option maxHeartbeats 4000000 in
theorem mb_goesOn {C : mm_C} {Q : mm_R} (h_fail : mk_fail C) (s : ms_S)  (s2 : ms_S) (hf : mf_goesOn s = some s2) (hK : Q (none) (ms_H s2)) : mm_go C mm_Mk mm_Fk P_X12_goesOn Q P_X12_goesOn [(0, .ref 0)] [] (ms_H s) 0 0 := by
  unfold mf_goesOn at hf
  by_cases c_1 : (s.1 11) = (400 : Int32)
  · have hf := mo_pos hf c_1
    obtain ⟨s_2, hr_2, hf⟩ := mo_bind hf
    obtain rfl := Option.some.inj hf
    exact ⟨9, (And.intro (fun q => absurd c_1 q) (fun _ => (h_fail s ((2 : Int32)) s_2 _ hr_2 hK)))⟩
  · have hf := mo_neg hf c_1
    obtain rfl := Option.some.inj hf
    exact ⟨11, (And.intro (fun _ => (And.intro trivial hK)) (fun q => absurd c_1 q))⟩
def mk_goesOn (C : mm_C) : Prop := ∀ (s : ms_S)  (s2 : ms_S) (Q : mm_R), mf_goesOn s = some s2 → Q (none) (ms_H s2) → C 15 [.ref 0] (ms_H s) Q
set_option maxRecDepth 100000 in
theorem mt_goesOn (B : mm_C) (d : Nat) : mk_goesOn (mm_ct B mm_Mk mm_Fk mm_PC (d + 2)) := fun s s2 Q hf hK => Or.inr (mb_goesOn (mt_fail B (d + 0)) s s2 hf hK)
-- X12_must
noncomputable def mf_must (s : ms_S) (a0 : Int32) : Option (ms_S) :=
((mf_is s (a0)).bind fun (v_1, s_1) =>
(if v_1 = (0 : Int32) then
((mf_fail s_1 ((1 : Int32))).bind fun s_3 =>
some s_3)
else
((mf_goesOn s_1 ).bind fun s_4 =>
some s_4)))
set_option maxHeartbeats 4000000 in
theorem mb_must {C : mm_C} {Q : mm_R} (h_is : mk_is C) (h_goesOn : mk_goesOn C) (h_fail : mk_fail C) (s : ms_S) (a0 : Int32) (s2 : ms_S) (hf : mf_must s a0 = some s2) (hK : Q (none) (ms_H s2)) : mm_go C mm_Mk mm_Fk P_X12_must Q P_X12_must [(0, .ref 0), (1, .int a0)] [] (ms_H s) 0 0 := by
  unfold mf_must at hf
  obtain ⟨r_1, hr_1, hf⟩ := mo_bind hf
  obtain ⟨v_1, s_1⟩ := r_1
  by_cases c_2 : v_1 = (0 : Int32)
  · have hf := mo_pos hf c_2
    obtain ⟨s_3, hr_3, hf⟩ := mo_bind hf
    obtain rfl := Option.some.inj hf
    exact ⟨8, (h_is s (a0) v_1 s_1 _ hr_1 (And.intro (fun _ => (h_fail s_1 ((1 : Int32)) s_3 _ hr_3 hK)) (fun q => absurd c_2 q)))⟩
  · have hf := mo_neg hf c_2
    obtain ⟨s_4, hr_4, hf⟩ := mo_bind hf
    obtain rfl := Option.some.inj hf
    exact ⟨8, (h_is s (a0) v_1 s_1 _ hr_1 (And.intro (fun q => absurd q c_2) (fun _ => (h_goesOn s_1  s_4 _ hr_4 hK))))⟩
def mk_must (C : mm_C) : Prop := ∀ (s : ms_S) (a0 : Int32) (s2 : ms_S) (Q : mm_R), mf_must s a0 = some s2 → Q (none) (ms_H s2) → C 16 [.ref 0, .int a0] (ms_H s) Q
set_option maxRecDepth 100000 in
theorem mt_must (B : mm_C) (d : Nat) : mk_must (mm_ct B mm_Mk mm_Fk mm_PC (d + 3)) := fun s a0 s2 Q hf hK => Or.inr (mb_must (mt_is B (d + 1)) (mt_goesOn B (d + 0)) (mt_fail B (d + 1)) s a0 s2 hf hK)
-- X12_plain
noncomputable def mf_plain_l32 (v1 : Int32) : (Int32 × ms_S) → Option ((Int32 × ms_S) ⊕ ((ms_S))) := fun (w2, s) =>
(if (4 : Int32) ≤ w2 then
some (.inr (s))
else
(bif mo_in (((4 : Int32) * v1) + w2) 8 then (bif mo_in (((4 : Int32) * v1) + w2) 8 then some (.inl ((w2 + (1 : Int32)), (ms_sA (ms_sA s 31 (upd (s.2.1 31) ((((4 : Int32) * v1) + w2)).toNatClampNeg ((0 : Int32)))) 32 (upd (s.2.1 32) ((((4 : Int32) * v1) + w2)).toNatClampNeg ((0 : Int32)))))) else none) else none))
set_option maxHeartbeats 4000000 in
theorem mb_plain_l32 {C : mm_C} {Q : mm_R}  (v1 : Int32) (t : Int32 × ms_S) (x : (ms_S)) (hl : mo_loop (mf_plain_l32 v1) t = some x) (hK : (fun sy => mm_go C mm_Mk mm_Fk P_X12_plain Q (P_X12_plain.drop 55) [] [] (ms_H sy) 0 0) x) : (mo_c2 (fun y2 sy => mm_go C mm_Mk mm_Fk P_X12_plain Q (P_X12_plain.drop 32) [(0, .ref 0), (1, .int v1), (2, .int y2)] [] (ms_H sy) 0 0)) t := by
  refine mo_loop_go (G := (mo_c2 (fun y2 sy => mm_go C mm_Mk mm_Fk P_X12_plain Q (P_X12_plain.drop 32) [(0, .ref 0), (1, .int v1), (2, .int y2)] [] (ms_H sy) 0 0)) ) (K := (fun sy => mm_go C mm_Mk mm_Fk P_X12_plain Q (P_X12_plain.drop 55) [] [] (ms_H sy) 0 0) ) ?_ t x hl hK
  intro t r hf hK
  obtain ⟨w2, s⟩ := t
  unfold mf_plain_l32 at hf
  by_cases c_7 : (4 : Int32) ≤ w2
  · have hf := mo_pos hf c_7
    obtain rfl := Option.some.inj hf
    refine mm_adv 3 (cs' := P_X12_plain.drop 55) (l' := [(0, .ref 0), (1, .int v1), (2, .int w2)]) (st' := []) (h' := ms_H s) (bc' := 0) (bs' := 0) (fun n g => (And.intro (fun _ => g) (fun q => absurd c_7 q))) ?_
    exact mm_re (c := []) hK rfl rfl
  · have hf := mo_neg hf c_7
    obtain ⟨hi_8, hf⟩ := mo_if hf
    obtain ⟨hi_9, hf⟩ := mo_if hf
    obtain rfl := Option.some.inj hf
    refine mm_adv 23 (cs' := P_X12_plain.drop 32) (l' := [(2, .int (w2 + (1 : Int32))), (0, .ref 0), (1, .int v1)]) (st' := []) (h' := ms_H (ms_sA (ms_sA s 31 (upd (s.2.1 31) ((((4 : Int32) * v1) + w2)).toNatClampNeg ((0 : Int32)))) 32 (upd (s.2.1 32) ((((4 : Int32) * v1) + w2)).toNatClampNeg ((0 : Int32))))) (bc' := 0) (bs' := 0) (fun n g => (And.intro (fun q => absurd q c_7) (fun _ => (And.intro hi_8 (And.intro hi_9 g))))) ?_
    exact mm_re (c := [(0, .ref 0), (1, .int v1), (2, .int (w2 + (1 : Int32)))]) hK rfl rfl
noncomputable def mf_plain (s : ms_S) (a0 : Int32) : Option (ms_S) :=
(bif mo_in a0 2 then (bif mo_in a0 2 then (bif mo_in a0 2 then (bif mo_in a0 2 then (bif mo_in a0 2 then (bif mo_in a0 2 then ((mo_loop (mf_plain_l32 (a0)) ((0 : Int32), (ms_sA (ms_sA (ms_sA (ms_sA (ms_sA (ms_sA s 23 (upd (s.2.1 23) (a0).toNatClampNeg ((0 : Int32)))) 25 (upd (s.2.1 25) (a0).toNatClampNeg ((0 : Int32)))) 27 (upd (s.2.1 27) (a0).toNatClampNeg ((-2 : Int32)))) 28 (upd (s.2.1 28) (a0).toNatClampNeg ((-2 : Int32)))) 29 (upd (s.2.1 29) (a0).toNatClampNeg ((10 : Int32)))) 30 (upd (s.2.1 30) (a0).toNatClampNeg ((0 : Int32)))))).bind fun s_10 =>
some s_10) else none) else none) else none) else none) else none) else none)
set_option maxHeartbeats 4000000 in
theorem mb_plain {C : mm_C} {Q : mm_R}  (s : ms_S) (a0 : Int32) (s2 : ms_S) (hf : mf_plain s a0 = some s2) (hK : Q (none) (ms_H s2)) : mm_go C mm_Mk mm_Fk P_X12_plain Q P_X12_plain [(0, .ref 0), (1, .int a0)] [] (ms_H s) 0 0 := by
  unfold mf_plain at hf
  obtain ⟨hi_1, hf⟩ := mo_if hf
  obtain ⟨hi_2, hf⟩ := mo_if hf
  obtain ⟨hi_3, hf⟩ := mo_if hf
  obtain ⟨hi_4, hf⟩ := mo_if hf
  obtain ⟨hi_5, hf⟩ := mo_if hf
  obtain ⟨hi_6, hf⟩ := mo_if hf
  obtain ⟨x_10, hl_10, hf⟩ := mo_bind hf
  refine mm_adv 32 (cs' := P_X12_plain.drop 32) (l' := [(2, .int (0 : Int32)), (0, .ref 0), (1, .int a0)]) (st' := []) (h' := ms_H (ms_sA (ms_sA (ms_sA (ms_sA (ms_sA (ms_sA s 23 (upd (s.2.1 23) (a0).toNatClampNeg ((0 : Int32)))) 25 (upd (s.2.1 25) (a0).toNatClampNeg ((0 : Int32)))) 27 (upd (s.2.1 27) (a0).toNatClampNeg ((-2 : Int32)))) 28 (upd (s.2.1 28) (a0).toNatClampNeg ((-2 : Int32)))) 29 (upd (s.2.1 29) (a0).toNatClampNeg ((10 : Int32)))) 30 (upd (s.2.1 30) (a0).toNatClampNeg ((0 : Int32))))) (bc' := 0) (bs' := 0) (fun n g => (And.intro hi_1 (And.intro hi_2 (And.intro hi_3 (And.intro hi_4 (And.intro hi_5 (And.intro hi_6 g))))))) ?_
  refine mm_re (l' := [(0, .ref 0), (1, .int a0), (2, .int (0 : Int32))]) (c := [(0, .ref 0), (1, .int a0), (2, .int (0 : Int32))]) ?_ rfl rfl
  refine mb_plain_l32  (a0) ((0 : Int32), (ms_sA (ms_sA (ms_sA (ms_sA (ms_sA (ms_sA s 23 (upd (s.2.1 23) (a0).toNatClampNeg ((0 : Int32)))) 25 (upd (s.2.1 25) (a0).toNatClampNeg ((0 : Int32)))) 27 (upd (s.2.1 27) (a0).toNatClampNeg ((-2 : Int32)))) 28 (upd (s.2.1 28) (a0).toNatClampNeg ((-2 : Int32)))) 29 (upd (s.2.1 29) (a0).toNatClampNeg ((10 : Int32)))) 30 (upd (s.2.1 30) (a0).toNatClampNeg ((0 : Int32))))) x_10 hl_10 ?_
  obtain ⟨s_10, rfl⟩ : ∃ q, q = x_10 := ⟨_, rfl⟩
  obtain rfl := Option.some.inj hf
  exact ⟨1, hK⟩
def mk_plain (C : mm_C) : Prop := ∀ (s : ms_S) (a0 : Int32) (s2 : ms_S) (Q : mm_R), mf_plain s a0 = some s2 → Q (none) (ms_H s2) → C 17 [.ref 0, .int a0] (ms_H s) Q
set_option maxRecDepth 100000 in
theorem mt_plain (B : mm_C) (d : Nat) : mk_plain (mm_ct B mm_Mk mm_Fk mm_PC (d + 1)) := fun s a0 s2 Q hf hK => Or.inr (mb_plain  s a0 s2 hf hK)
-- X12_roomFor
noncomputable def mf_roomFor_j6 (s : ms_S)  : Option (ms_S) :=
(if (s.1 13) = (0 : Int32) then
((mf_goesOn s ).bind fun s_4 =>
some s_4)
else
some s)
set_option maxHeartbeats 4000000 in
theorem mb_roomFor_j6 {C : mm_C} {Q : mm_R} (h_fail : mk_fail C) (h_goesOn : mk_goesOn C) (s : ms_S)  (s2 : ms_S) (hf : mf_roomFor_j6 s = some s2) (hK : Q (none) (ms_H s2)) : mm_go C mm_Mk mm_Fk P_X12_roomFor Q (P_X12_roomFor.drop 6) [(0, .ref 0)] [] (ms_H s) 0 0 := by
  unfold mf_roomFor_j6 at hf
  by_cases c_3 : (s.1 13) = (0 : Int32)
  · have hf := mo_pos hf c_3
    obtain ⟨s_4, hr_4, hf⟩ := mo_bind hf
    obtain rfl := Option.some.inj hf
    exact ⟨6, (And.intro (fun q => absurd c_3 q) (fun _ => (h_goesOn s  s_4 _ hr_4 hK)))⟩
  · have hf := mo_neg hf c_3
    obtain rfl := Option.some.inj hf
    exact ⟨4, (And.intro (fun _ => hK) (fun q => absurd c_3 q))⟩
noncomputable def mf_roomFor (s : ms_S) (a0 : Int32) (a1 : Int32) : Option (ms_S) :=
(if a0 = a1 then
((mf_fail s ((2 : Int32))).bind fun s_2 =>
(mf_roomFor_j6 (s_2)))
else
(mf_roomFor_j6 (s)))
set_option maxHeartbeats 4000000 in
theorem mb_roomFor {C : mm_C} {Q : mm_R} (h_fail : mk_fail C) (h_goesOn : mk_goesOn C) (s : ms_S) (a0 : Int32) (a1 : Int32) (s2 : ms_S) (hf : mf_roomFor s a0 a1 = some s2) (hK : Q (none) (ms_H s2)) : mm_go C mm_Mk mm_Fk P_X12_roomFor Q P_X12_roomFor [(0, .ref 0), (1, .int a0), (2, .int a1)] [] (ms_H s) 0 0 := by
  unfold mf_roomFor at hf
  by_cases c_1 : a0 = a1
  · have hf := mo_pos hf c_1
    obtain ⟨s_2, hr_2, hf⟩ := mo_bind hf
    refine mm_adv 6 (cs' := P_X12_roomFor.drop 6) (l' := [(0, .ref 0), (1, .int a0), (2, .int a1)]) (st' := []) (h' := ms_H s_2) (bc' := 0) (bs' := 0) (fun n g => (And.intro (fun q => absurd c_1 q) (fun _ => (h_fail s ((2 : Int32)) s_2 _ hr_2 g)))) ?_
    refine mm_re (l' := [(0, .ref 0)]) (c := [(0, .ref 0)]) ?_ rfl rfl
    exact mb_roomFor_j6 h_fail h_goesOn s_2 _ hf hK
  · have hf := mo_neg hf c_1
    refine mm_adv 3 (cs' := P_X12_roomFor.drop 6) (l' := [(0, .ref 0), (1, .int a0), (2, .int a1)]) (st' := []) (h' := ms_H s) (bc' := 0) (bs' := 0) (fun n g => (And.intro (fun _ => g) (fun q => absurd c_1 q))) ?_
    refine mm_re (l' := [(0, .ref 0)]) (c := [(0, .ref 0)]) ?_ rfl rfl
    exact mb_roomFor_j6 h_fail h_goesOn s _ hf hK
def mk_roomFor (C : mm_C) : Prop := ∀ (s : ms_S) (a0 : Int32) (a1 : Int32) (s2 : ms_S) (Q : mm_R), mf_roomFor s a0 a1 = some s2 → Q (none) (ms_H s2) → C 20 [.ref 0, .int a0, .int a1] (ms_H s) Q
set_option maxRecDepth 100000 in
theorem mt_roomFor (B : mm_C) (d : Nat) : mk_roomFor (mm_ct B mm_Mk mm_Fk mm_PC (d + 3)) := fun s a0 a1 s2 Q hf hK => Or.inr (mb_roomFor (mt_fail B (d + 1)) (mt_goesOn B (d + 0)) s a0 a1 s2 hf hK)
-- X12_named
noncomputable def mf_named_j29 (s : ms_S) (v1 : Int32) (v2 : Int32) : Option ((Int32 × ms_S) ⊕ ((ms_S))) :=
some (.inl ((v2 + (1 : Int32)), s))
set_option maxHeartbeats 4000000 in
theorem mb_named_j29 {C : mm_C} {Q : mm_R} (h_must : mk_must C) (h_wrong : mk_wrong C) (s : ms_S) (v1 : Int32) (v2 : Int32) (r : (Int32 × ms_S) ⊕ ((ms_S))) (hf : mf_named_j29 s v1 v2 = some r) (hK : mo_sum (mo_c2 (fun y2 sy => mm_go C mm_Mk mm_Fk P_X12_named Q (P_X12_named.drop 8) [(0, .ref 0), (1, .int v1), (2, .int y2)] [] (ms_H sy) 0 0))  (fun sy => mm_go C mm_Mk mm_Fk P_X12_named Q (P_X12_named.drop 31) [(1, .int v1)] [] (ms_H sy) 0 0)  r) : mm_go C mm_Mk mm_Fk P_X12_named Q (P_X12_named.drop 29) [(0, .ref 0), (1, .int v1), (2, .int v2)] [] (ms_H s) 0 0 := by
  unfold mf_named_j29 at hf
  obtain rfl := Option.some.inj hf
  refine mm_adv 2 (cs' := P_X12_named.drop 8) (l' := [(2, .int (v2 + (1 : Int32))), (0, .ref 0), (1, .int v1)]) (st' := []) (h' := ms_H s) (bc' := 0) (bs' := 0) (fun n g => g) ?_
  exact mm_re (c := [(0, .ref 0), (1, .int v1), (2, .int (v2 + (1 : Int32)))]) hK rfl rfl
noncomputable def mf_named_l8 (v1 : Int32) : (Int32 × ms_S) → Option ((Int32 × ms_S) ⊕ ((ms_S))) := fun (w2, s) =>
(if (s.1 20) ≤ w2 then
some (.inr (s))
else
(if (s.1 13) = (0 : Int32) then
((mo_al 11 (s.2.2 21) w2).bind fun x_4 =>
((mo_al 403 (s.2.2 8) v1).bind fun x_5 =>
(if (lg_cmp x_4 x_5) = (0 : Int32) then
((mf_wrong s ((3 : Int32)) (v1)).bind fun s_7 =>
(mf_named_j29 (s_7) (v1) (w2)))
else
(mf_named_j29 (s) (v1) (w2)))))
else
some (.inr (s))))
set_option maxHeartbeats 4000000 in
theorem mb_named_l8 {C : mm_C} {Q : mm_R} (h_must : mk_must C) (h_wrong : mk_wrong C) (v1 : Int32) (t : Int32 × ms_S) (x : (ms_S)) (hl : mo_loop (mf_named_l8 v1) t = some x) (hK : (fun sy => mm_go C mm_Mk mm_Fk P_X12_named Q (P_X12_named.drop 31) [(1, .int v1)] [] (ms_H sy) 0 0) x) : (mo_c2 (fun y2 sy => mm_go C mm_Mk mm_Fk P_X12_named Q (P_X12_named.drop 8) [(0, .ref 0), (1, .int v1), (2, .int y2)] [] (ms_H sy) 0 0)) t := by
  refine mo_loop_go (G := (mo_c2 (fun y2 sy => mm_go C mm_Mk mm_Fk P_X12_named Q (P_X12_named.drop 8) [(0, .ref 0), (1, .int v1), (2, .int y2)] [] (ms_H sy) 0 0)) ) (K := (fun sy => mm_go C mm_Mk mm_Fk P_X12_named Q (P_X12_named.drop 31) [(1, .int v1)] [] (ms_H sy) 0 0) ) ?_ t x hl hK
  intro t r hf hK
  obtain ⟨w2, s⟩ := t
  unfold mf_named_l8 at hf
  by_cases c_2 : (s.1 20) ≤ w2
  · have hf := mo_pos hf c_2
    obtain rfl := Option.some.inj hf
    refine mm_adv 4 (cs' := P_X12_named.drop 31) (l' := [(0, .ref 0), (1, .int v1), (2, .int w2)]) (st' := []) (h' := ms_H s) (bc' := 0) (bs' := 0) (fun n g => (And.intro (fun _ => g) (fun q => absurd c_2 q))) ?_
    exact mm_re (c := [(1, .int v1)]) hK rfl rfl
  · have hf := mo_neg hf c_2
    by_cases c_3 : (s.1 13) = (0 : Int32)
    · have hf := mo_pos hf c_3
      obtain ⟨x_4, hx_4, hf⟩ := mo_bind hf
      obtain ⟨hi_4, rfl⟩ := mo_al_inv hx_4
      obtain ⟨x_5, hx_5, hf⟩ := mo_bind hf
      obtain ⟨hi_5, rfl⟩ := mo_al_inv hx_5
      by_cases c_6 : (lg_cmp ((s.2.2 21) (w2).toNatClampNeg) ((s.2.2 8) (v1).toNatClampNeg)) = (0 : Int32)
      · have hf := mo_pos hf c_6
        obtain ⟨s_7, hr_7, hf⟩ := mo_bind hf
        refine mm_adv 21 (cs' := P_X12_named.drop 29) (l' := [(0, .ref 0), (1, .int v1), (2, .int w2)]) (st' := []) (h' := ms_H s_7) (bc' := 0) (bs' := 0) (fun n g => (And.intro (fun q => absurd q c_2) (fun _ => (And.intro (fun q => absurd c_3 q) (fun _ => (And.intro hi_4 (And.intro hi_5 (And.intro (fun q => absurd c_6 q) (fun _ => (h_wrong s ((3 : Int32)) (v1) s_7 _ hr_7 g)))))))))) ?_
        refine mm_re (l' := [(0, .ref 0), (1, .int v1), (2, .int w2)]) (c := [(0, .ref 0), (1, .int v1), (2, .int w2)]) ?_ rfl rfl
        exact mb_named_j29 h_must h_wrong s_7 (v1) (w2) _ hf hK
      · have hf := mo_neg hf c_6
        refine mm_adv 17 (cs' := P_X12_named.drop 29) (l' := [(0, .ref 0), (1, .int v1), (2, .int w2)]) (st' := []) (h' := ms_H s) (bc' := 0) (bs' := 0) (fun n g => (And.intro (fun q => absurd q c_2) (fun _ => (And.intro (fun q => absurd c_3 q) (fun _ => (And.intro hi_4 (And.intro hi_5 (And.intro (fun _ => g) (fun q => absurd c_6 q))))))))) ?_
        refine mm_re (l' := [(0, .ref 0), (1, .int v1), (2, .int w2)]) (c := [(0, .ref 0), (1, .int v1), (2, .int w2)]) ?_ rfl rfl
        exact mb_named_j29 h_must h_wrong s (v1) (w2) _ hf hK
    · have hf := mo_neg hf c_3
      obtain rfl := Option.some.inj hf
      refine mm_adv 7 (cs' := P_X12_named.drop 31) (l' := [(0, .ref 0), (1, .int v1), (2, .int w2)]) (st' := []) (h' := ms_H s) (bc' := 0) (bs' := 0) (fun n g => (And.intro (fun q => absurd q c_2) (fun _ => (And.intro (fun _ => g) (fun q => absurd c_3 q))))) ?_
      exact mm_re (c := [(1, .int v1)]) hK rfl rfl
noncomputable def mf_named (s : ms_S)  : Option (Int32 × ms_S) :=
((mf_must s ((1 : Int32))).bind fun s_1 =>
((mo_loop (mf_named_l8 ((s.1 11))) ((0 : Int32), s_1)).bind fun s_8 =>
some ((s.1 11), s_8)))
set_option maxHeartbeats 4000000 in
theorem mb_named {C : mm_C} {Q : mm_R} (h_must : mk_must C) (h_wrong : mk_wrong C) (s : ms_S)  (v : Int32) (s2 : ms_S) (hf : mf_named s = some (v, s2)) (hK : Q (some (.int v)) (ms_H s2)) : mm_go C mm_Mk mm_Fk P_X12_named Q P_X12_named [(0, .ref 0)] [] (ms_H s) 0 0 := by
  unfold mf_named at hf
  obtain ⟨s_1, hr_1, hf⟩ := mo_bind hf
  obtain ⟨x_8, hl_8, hf⟩ := mo_bind hf
  refine mm_adv 8 (cs' := P_X12_named.drop 8) (l' := [(2, .int (0 : Int32)), (1, .int (s.1 11)), (0, .ref 0)]) (st' := []) (h' := ms_H s_1) (bc' := 0) (bs' := 0) (fun n g => (h_must s ((1 : Int32)) s_1 _ hr_1 g)) ?_
  refine mm_re (l' := [(0, .ref 0), (1, .int (s.1 11)), (2, .int (0 : Int32))]) (c := [(0, .ref 0), (1, .int (s.1 11)), (2, .int (0 : Int32))]) ?_ rfl rfl
  refine mb_named_l8 h_must h_wrong ((s.1 11)) ((0 : Int32), s_1) x_8 hl_8 ?_
  obtain ⟨s_8, rfl⟩ : ∃ q, q = x_8 := ⟨_, rfl⟩
  obtain ⟨rfl, rfl⟩ := mo_pair hf
  exact ⟨2, hK⟩
def mk_named (C : mm_C) : Prop := ∀ (s : ms_S)  (v : Int32) (s2 : ms_S) (Q : mm_R), mf_named s = some (v, s2) → Q (some (.int v)) (ms_H s2) → C 22 [.ref 0] (ms_H s) Q
set_option maxRecDepth 100000 in
theorem mt_named (B : mm_C) (d : Nat) : mk_named (mm_ct B mm_Mk mm_Fk mm_PC (d + 4)) := fun s v s2 Q hf hK => Or.inr (mb_named (mt_must B (d + 0)) (mt_wrong B (d + 2)) s v s2 hf hK)
-- X12_bounded
noncomputable def mf_bounded_j7 (s : ms_S) (v1 : Int32) : Option (Int32 × ms_S) :=
((mf_fail s ((1 : Int32))).bind fun s_2 =>
some (v1, s_2))
set_option maxHeartbeats 4000000 in
theorem mb_bounded_j7 {C : mm_C} {Q : mm_R} (h_is : mk_is C) (h_fail : mk_fail C) (h_wrong : mk_wrong C) (h_goesOn : mk_goesOn C) (s : ms_S) (v1 : Int32) (v : Int32) (s2 : ms_S) (hf : mf_bounded_j7 s v1 = some (v, s2)) (hK : Q (some (.int v)) (ms_H s2)) : mm_go C mm_Mk mm_Fk P_X12_bounded Q (P_X12_bounded.drop 7) [(0, .ref 0), (1, .int v1)] [] (ms_H s) 0 0 := by
  unfold mf_bounded_j7 at hf
  obtain ⟨s_2, hr_2, hf⟩ := mo_bind hf
  obtain ⟨rfl, rfl⟩ := mo_pair hf
  exact ⟨5, (h_fail s ((1 : Int32)) s_2 _ hr_2 hK)⟩
noncomputable def mf_bounded_j29 (s : ms_S) (v3 : Int32) : Option (Int32 × ms_S) :=
((mf_goesOn s ).bind fun s_8 =>
some (v3, s_8))
set_option maxHeartbeats 4000000 in
theorem mb_bounded_j29 {C : mm_C} {Q : mm_R} (h_is : mk_is C) (h_fail : mk_fail C) (h_wrong : mk_wrong C) (h_goesOn : mk_goesOn C) (s : ms_S) (v3 : Int32) (v : Int32) (s2 : ms_S) (hf : mf_bounded_j29 s v3 = some (v, s2)) (hK : Q (some (.int v)) (ms_H s2)) : mm_go C mm_Mk mm_Fk P_X12_bounded Q (P_X12_bounded.drop 29) [(0, .ref 0), (3, .int v3)] [] (ms_H s) 0 0 := by
  unfold mf_bounded_j29 at hf
  obtain ⟨s_8, hr_8, hf⟩ := mo_bind hf
  obtain ⟨rfl, rfl⟩ := mo_pair hf
  exact ⟨4, (h_goesOn s  s_8 _ hr_8 hK)⟩
noncomputable def mf_bounded_j24 (s : ms_S) (v3 : Int32) : Option (Int32 × ms_S) :=
((mf_wrong s ((5 : Int32)) ((s.1 11))).bind fun s_7 =>
(mf_bounded_j29 (s_7) (v3)))
set_option maxHeartbeats 4000000 in
theorem mb_bounded_j24 {C : mm_C} {Q : mm_R} (h_is : mk_is C) (h_fail : mk_fail C) (h_wrong : mk_wrong C) (h_goesOn : mk_goesOn C) (s : ms_S) (v3 : Int32) (v : Int32) (s2 : ms_S) (hf : mf_bounded_j24 s v3 = some (v, s2)) (hK : Q (some (.int v)) (ms_H s2)) : mm_go C mm_Mk mm_Fk P_X12_bounded Q (P_X12_bounded.drop 24) [(0, .ref 0), (3, .int v3)] [] (ms_H s) 0 0 := by
  unfold mf_bounded_j24 at hf
  obtain ⟨s_7, hr_7, hf⟩ := mo_bind hf
  refine mm_adv 5 (cs' := P_X12_bounded.drop 29) (l' := [(0, .ref 0), (3, .int v3)]) (st' := []) (h' := ms_H s_7) (bc' := 0) (bs' := 0) (fun n g => (h_wrong s ((5 : Int32)) ((s.1 11)) s_7 _ hr_7 g)) ?_
  refine mm_re (l' := [(0, .ref 0), (3, .int v3)]) (c := [(0, .ref 0), (3, .int v3)]) ?_ rfl rfl
  exact mb_bounded_j29 h_is h_fail h_wrong h_goesOn s_7 (v3) _ _ hf hK
noncomputable def mf_bounded (s : ms_S) (a0 : Int32) (a1 : Int32) : Option (Int32 × ms_S) :=
(if (0 : Int32) < (s.1 13) then
(mf_bounded_j7 (s) (a0))
else
((mf_is s ((2 : Int32))).bind fun (v_3, s_3) =>
(if v_3 = (0 : Int32) then
(mf_bounded_j7 (s_3) (a0))
else
((mo_ag 403 (s_3.2.1 7) (s_3.1 11)).bind fun x_5 =>
(if x_5 < a0 then
(mf_bounded_j24 (s_3) (x_5))
else
(if x_5 ≤ a1 then
(mf_bounded_j29 (s_3) (x_5))
else
(mf_bounded_j24 (s_3) (x_5))))))))
set_option maxHeartbeats 4000000 in
theorem mb_bounded {C : mm_C} {Q : mm_R} (h_is : mk_is C) (h_fail : mk_fail C) (h_wrong : mk_wrong C) (h_goesOn : mk_goesOn C) (s : ms_S) (a0 : Int32) (a1 : Int32) (v : Int32) (s2 : ms_S) (hf : mf_bounded s a0 a1 = some (v, s2)) (hK : Q (some (.int v)) (ms_H s2)) : mm_go C mm_Mk mm_Fk P_X12_bounded Q P_X12_bounded [(0, .ref 0), (1, .int a0), (2, .int a1)] [] (ms_H s) 0 0 := by
  unfold mf_bounded at hf
  by_cases c_1 : (0 : Int32) < (s.1 13)
  · have hf := mo_pos hf c_1
    refine mm_adv 3 (cs' := P_X12_bounded.drop 7) (l' := [(0, .ref 0), (1, .int a0), (2, .int a1)]) (st' := []) (h' := ms_H s) (bc' := 0) (bs' := 0) (fun n g => (And.intro (fun _ => g) (fun q => absurd c_1 q))) ?_
    refine mm_re (l' := [(0, .ref 0), (1, .int a0)]) (c := [(0, .ref 0), (1, .int a0)]) ?_ rfl rfl
    exact mb_bounded_j7 h_is h_fail h_wrong h_goesOn s (a0) _ _ hf hK
  · have hf := mo_neg hf c_1
    obtain ⟨r_3, hr_3, hf⟩ := mo_bind hf
    obtain ⟨v_3, s_3⟩ := r_3
    by_cases c_4 : v_3 = (0 : Int32)
    · have hf := mo_pos hf c_4
      refine mm_adv 7 (cs' := P_X12_bounded.drop 7) (l' := [(0, .ref 0), (1, .int a0), (2, .int a1)]) (st' := []) (h' := ms_H s_3) (bc' := 0) (bs' := 0) (fun n g => (And.intro (fun q => absurd q c_1) (fun _ => (h_is s ((2 : Int32)) v_3 s_3 _ hr_3 (And.intro (fun q => absurd c_4 q) (fun _ => g)))))) ?_
      refine mm_re (l' := [(0, .ref 0), (1, .int a0)]) (c := [(0, .ref 0), (1, .int a0)]) ?_ rfl rfl
      exact mb_bounded_j7 h_is h_fail h_wrong h_goesOn s_3 (a0) _ _ hf hK
    · have hf := mo_neg hf c_4
      obtain ⟨x_5, hx_5, hf⟩ := mo_bind hf
      obtain ⟨hi_5, rfl⟩ := mo_ag_inv hx_5
      by_cases c_6 : ((s_3.2.1 7) ((s_3.1 11)).toNatClampNeg) < a0
      · have hf := mo_pos hf c_6
        refine mm_adv 16 (cs' := P_X12_bounded.drop 24) (l' := [(3, .int ((s_3.2.1 7) ((s_3.1 11)).toNatClampNeg)), (0, .ref 0), (1, .int a0), (2, .int a1)]) (st' := []) (h' := ms_H s_3) (bc' := 0) (bs' := 0) (fun n g => (And.intro (fun q => absurd q c_1) (fun _ => (h_is s ((2 : Int32)) v_3 s_3 _ hr_3 (And.intro (fun _ => (And.intro hi_5 (And.intro (fun _ => g) (fun q => absurd c_6 q)))) (fun q => absurd c_4 q)))))) ?_
        refine mm_re (l' := [(0, .ref 0), (3, .int ((s_3.2.1 7) ((s_3.1 11)).toNatClampNeg))]) (c := [(0, .ref 0), (3, .int ((s_3.2.1 7) ((s_3.1 11)).toNatClampNeg))]) ?_ rfl rfl
        exact mb_bounded_j24 h_is h_fail h_wrong h_goesOn s_3 (((s_3.2.1 7) ((s_3.1 11)).toNatClampNeg)) _ _ hf hK
      · have hf := mo_neg hf c_6
        by_cases c_9 : ((s_3.2.1 7) ((s_3.1 11)).toNatClampNeg) ≤ a1
        · have hf := mo_pos hf c_9
          refine mm_adv 19 (cs' := P_X12_bounded.drop 29) (l' := [(3, .int ((s_3.2.1 7) ((s_3.1 11)).toNatClampNeg)), (0, .ref 0), (1, .int a0), (2, .int a1)]) (st' := []) (h' := ms_H s_3) (bc' := 0) (bs' := 0) (fun n g => (And.intro (fun q => absurd q c_1) (fun _ => (h_is s ((2 : Int32)) v_3 s_3 _ hr_3 (And.intro (fun _ => (And.intro hi_5 (And.intro (fun q => absurd q c_6) (fun _ => (And.intro (fun _ => g) (fun q => absurd c_9 q)))))) (fun q => absurd c_4 q)))))) ?_
          refine mm_re (l' := [(0, .ref 0), (3, .int ((s_3.2.1 7) ((s_3.1 11)).toNatClampNeg))]) (c := [(0, .ref 0), (3, .int ((s_3.2.1 7) ((s_3.1 11)).toNatClampNeg))]) ?_ rfl rfl
          exact mb_bounded_j29 h_is h_fail h_wrong h_goesOn s_3 (((s_3.2.1 7) ((s_3.1 11)).toNatClampNeg)) _ _ hf hK
        · have hf := mo_neg hf c_9
          refine mm_adv 19 (cs' := P_X12_bounded.drop 24) (l' := [(3, .int ((s_3.2.1 7) ((s_3.1 11)).toNatClampNeg)), (0, .ref 0), (1, .int a0), (2, .int a1)]) (st' := []) (h' := ms_H s_3) (bc' := 0) (bs' := 0) (fun n g => (And.intro (fun q => absurd q c_1) (fun _ => (h_is s ((2 : Int32)) v_3 s_3 _ hr_3 (And.intro (fun _ => (And.intro hi_5 (And.intro (fun q => absurd q c_6) (fun _ => (And.intro (fun q => absurd q c_9) (fun _ => g)))))) (fun q => absurd c_4 q)))))) ?_
          refine mm_re (l' := [(0, .ref 0), (3, .int ((s_3.2.1 7) ((s_3.1 11)).toNatClampNeg))]) (c := [(0, .ref 0), (3, .int ((s_3.2.1 7) ((s_3.1 11)).toNatClampNeg))]) ?_ rfl rfl
          exact mb_bounded_j24 h_is h_fail h_wrong h_goesOn s_3 (((s_3.2.1 7) ((s_3.1 11)).toNatClampNeg)) _ _ hf hK
def mk_bounded (C : mm_C) : Prop := ∀ (s : ms_S) (a0 : Int32) (a1 : Int32) (v : Int32) (s2 : ms_S) (Q : mm_R), mf_bounded s a0 a1 = some (v, s2) → Q (some (.int v)) (ms_H s2) → C 25 [.ref 0, .int a0, .int a1] (ms_H s) Q
set_option maxRecDepth 100000 in
theorem mt_bounded (B : mm_C) (d : Nat) : mk_bounded (mm_ct B mm_Mk mm_Fk mm_PC (d + 3)) := fun s a0 a1 v s2 Q hf hK => Or.inr (mb_bounded (mt_is B (d + 1)) (mt_fail B (d + 1)) (mt_wrong B (d + 1)) (mt_goesOn B (d + 0)) s a0 a1 v s2 hf hK)
-- X12_endsName
noncomputable def mf_endsName (s : ms_S) (a0 : Int32) (a1 : Int32) : Option (ms_S) :=
((mf_must s ((4 : Int32))).bind fun s_1 =>
(if (s_1.1 13) ≤ (0 : Int32) then
((mo_al 403 (s_1.2.2 8) a0).bind fun x_3 =>
(bif mo_in (s_1.1 20) 11 then (bif mo_in (s_1.1 20) 11 then some (ms_sL (ms_sA (ms_sI s_1 20 (((s_1.1 20) + (1 : Int32)))) 22 (upd (s_1.2.1 22) ((s_1.1 20)).toNatClampNeg (a1))) 21 (vp_updL (s_1.2.2 21) ((s_1.1 20)).toNatClampNeg (x_3))) else none) else none))
else
some s_1))
set_option maxHeartbeats 4000000 in
theorem mb_endsName {C : mm_C} {Q : mm_R} (h_must : mk_must C) (s : ms_S) (a0 : Int32) (a1 : Int32) (s2 : ms_S) (hf : mf_endsName s a0 a1 = some s2) (hK : Q (none) (ms_H s2)) : mm_go C mm_Mk mm_Fk P_X12_endsName Q P_X12_endsName [(0, .ref 0), (1, .int a0), (2, .int a1)] [] (ms_H s) 0 0 := by
  unfold mf_endsName at hf
  obtain ⟨s_1, hr_1, hf⟩ := mo_bind hf
  by_cases c_2 : (s_1.1 13) ≤ (0 : Int32)
  · have hf := mo_pos hf c_2
    obtain ⟨x_3, hx_3, hf⟩ := mo_bind hf
    obtain ⟨hi_3, rfl⟩ := mo_al_inv hx_3
    obtain ⟨hi_4, hf⟩ := mo_if hf
    obtain ⟨hi_5, hf⟩ := mo_if hf
    obtain rfl := Option.some.inj hf
    exact ⟨28, (h_must s ((4 : Int32)) s_1 _ hr_1 (And.intro (fun _ => (And.intro hi_3 (And.intro hi_4 (And.intro hi_5 (And.intro trivial hK))))) (fun q => absurd c_2 q)))⟩
  · have hf := mo_neg hf c_2
    obtain rfl := Option.some.inj hf
    exact ⟨7, (h_must s ((4 : Int32)) s_1 _ hr_1 (And.intro (fun q => absurd q c_2) (fun _ => hK)))⟩
def mk_endsName (C : mm_C) : Prop := ∀ (s : ms_S) (a0 : Int32) (a1 : Int32) (s2 : ms_S) (Q : mm_R), mf_endsName s a0 a1 = some s2 → Q (none) (ms_H s2) → C 23 [.ref 0, .int a0, .int a1] (ms_H s) Q
set_option maxRecDepth 100000 in
theorem mt_endsName (B : mm_C) (d : Nat) : mk_endsName (mm_ct B mm_Mk mm_Fk mm_PC (d + 4)) := fun s a0 a1 s2 Q hf hK => Or.inr (mb_endsName (mt_must B (d + 0)) s a0 a1 s2 hf hK)
-- X12_known
noncomputable def mf_known_j38 (s : ms_S) (v1 : Int32) (v2 : Int32) : Option ((Int32 × ms_S) ⊕ ((Int32 × ms_S) ⊕ (ms_S))) :=
some (.inl ((v2 + (1 : Int32)), s))
set_option maxHeartbeats 4000000 in
theorem mb_known_j38 {C : mm_C} {Q : mm_R} (h_must : mk_must C) (h_wrong : mk_wrong C) (s : ms_S) (v1 : Int32) (v2 : Int32) (r : (Int32 × ms_S) ⊕ ((Int32 × ms_S) ⊕ (ms_S))) (hf : mf_known_j38 s v1 v2 = some r) (hK : mo_sum (mo_c2 (fun y2 sy => mm_go C mm_Mk mm_Fk P_X12_known Q (P_X12_known.drop 13) [(0, .ref 0), (1, .int v1), (2, .int y2)] [] (ms_H sy) 0 0))  (mo_sum (mo_c2 (fun y2 sy => mm_go C mm_Mk mm_Fk P_X12_known Q (P_X12_known.drop 33) [(0, .ref 0), (2, .int y2)] [] (ms_H sy) 0 0)) (fun sy => mm_go C mm_Mk mm_Fk P_X12_known Q (P_X12_known.drop 40) [(0, .ref 0), (1, .int v1)] [] (ms_H sy) 0 0))  r) : mm_go C mm_Mk mm_Fk P_X12_known Q (P_X12_known.drop 38) [(0, .ref 0), (1, .int v1), (2, .int v2)] [] (ms_H s) 0 0 := by
  unfold mf_known_j38 at hf
  obtain rfl := Option.some.inj hf
  refine mm_adv 2 (cs' := P_X12_known.drop 13) (l' := [(2, .int (v2 + (1 : Int32))), (0, .ref 0), (1, .int v1)]) (st' := []) (h' := ms_H s) (bc' := 0) (bs' := 0) (fun n g => g) ?_
  exact mm_re (c := [(0, .ref 0), (1, .int v1), (2, .int (v2 + (1 : Int32)))]) hK rfl rfl
noncomputable def mf_known_l13 (v1 : Int32) : (Int32 × ms_S) → Option ((Int32 × ms_S) ⊕ ((Int32 × ms_S) ⊕ (ms_S))) := fun (w2, s) =>
(if (s.1 20) ≤ w2 then
some (.inr (.inr (s)))
else
((mo_al 11 (s.2.2 21) w2).bind fun x_4 =>
((mo_al 403 (s.2.2 8) v1).bind fun x_5 =>
(if (lg_cmp x_4 x_5) = (0 : Int32) then
((mo_ag 11 (s.2.1 22) w2).bind fun x_7 =>
(if (10 : Int32) ≤ x_7 then
(mf_known_j38 (s) (v1) (w2))
else
some (.inr (.inl (w2, s)))))
else
(mf_known_j38 (s) (v1) (w2))))))
set_option maxHeartbeats 4000000 in
theorem mb_known_l13 {C : mm_C} {Q : mm_R} (h_must : mk_must C) (h_wrong : mk_wrong C) (v1 : Int32) (t : Int32 × ms_S) (x : (Int32 × ms_S) ⊕ (ms_S)) (hl : mo_loop (mf_known_l13 v1) t = some x) (hK : (mo_sum (mo_c2 (fun y2 sy => mm_go C mm_Mk mm_Fk P_X12_known Q (P_X12_known.drop 33) [(0, .ref 0), (2, .int y2)] [] (ms_H sy) 0 0)) (fun sy => mm_go C mm_Mk mm_Fk P_X12_known Q (P_X12_known.drop 40) [(0, .ref 0), (1, .int v1)] [] (ms_H sy) 0 0)) x) : (mo_c2 (fun y2 sy => mm_go C mm_Mk mm_Fk P_X12_known Q (P_X12_known.drop 13) [(0, .ref 0), (1, .int v1), (2, .int y2)] [] (ms_H sy) 0 0)) t := by
  refine mo_loop_go (G := (mo_c2 (fun y2 sy => mm_go C mm_Mk mm_Fk P_X12_known Q (P_X12_known.drop 13) [(0, .ref 0), (1, .int v1), (2, .int y2)] [] (ms_H sy) 0 0)) ) (K := (mo_sum (mo_c2 (fun y2 sy => mm_go C mm_Mk mm_Fk P_X12_known Q (P_X12_known.drop 33) [(0, .ref 0), (2, .int y2)] [] (ms_H sy) 0 0)) (fun sy => mm_go C mm_Mk mm_Fk P_X12_known Q (P_X12_known.drop 40) [(0, .ref 0), (1, .int v1)] [] (ms_H sy) 0 0)) ) ?_ t x hl hK
  intro t r hf hK
  obtain ⟨w2, s⟩ := t
  unfold mf_known_l13 at hf
  by_cases c_3 : (s.1 20) ≤ w2
  · have hf := mo_pos hf c_3
    obtain rfl := Option.some.inj hf
    refine mm_adv 4 (cs' := P_X12_known.drop 40) (l' := [(0, .ref 0), (1, .int v1), (2, .int w2)]) (st' := []) (h' := ms_H s) (bc' := 0) (bs' := 0) (fun n g => (And.intro (fun _ => g) (fun q => absurd c_3 q))) ?_
    exact mm_re (c := [(0, .ref 0), (1, .int v1)]) hK rfl rfl
  · have hf := mo_neg hf c_3
    obtain ⟨x_4, hx_4, hf⟩ := mo_bind hf
    obtain ⟨hi_4, rfl⟩ := mo_al_inv hx_4
    obtain ⟨x_5, hx_5, hf⟩ := mo_bind hf
    obtain ⟨hi_5, rfl⟩ := mo_al_inv hx_5
    by_cases c_6 : (lg_cmp ((s.2.2 21) (w2).toNatClampNeg) ((s.2.2 8) (v1).toNatClampNeg)) = (0 : Int32)
    · have hf := mo_pos hf c_6
      obtain ⟨x_7, hx_7, hf⟩ := mo_bind hf
      obtain ⟨hi_7, rfl⟩ := mo_ag_inv hx_7
      by_cases c_8 : (10 : Int32) ≤ ((s.2.1 22) (w2).toNatClampNeg)
      · have hf := mo_pos hf c_8
        refine mm_adv 20 (cs' := P_X12_known.drop 38) (l' := [(0, .ref 0), (1, .int v1), (2, .int w2)]) (st' := []) (h' := ms_H s) (bc' := 0) (bs' := 0) (fun n g => (And.intro (fun q => absurd q c_3) (fun _ => (And.intro hi_4 (And.intro hi_5 (And.intro (fun q => absurd c_6 q) (fun _ => (And.intro hi_7 (And.intro (fun _ => g) (fun q => absurd c_8 q)))))))))) ?_
        refine mm_re (l' := [(0, .ref 0), (1, .int v1), (2, .int w2)]) (c := [(0, .ref 0), (1, .int v1), (2, .int w2)]) ?_ rfl rfl
        exact mb_known_j38 h_must h_wrong s (v1) (w2) _ hf hK
      · have hf := mo_neg hf c_8
        obtain rfl := Option.some.inj hf
        refine mm_adv 20 (cs' := P_X12_known.drop 33) (l' := [(0, .ref 0), (1, .int v1), (2, .int w2)]) (st' := []) (h' := ms_H s) (bc' := 0) (bs' := 0) (fun n g => (And.intro (fun q => absurd q c_3) (fun _ => (And.intro hi_4 (And.intro hi_5 (And.intro (fun q => absurd c_6 q) (fun _ => (And.intro hi_7 (And.intro (fun q => absurd q c_8) (fun _ => g)))))))))) ?_
        exact mm_re (c := [(0, .ref 0), (2, .int w2)]) hK rfl rfl
    · have hf := mo_neg hf c_6
      refine mm_adv 14 (cs' := P_X12_known.drop 38) (l' := [(0, .ref 0), (1, .int v1), (2, .int w2)]) (st' := []) (h' := ms_H s) (bc' := 0) (bs' := 0) (fun n g => (And.intro (fun q => absurd q c_3) (fun _ => (And.intro hi_4 (And.intro hi_5 (And.intro (fun _ => g) (fun q => absurd c_6 q))))))) ?_
      refine mm_re (l' := [(0, .ref 0), (1, .int v1), (2, .int w2)]) (c := [(0, .ref 0), (1, .int v1), (2, .int w2)]) ?_ rfl rfl
      exact mb_known_j38 h_must h_wrong s (v1) (w2) _ hf hK
noncomputable def mf_known (s : ms_S)  : Option (Int32 × ms_S) :=
((mf_must s ((1 : Int32))).bind fun s_1 =>
(if (s_1.1 13) ≤ (0 : Int32) then
((mo_loop (mf_known_l13 ((s.1 11))) ((0 : Int32), s_1)).bind fun x_9 =>
match x_9 with
| (.inl (e2_9, s_9)) => ((mo_ag 11 (s_9.2.1 22) e2_9).bind fun x_10 =>
some (x_10, s_9))
| (.inr s_9) => ((mf_wrong s_9 ((4 : Int32)) ((s.1 11))).bind fun s_11 =>
some ((-1 : Int32), s_11))
)
else
some ((-1 : Int32), s_1)))
set_option maxHeartbeats 4000000 in
theorem mb_known {C : mm_C} {Q : mm_R} (h_must : mk_must C) (h_wrong : mk_wrong C) (s : ms_S)  (v : Int32) (s2 : ms_S) (hf : mf_known s = some (v, s2)) (hK : Q (some (.int v)) (ms_H s2)) : mm_go C mm_Mk mm_Fk P_X12_known Q P_X12_known [(0, .ref 0)] [] (ms_H s) 0 0 := by
  unfold mf_known at hf
  obtain ⟨s_1, hr_1, hf⟩ := mo_bind hf
  by_cases c_2 : (s_1.1 13) ≤ (0 : Int32)
  · have hf := mo_pos hf c_2
    obtain ⟨x_9, hl_9, hf⟩ := mo_bind hf
    refine mm_adv 11 (cs' := P_X12_known.drop 13) (l' := [(2, .int (0 : Int32)), (1, .int (s.1 11)), (0, .ref 0)]) (st' := []) (h' := ms_H s_1) (bc' := 0) (bs' := 0) (fun n g => (h_must s ((1 : Int32)) s_1 _ hr_1 (And.intro (fun _ => g) (fun q => absurd c_2 q)))) ?_
    refine mm_re (l' := [(0, .ref 0), (1, .int (s.1 11)), (2, .int (0 : Int32))]) (c := [(0, .ref 0), (1, .int (s.1 11)), (2, .int (0 : Int32))]) ?_ rfl rfl
    refine mb_known_l13 h_must h_wrong ((s.1 11)) ((0 : Int32), s_1) x_9 hl_9 ?_
    cases x_9 with
    | inl y_9 =>
      obtain ⟨e2_9, s_9⟩ := y_9
      obtain ⟨x_10, hx_10, hf⟩ := mo_bind hf
      obtain ⟨hi_10, rfl⟩ := mo_ag_inv hx_10
      obtain ⟨rfl, rfl⟩ := mo_pair hf
      exact ⟨5, (And.intro hi_10 hK)⟩
    | inr z_9_0 =>
      obtain ⟨s_9, rfl⟩ : ∃ q, q = z_9_0 := ⟨_, rfl⟩
      obtain ⟨s_11, hr_11, hf⟩ := mo_bind hf
      obtain ⟨rfl, rfl⟩ := mo_pair hf
      exact ⟨6, (h_wrong s_9 ((4 : Int32)) ((s.1 11)) s_11 _ hr_11 hK)⟩
  · have hf := mo_neg hf c_2
    obtain ⟨rfl, rfl⟩ := mo_pair hf
    exact ⟨11, (h_must s ((1 : Int32)) s_1 _ hr_1 (And.intro (fun q => absurd q c_2) (fun _ => hK)))⟩
def mk_known (C : mm_C) : Prop := ∀ (s : ms_S)  (v : Int32) (s2 : ms_S) (Q : mm_R), mf_known s = some (v, s2) → Q (some (.int v)) (ms_H s2) → C 24 [.ref 0] (ms_H s) Q
set_option maxRecDepth 100000 in
theorem mt_known (B : mm_C) (d : Nat) : mk_known (mm_ct B mm_Mk mm_Fk mm_PC (d + 4)) := fun s v s2 Q hf hK => Or.inr (mb_known (mt_must B (d + 0)) (mt_wrong B (d + 2)) s v s2 hf hK)
-- X12_emit
noncomputable def mf_emit (s : ms_S) (a0 : Int32) (a1 : Int32) : Option (ms_S) :=
(bif mo_in (s.1 39) 840 then (bif mo_in (s.1 39) 840 then some (ms_sA (ms_sA (ms_sI s 39 (((s.1 39) + (1 : Int32)))) 40 (upd (s.2.1 40) ((s.1 39)).toNatClampNeg (a0))) 41 (upd (s.2.1 41) ((s.1 39)).toNatClampNeg (a1))) else none) else none)
set_option maxHeartbeats 4000000 in
theorem mb_emit {C : mm_C} {Q : mm_R}  (s : ms_S) (a0 : Int32) (a1 : Int32) (s2 : ms_S) (hf : mf_emit s a0 a1 = some s2) (hK : Q (none) (ms_H s2)) : mm_go C mm_Mk mm_Fk P_X12_emit Q P_X12_emit [(0, .ref 0), (1, .int a0), (2, .int a1)] [] (ms_H s) 0 0 := by
  unfold mf_emit at hf
  obtain ⟨hi_1, hf⟩ := mo_if hf
  obtain ⟨hi_2, hf⟩ := mo_if hf
  obtain rfl := Option.some.inj hf
  exact ⟨19, (And.intro hi_1 (And.intro hi_2 (And.intro trivial hK)))⟩
def mk_emit (C : mm_C) : Prop := ∀ (s : ms_S) (a0 : Int32) (a1 : Int32) (s2 : ms_S) (Q : mm_R), mf_emit s a0 a1 = some s2 → Q (none) (ms_H s2) → C 28 [.ref 0, .int a0, .int a1] (ms_H s) Q
set_option maxRecDepth 100000 in
theorem mt_emit (B : mm_C) (d : Nat) : mk_emit (mm_ct B mm_Mk mm_Fk mm_PC (d + 1)) := fun s a0 a1 s2 Q hf hK => Or.inr (mb_emit  s a0 a1 s2 hf hK)
-- X12_unit
noncomputable def mf_unit_j45 (s : ms_S)  : Option (ms_S) :=
((mf_fail s ((1 : Int32))).bind fun s_6 =>
some s_6)
set_option maxHeartbeats 4000000 in
theorem mb_unit_j45 {C : mm_C} {Q : mm_R} (h_is : mk_is C) (h_emit : mk_emit C) (h_goesOn : mk_goesOn C) (h_fail : mk_fail C) (s : ms_S)  (s2 : ms_S) (hf : mf_unit_j45 s = some s2) (hK : Q (none) (ms_H s2)) : mm_go C mm_Mk mm_Fk P_X12_unit Q (P_X12_unit.drop 45) [(0, .ref 0)] [] (ms_H s) 0 0 := by
  unfold mf_unit_j45 at hf
  obtain ⟨s_6, hr_6, hf⟩ := mo_bind hf
  obtain rfl := Option.some.inj hf
  exact ⟨4, (h_fail s ((1 : Int32)) s_6 _ hr_6 hK)⟩
noncomputable def mf_unit (s : ms_S)  : Option (ms_S) :=
((mf_is s ((2 : Int32))).bind fun (v_1, s_1) =>
(if v_1 = (0 : Int32) then
(if (s_1.1 13) = (0 : Int32) then
((mo_ag 403 (s_1.2.1 5) (s_1.1 11)).bind fun x_4 =>
(if x_4 < (32 : Int32) then
(mf_unit_j45 (s_1))
else
((mo_ag 403 (s_1.2.1 5) (s_1.1 11)).bind fun x_7 =>
(if (40 : Int32) < x_7 then
(mf_unit_j45 (s_1))
else
((mo_ag 403 (s_1.2.1 5) (s_1.1 11)).bind fun x_9 =>
((mf_emit s_1 ((1 : Int32)) ((x_9 - (32 : Int32)))).bind fun s_10 =>
((mf_goesOn s_10 ).bind fun s_11 =>
some s_11)))))))
else
(mf_unit_j45 (s_1)))
else
((mo_ag 403 (s_1.2.1 7) (s_1.1 11)).bind fun x_12 =>
((mf_emit s_1 ((0 : Int32)) (x_12)).bind fun s_13 =>
((mf_goesOn s_13 ).bind fun s_14 =>
some s_14)))))
set_option maxHeartbeats 4000000 in
theorem mb_unit {C : mm_C} {Q : mm_R} (h_is : mk_is C) (h_emit : mk_emit C) (h_goesOn : mk_goesOn C) (h_fail : mk_fail C) (s : ms_S)  (s2 : ms_S) (hf : mf_unit s = some s2) (hK : Q (none) (ms_H s2)) : mm_go C mm_Mk mm_Fk P_X12_unit Q P_X12_unit [(0, .ref 0)] [] (ms_H s) 0 0 := by
  unfold mf_unit at hf
  obtain ⟨r_1, hr_1, hf⟩ := mo_bind hf
  obtain ⟨v_1, s_1⟩ := r_1
  by_cases c_2 : v_1 = (0 : Int32)
  · have hf := mo_pos hf c_2
    by_cases c_3 : (s_1.1 13) = (0 : Int32)
    · have hf := mo_pos hf c_3
      obtain ⟨x_4, hx_4, hf⟩ := mo_bind hf
      obtain ⟨hi_4, rfl⟩ := mo_ag_inv hx_4
      by_cases c_5 : ((s_1.2.1 5) ((s_1.1 11)).toNatClampNeg) < (32 : Int32)
      · have hf := mo_pos hf c_5
        refine mm_adv 14 (cs' := P_X12_unit.drop 45) (l' := [(0, .ref 0)]) (st' := []) (h' := ms_H s_1) (bc' := 0) (bs' := 0) (fun n g => (h_is s ((2 : Int32)) v_1 s_1 _ hr_1 (And.intro (fun _ => (And.intro (fun q => absurd c_3 q) (fun _ => (And.intro hi_4 (And.intro (fun _ => g) (fun q => absurd c_5 q)))))) (fun q => absurd c_2 q)))) ?_
        refine mm_re (l' := [(0, .ref 0)]) (c := [(0, .ref 0)]) ?_ rfl rfl
        exact mb_unit_j45 h_is h_emit h_goesOn h_fail s_1 _ hf hK
      · have hf := mo_neg hf c_5
        obtain ⟨x_7, hx_7, hf⟩ := mo_bind hf
        obtain ⟨hi_7, rfl⟩ := mo_ag_inv hx_7
        by_cases c_8 : (40 : Int32) < ((s_1.2.1 5) ((s_1.1 11)).toNatClampNeg)
        · have hf := mo_pos hf c_8
          refine mm_adv 21 (cs' := P_X12_unit.drop 45) (l' := [(0, .ref 0)]) (st' := []) (h' := ms_H s_1) (bc' := 0) (bs' := 0) (fun n g => (h_is s ((2 : Int32)) v_1 s_1 _ hr_1 (And.intro (fun _ => (And.intro (fun q => absurd c_3 q) (fun _ => (And.intro hi_4 (And.intro (fun q => absurd q c_5) (fun _ => (And.intro hi_7 (And.intro (fun _ => g) (fun q => absurd c_8 q))))))))) (fun q => absurd c_2 q)))) ?_
          refine mm_re (l' := [(0, .ref 0)]) (c := [(0, .ref 0)]) ?_ rfl rfl
          exact mb_unit_j45 h_is h_emit h_goesOn h_fail s_1 _ hf hK
        · have hf := mo_neg hf c_8
          obtain ⟨x_9, hx_9, hf⟩ := mo_bind hf
          obtain ⟨hi_9, rfl⟩ := mo_ag_inv hx_9
          obtain ⟨s_10, hr_10, hf⟩ := mo_bind hf
          obtain ⟨s_11, hr_11, hf⟩ := mo_bind hf
          obtain rfl := Option.some.inj hf
          exact ⟨35, (h_is s ((2 : Int32)) v_1 s_1 _ hr_1 (And.intro (fun _ => (And.intro (fun q => absurd c_3 q) (fun _ => (And.intro hi_4 (And.intro (fun q => absurd q c_5) (fun _ => (And.intro hi_7 (And.intro (fun q => absurd q c_8) (fun _ => (And.intro hi_9 (h_emit s_1 ((1 : Int32)) ((((s_1.2.1 5) ((s_1.1 11)).toNatClampNeg) - (32 : Int32))) s_10 _ hr_10 (h_goesOn s_10  s_11 _ hr_11 hK)))))))))))) (fun q => absurd c_2 q)))⟩
    · have hf := mo_neg hf c_3
      refine mm_adv 7 (cs' := P_X12_unit.drop 45) (l' := [(0, .ref 0)]) (st' := []) (h' := ms_H s_1) (bc' := 0) (bs' := 0) (fun n g => (h_is s ((2 : Int32)) v_1 s_1 _ hr_1 (And.intro (fun _ => (And.intro (fun _ => g) (fun q => absurd c_3 q))) (fun q => absurd c_2 q)))) ?_
      refine mm_re (l' := [(0, .ref 0)]) (c := [(0, .ref 0)]) ?_ rfl rfl
      exact mb_unit_j45 h_is h_emit h_goesOn h_fail s_1 _ hf hK
  · have hf := mo_neg hf c_2
    obtain ⟨x_12, hx_12, hf⟩ := mo_bind hf
    obtain ⟨hi_12, rfl⟩ := mo_ag_inv hx_12
    obtain ⟨s_13, hr_13, hf⟩ := mo_bind hf
    obtain ⟨s_14, hr_14, hf⟩ := mo_bind hf
    obtain rfl := Option.some.inj hf
    exact ⟨16, (h_is s ((2 : Int32)) v_1 s_1 _ hr_1 (And.intro (fun q => absurd q c_2) (fun _ => (And.intro hi_12 (h_emit s_1 ((0 : Int32)) (((s_1.2.1 7) ((s_1.1 11)).toNatClampNeg)) s_13 _ hr_13 (h_goesOn s_13  s_14 _ hr_14 hK))))))⟩
def mk_unit (C : mm_C) : Prop := ∀ (s : ms_S)  (s2 : ms_S) (Q : mm_R), mf_unit s = some s2 → Q (none) (ms_H s2) → C 31 [.ref 0] (ms_H s) Q
set_option maxRecDepth 100000 in
theorem mt_unit (B : mm_C) (d : Nat) : mk_unit (mm_ct B mm_Mk mm_Fk mm_PC (d + 3)) := fun s s2 Q hf hK => Or.inr (mb_unit (mt_is B (d + 1)) (mt_emit B (d + 1)) (mt_goesOn B (d + 0)) (mt_fail B (d + 1)) s s2 hf hK)
-- X12_comesOut
noncomputable def mf_comesOut_j46 (s : ms_S) (v1 : Int32) (k0 : Int32) : Option ((ms_S) ⊕ ((ms_S) ⊕ (ms_S))) :=
((mf_emit s (k0) ((0 : Int32))).bind fun s_6 =>
some (.inl (s_6)))
set_option maxHeartbeats 4000000 in
theorem mb_comesOut_j46 {C : mm_C} {Q : mm_R} (h_emit : mk_emit C) (s : ms_S) (v1 : Int32) (k0 : Int32) (r : (ms_S) ⊕ ((ms_S) ⊕ (ms_S))) (hf : mf_comesOut_j46 s v1 k0 = some r) (hK : mo_sum (fun sy => mm_go C mm_Mk mm_Fk P_X12_comesOut Q P_X12_comesOut [(0, .ref 0), (1, .int v1)] [] (ms_H sy) 0 0)  (mo_sum (fun sy => mm_go C mm_Mk mm_Fk P_X12_comesOut Q (P_X12_comesOut.drop 22) [] [] (ms_H sy) 0 0) (fun sy => mm_go C mm_Mk mm_Fk P_X12_comesOut Q (P_X12_comesOut.drop 49) [] [] (ms_H sy) 0 0))  r) : mm_go C mm_Mk mm_Fk P_X12_comesOut Q (P_X12_comesOut.drop 46) [(0, .ref 0), (1, .int v1)] [.int k0, .ref 0] (ms_H s) 0 0 := by
  unfold mf_comesOut_j46 at hf
  obtain ⟨s_6, hr_6, hf⟩ := mo_bind hf
  obtain rfl := Option.some.inj hf
  refine mm_adv 3 (cs' := P_X12_comesOut.drop 0) (l' := [(0, .ref 0), (1, .int v1)]) (st' := []) (h' := ms_H s_6) (bc' := 0) (bs' := 0) (fun n g => (h_emit s (k0) ((0 : Int32)) s_6 _ hr_6 g)) ?_
  exact mm_re (c := [(0, .ref 0), (1, .int v1)]) hK rfl rfl
noncomputable def mf_comesOut_j23 (s : ms_S) (v1 : Int32) (v2 : Int32) : Option ((ms_S) ⊕ ((ms_S) ⊕ (ms_S))) :=
(if v2 = (8 : Int32) then
(mf_comesOut_j46 ((ms_sI s 43 (((s.1 43) - (1 : Int32))))) (v1) ((2 : Int32)))
else
(if v2 = (9 : Int32) then
(mf_comesOut_j46 ((ms_sI s 43 (((s.1 43) - (1 : Int32))))) (v1) ((3 : Int32)))
else
(if v2 = (10 : Int32) then
(mf_comesOut_j46 ((ms_sI s 43 (((s.1 43) - (1 : Int32))))) (v1) ((4 : Int32)))
else
(mf_comesOut_j46 ((ms_sI s 43 (((s.1 43) - (1 : Int32))))) (v1) ((5 : Int32))))))
set_option maxHeartbeats 4000000 in
theorem mb_comesOut_j23 {C : mm_C} {Q : mm_R} (h_emit : mk_emit C) (s : ms_S) (v1 : Int32) (v2 : Int32) (r : (ms_S) ⊕ ((ms_S) ⊕ (ms_S))) (hf : mf_comesOut_j23 s v1 v2 = some r) (hK : mo_sum (fun sy => mm_go C mm_Mk mm_Fk P_X12_comesOut Q P_X12_comesOut [(0, .ref 0), (1, .int v1)] [] (ms_H sy) 0 0)  (mo_sum (fun sy => mm_go C mm_Mk mm_Fk P_X12_comesOut Q (P_X12_comesOut.drop 22) [] [] (ms_H sy) 0 0) (fun sy => mm_go C mm_Mk mm_Fk P_X12_comesOut Q (P_X12_comesOut.drop 49) [] [] (ms_H sy) 0 0))  r) : mm_go C mm_Mk mm_Fk P_X12_comesOut Q (P_X12_comesOut.drop 23) [(0, .ref 0), (1, .int v1), (2, .int v2)] [] (ms_H s) 0 0 := by
  unfold mf_comesOut_j23 at hf
  by_cases c_5 : v2 = (8 : Int32)
  · have hf := mo_pos hf c_5
    refine mm_adv 12 (cs' := P_X12_comesOut.drop 46) (l' := [(0, .ref 0), (1, .int v1), (2, .int v2)]) (st' := [.int (2 : Int32), .ref 0]) (h' := ms_H (ms_sI s 43 (((s.1 43) - (1 : Int32))))) (bc' := 0) (bs' := 0) (fun n g => (And.intro trivial (And.intro (fun q => absurd c_5 q) (fun _ => g)))) ?_
    refine mm_re (l' := [(0, .ref 0), (1, .int v1)]) (c := [(0, .ref 0), (1, .int v1)]) ?_ rfl rfl
    exact mb_comesOut_j46 h_emit (ms_sI s 43 (((s.1 43) - (1 : Int32)))) (v1) ((2 : Int32)) _ hf hK
  · have hf := mo_neg hf c_5
    by_cases c_7 : v2 = (9 : Int32)
    · have hf := mo_pos hf c_7
      refine mm_adv 15 (cs' := P_X12_comesOut.drop 46) (l' := [(0, .ref 0), (1, .int v1), (2, .int v2)]) (st' := [.int (3 : Int32), .ref 0]) (h' := ms_H (ms_sI s 43 (((s.1 43) - (1 : Int32))))) (bc' := 0) (bs' := 0) (fun n g => (And.intro trivial (And.intro (fun _ => (And.intro (fun q => absurd c_7 q) (fun _ => g))) (fun q => absurd c_5 q)))) ?_
      refine mm_re (l' := [(0, .ref 0), (1, .int v1)]) (c := [(0, .ref 0), (1, .int v1)]) ?_ rfl rfl
      exact mb_comesOut_j46 h_emit (ms_sI s 43 (((s.1 43) - (1 : Int32)))) (v1) ((3 : Int32)) _ hf hK
    · have hf := mo_neg hf c_7
      by_cases c_8 : v2 = (10 : Int32)
      · have hf := mo_pos hf c_8
        refine mm_adv 18 (cs' := P_X12_comesOut.drop 46) (l' := [(0, .ref 0), (1, .int v1), (2, .int v2)]) (st' := [.int (4 : Int32), .ref 0]) (h' := ms_H (ms_sI s 43 (((s.1 43) - (1 : Int32))))) (bc' := 0) (bs' := 0) (fun n g => (And.intro trivial (And.intro (fun _ => (And.intro (fun _ => (And.intro (fun q => absurd c_8 q) (fun _ => g))) (fun q => absurd c_7 q))) (fun q => absurd c_5 q)))) ?_
        refine mm_re (l' := [(0, .ref 0), (1, .int v1)]) (c := [(0, .ref 0), (1, .int v1)]) ?_ rfl rfl
        exact mb_comesOut_j46 h_emit (ms_sI s 43 (((s.1 43) - (1 : Int32)))) (v1) ((4 : Int32)) _ hf hK
      · have hf := mo_neg hf c_8
        refine mm_adv 17 (cs' := P_X12_comesOut.drop 46) (l' := [(0, .ref 0), (1, .int v1), (2, .int v2)]) (st' := [.int (5 : Int32), .ref 0]) (h' := ms_H (ms_sI s 43 (((s.1 43) - (1 : Int32))))) (bc' := 0) (bs' := 0) (fun n g => (And.intro trivial (And.intro (fun _ => (And.intro (fun _ => (And.intro (fun _ => g) (fun q => absurd c_8 q))) (fun q => absurd c_7 q))) (fun q => absurd c_5 q)))) ?_
        refine mm_re (l' := [(0, .ref 0), (1, .int v1)]) (c := [(0, .ref 0), (1, .int v1)]) ?_ rfl rfl
        exact mb_comesOut_j46 h_emit (ms_sI s 43 (((s.1 43) - (1 : Int32)))) (v1) ((5 : Int32)) _ hf hK
noncomputable def mf_comesOut_l0 (v1 : Int32) : (ms_S) → Option ((ms_S) ⊕ ((ms_S) ⊕ (ms_S))) := fun s =>
(if (s.1 43) ≤ (0 : Int32) then
some (.inr (.inr (s)))
else
((mo_ag 64 (s.2.1 42) ((s.1 43) - (1 : Int32))).bind fun x_2 =>
(if x_2 = (6 : Int32) then
some (.inr (.inl (s)))
else
(if v1 = (0 : Int32) then
(mf_comesOut_j23 (s) (v1) (x_2))
else
(if x_2 = (8 : Int32) then
some (.inr (.inl (s)))
else
(if x_2 = (9 : Int32) then
some (.inr (.inl (s)))
else
(mf_comesOut_j23 (s) (v1) (x_2))))))))
set_option maxHeartbeats 4000000 in
theorem mb_comesOut_l0 {C : mm_C} {Q : mm_R} (h_emit : mk_emit C) (v1 : Int32) (t : ms_S) (x : (ms_S) ⊕ (ms_S)) (hl : mo_loop (mf_comesOut_l0 v1) t = some x) (hK : (mo_sum (fun sy => mm_go C mm_Mk mm_Fk P_X12_comesOut Q (P_X12_comesOut.drop 22) [] [] (ms_H sy) 0 0) (fun sy => mm_go C mm_Mk mm_Fk P_X12_comesOut Q (P_X12_comesOut.drop 49) [] [] (ms_H sy) 0 0)) x) : (fun sy => mm_go C mm_Mk mm_Fk P_X12_comesOut Q P_X12_comesOut [(0, .ref 0), (1, .int v1)] [] (ms_H sy) 0 0) t := by
  refine mo_loop_go (G := (fun sy => mm_go C mm_Mk mm_Fk P_X12_comesOut Q P_X12_comesOut [(0, .ref 0), (1, .int v1)] [] (ms_H sy) 0 0) ) (K := (mo_sum (fun sy => mm_go C mm_Mk mm_Fk P_X12_comesOut Q (P_X12_comesOut.drop 22) [] [] (ms_H sy) 0 0) (fun sy => mm_go C mm_Mk mm_Fk P_X12_comesOut Q (P_X12_comesOut.drop 49) [] [] (ms_H sy) 0 0)) ) ?_ t x hl hK
  intro t r hf hK
  obtain ⟨s, rfl⟩ : ∃ q, q = t := ⟨_, rfl⟩
  unfold mf_comesOut_l0 at hf
  by_cases c_1 : (s.1 43) ≤ (0 : Int32)
  · have hf := mo_pos hf c_1
    obtain rfl := Option.some.inj hf
    refine mm_adv 3 (cs' := P_X12_comesOut.drop 49) (l' := [(0, .ref 0), (1, .int v1)]) (st' := []) (h' := ms_H s) (bc' := 0) (bs' := 0) (fun n g => (And.intro (fun _ => g) (fun q => absurd c_1 q))) ?_
    exact mm_re (c := []) hK rfl rfl
  · have hf := mo_neg hf c_1
    obtain ⟨x_2, hx_2, hf⟩ := mo_bind hf
    obtain ⟨hi_2, rfl⟩ := mo_ag_inv hx_2
    by_cases c_3 : ((s.2.1 42) (((s.1 43) - (1 : Int32))).toNatClampNeg) = (6 : Int32)
    · have hf := mo_pos hf c_3
      obtain rfl := Option.some.inj hf
      refine mm_adv 14 (cs' := P_X12_comesOut.drop 22) (l' := [(2, .int ((s.2.1 42) (((s.1 43) - (1 : Int32))).toNatClampNeg)), (0, .ref 0), (1, .int v1)]) (st' := []) (h' := ms_H s) (bc' := 0) (bs' := 0) (fun n g => (And.intro (fun q => absurd q c_1) (fun _ => (And.intro hi_2 (And.intro (fun _ => g) (fun q => absurd c_3 q)))))) ?_
      exact mm_re (c := []) hK rfl rfl
    · have hf := mo_neg hf c_3
      by_cases c_4 : v1 = (0 : Int32)
      · have hf := mo_pos hf c_4
        refine mm_adv 16 (cs' := P_X12_comesOut.drop 23) (l' := [(2, .int ((s.2.1 42) (((s.1 43) - (1 : Int32))).toNatClampNeg)), (0, .ref 0), (1, .int v1)]) (st' := []) (h' := ms_H s) (bc' := 0) (bs' := 0) (fun n g => (And.intro (fun q => absurd q c_1) (fun _ => (And.intro hi_2 (And.intro (fun q => absurd q c_3) (fun _ => (And.intro (fun _ => g) (fun q => absurd c_4 q)))))))) ?_
        refine mm_re (l' := [(0, .ref 0), (1, .int v1), (2, .int ((s.2.1 42) (((s.1 43) - (1 : Int32))).toNatClampNeg))]) (c := [(0, .ref 0), (1, .int v1), (2, .int ((s.2.1 42) (((s.1 43) - (1 : Int32))).toNatClampNeg))]) ?_ rfl rfl
        exact mb_comesOut_j23 h_emit s (v1) (((s.2.1 42) (((s.1 43) - (1 : Int32))).toNatClampNeg)) _ hf hK
      · have hf := mo_neg hf c_4
        by_cases c_9 : ((s.2.1 42) (((s.1 43) - (1 : Int32))).toNatClampNeg) = (8 : Int32)
        · have hf := mo_pos hf c_9
          obtain rfl := Option.some.inj hf
          refine mm_adv 19 (cs' := P_X12_comesOut.drop 22) (l' := [(2, .int ((s.2.1 42) (((s.1 43) - (1 : Int32))).toNatClampNeg)), (0, .ref 0), (1, .int v1)]) (st' := []) (h' := ms_H s) (bc' := 0) (bs' := 0) (fun n g => (And.intro (fun q => absurd q c_1) (fun _ => (And.intro hi_2 (And.intro (fun q => absurd q c_3) (fun _ => (And.intro (fun q => absurd q c_4) (fun _ => (And.intro (fun _ => g) (fun q => absurd c_9 q)))))))))) ?_
          exact mm_re (c := []) hK rfl rfl
        · have hf := mo_neg hf c_9
          by_cases c_10 : ((s.2.1 42) (((s.1 43) - (1 : Int32))).toNatClampNeg) = (9 : Int32)
          · have hf := mo_pos hf c_10
            obtain rfl := Option.some.inj hf
            refine mm_adv 22 (cs' := P_X12_comesOut.drop 22) (l' := [(2, .int ((s.2.1 42) (((s.1 43) - (1 : Int32))).toNatClampNeg)), (0, .ref 0), (1, .int v1)]) (st' := []) (h' := ms_H s) (bc' := 0) (bs' := 0) (fun n g => (And.intro (fun q => absurd q c_1) (fun _ => (And.intro hi_2 (And.intro (fun q => absurd q c_3) (fun _ => (And.intro (fun q => absurd q c_4) (fun _ => (And.intro (fun q => absurd q c_9) (fun _ => (And.intro (fun q => absurd c_10 q) (fun _ => g)))))))))))) ?_
            exact mm_re (c := []) hK rfl rfl
          · have hf := mo_neg hf c_10
            refine mm_adv 22 (cs' := P_X12_comesOut.drop 23) (l' := [(2, .int ((s.2.1 42) (((s.1 43) - (1 : Int32))).toNatClampNeg)), (0, .ref 0), (1, .int v1)]) (st' := []) (h' := ms_H s) (bc' := 0) (bs' := 0) (fun n g => (And.intro (fun q => absurd q c_1) (fun _ => (And.intro hi_2 (And.intro (fun q => absurd q c_3) (fun _ => (And.intro (fun q => absurd q c_4) (fun _ => (And.intro (fun q => absurd q c_9) (fun _ => (And.intro (fun _ => g) (fun q => absurd c_10 q)))))))))))) ?_
            refine mm_re (l' := [(0, .ref 0), (1, .int v1), (2, .int ((s.2.1 42) (((s.1 43) - (1 : Int32))).toNatClampNeg))]) (c := [(0, .ref 0), (1, .int v1), (2, .int ((s.2.1 42) (((s.1 43) - (1 : Int32))).toNatClampNeg))]) ?_ rfl rfl
            exact mb_comesOut_j23 h_emit s (v1) (((s.2.1 42) (((s.1 43) - (1 : Int32))).toNatClampNeg)) _ hf hK
noncomputable def mf_comesOut (s : ms_S) (a0 : Int32) : Option (ms_S) :=
((mo_loop (mf_comesOut_l0 (a0)) (s)).bind fun x_11 =>
match x_11 with
| (.inl s_11) => some s_11
| (.inr s_11) => some s_11
)
set_option maxHeartbeats 4000000 in
theorem mb_comesOut {C : mm_C} {Q : mm_R} (h_emit : mk_emit C) (s : ms_S) (a0 : Int32) (s2 : ms_S) (hf : mf_comesOut s a0 = some s2) (hK : Q (none) (ms_H s2)) : mm_go C mm_Mk mm_Fk P_X12_comesOut Q P_X12_comesOut [(0, .ref 0), (1, .int a0)] [] (ms_H s) 0 0 := by
  unfold mf_comesOut at hf
  obtain ⟨x_11, hl_11, hf⟩ := mo_bind hf
  refine mm_re (l' := [(0, .ref 0), (1, .int a0)]) (c := [(0, .ref 0), (1, .int a0)]) ?_ rfl rfl
  refine mb_comesOut_l0 h_emit (a0) (s) x_11 hl_11 ?_
  cases x_11 with
  | inl y_11 =>
    obtain ⟨s_11, rfl⟩ : ∃ q, q = y_11 := ⟨_, rfl⟩
    obtain rfl := Option.some.inj hf
    exact ⟨1, hK⟩
  | inr z_11_0 =>
    obtain ⟨s_11, rfl⟩ : ∃ q, q = z_11_0 := ⟨_, rfl⟩
    obtain rfl := Option.some.inj hf
    exact ⟨1, hK⟩
def mk_comesOut (C : mm_C) : Prop := ∀ (s : ms_S) (a0 : Int32) (s2 : ms_S) (Q : mm_R), mf_comesOut s a0 = some s2 → Q (none) (ms_H s2) → C 29 [.ref 0, .int a0] (ms_H s) Q
set_option maxRecDepth 100000 in
theorem mt_comesOut (B : mm_C) (d : Nat) : mk_comesOut (mm_ct B mm_Mk mm_Fk mm_PC (d + 2)) := fun s a0 s2 Q hf hK => Or.inr (mb_comesOut (mt_emit B (d + 0)) s a0 s2 hf hK)
-- X12_expression
noncomputable def mf_expression_j24 (s : ms_S) (v1 : Int32) : Option ((ms_S) ⊕ ((ms_S))) :=
((mf_goesOn (ms_sI s 12 (((s.1 12) + (1 : Int32)))) ).bind fun s_7 =>
(bif mo_in (s_7.1 43) 64 then some (.inl ((ms_sA (ms_sI s_7 43 (((s_7.1 43) + (1 : Int32)))) 42 (upd (s_7.2.1 42) ((s_7.1 43)).toNatClampNeg ((6 : Int32)))))) else none))
set_option maxHeartbeats 4000000 in
theorem mb_expression_j24 {C : mm_C} {Q : mm_R} (h_is : mk_is C) (h_fail : mk_fail C) (h_goesOn : mk_goesOn C) (h_unit : mk_unit C) (h_comesOut : mk_comesOut C) (s : ms_S) (v1 : Int32) (r : (ms_S) ⊕ ((ms_S))) (hf : mf_expression_j24 s v1 = some r) (hK : mo_sum (fun sy => mm_go C mm_Mk mm_Fk P_X12_expression Q (P_X12_expression.drop 13) [(0, .ref 0), (1, .int v1)] [] (ms_H sy) 0 0)  (fun sy => mm_go C mm_Mk mm_Fk P_X12_expression Q (P_X12_expression.drop 45) [(0, .ref 0), (1, .int v1)] [] (ms_H sy) 0 0)  r) : mm_go C mm_Mk mm_Fk P_X12_expression Q (P_X12_expression.drop 24) [(0, .ref 0), (1, .int v1)] [] (ms_H s) 0 0 := by
  unfold mf_expression_j24 at hf
  obtain ⟨s_7, hr_7, hf⟩ := mo_bind hf
  obtain ⟨hi_8, hf⟩ := mo_if hf
  obtain rfl := Option.some.inj hf
  refine mm_adv 21 (cs' := P_X12_expression.drop 13) (l' := [(0, .ref 0), (1, .int v1)]) (st' := []) (h' := ms_H (ms_sA (ms_sI s_7 43 (((s_7.1 43) + (1 : Int32)))) 42 (upd (s_7.2.1 42) ((s_7.1 43)).toNatClampNeg ((6 : Int32))))) (bc' := 0) (bs' := 0) (fun n g => (And.intro trivial (h_goesOn (ms_sI s 12 (((s.1 12) + (1 : Int32))))  s_7 _ hr_7 (And.intro hi_8 (And.intro trivial g))))) ?_
  exact mm_re (c := [(0, .ref 0), (1, .int v1)]) hK rfl rfl
noncomputable def mf_expression_l13 (v1 : Int32) : (ms_S) → Option ((ms_S) ⊕ ((ms_S))) := fun s =>
((mf_is s ((6 : Int32))).bind fun (v_3, s_3) =>
(if v_3 = (0 : Int32) then
some (.inr (s_3))
else
(if (s_3.1 12) = (6 : Int32) then
((mf_fail s_3 ((2 : Int32))).bind fun s_6 =>
(mf_expression_j24 (s_6) (v1)))
else
(mf_expression_j24 (s_3) (v1)))))
set_option maxHeartbeats 4000000 in
theorem mb_expression_l13 {C : mm_C} {Q : mm_R} (h_is : mk_is C) (h_fail : mk_fail C) (h_goesOn : mk_goesOn C) (h_unit : mk_unit C) (h_comesOut : mk_comesOut C) (v1 : Int32) (t : ms_S) (x : (ms_S)) (hl : mo_loop (mf_expression_l13 v1) t = some x) (hK : (fun sy => mm_go C mm_Mk mm_Fk P_X12_expression Q (P_X12_expression.drop 45) [(0, .ref 0), (1, .int v1)] [] (ms_H sy) 0 0) x) : (fun sy => mm_go C mm_Mk mm_Fk P_X12_expression Q (P_X12_expression.drop 13) [(0, .ref 0), (1, .int v1)] [] (ms_H sy) 0 0) t := by
  refine mo_loop_go (G := (fun sy => mm_go C mm_Mk mm_Fk P_X12_expression Q (P_X12_expression.drop 13) [(0, .ref 0), (1, .int v1)] [] (ms_H sy) 0 0) ) (K := (fun sy => mm_go C mm_Mk mm_Fk P_X12_expression Q (P_X12_expression.drop 45) [(0, .ref 0), (1, .int v1)] [] (ms_H sy) 0 0) ) ?_ t x hl hK
  intro t r hf hK
  obtain ⟨s, rfl⟩ : ∃ q, q = t := ⟨_, rfl⟩
  unfold mf_expression_l13 at hf
  obtain ⟨r_3, hr_3, hf⟩ := mo_bind hf
  obtain ⟨v_3, s_3⟩ := r_3
  by_cases c_4 : v_3 = (0 : Int32)
  · have hf := mo_pos hf c_4
    obtain rfl := Option.some.inj hf
    refine mm_adv 4 (cs' := P_X12_expression.drop 45) (l' := [(0, .ref 0), (1, .int v1)]) (st' := []) (h' := ms_H s_3) (bc' := 0) (bs' := 0) (fun n g => (h_is s ((6 : Int32)) v_3 s_3 _ hr_3 (And.intro (fun _ => g) (fun q => absurd c_4 q)))) ?_
    exact mm_re (c := [(0, .ref 0), (1, .int v1)]) hK rfl rfl
  · have hf := mo_neg hf c_4
    by_cases c_5 : (s_3.1 12) = (6 : Int32)
    · have hf := mo_pos hf c_5
      obtain ⟨s_6, hr_6, hf⟩ := mo_bind hf
      refine mm_adv 11 (cs' := P_X12_expression.drop 24) (l' := [(0, .ref 0), (1, .int v1)]) (st' := []) (h' := ms_H s_6) (bc' := 0) (bs' := 0) (fun n g => (h_is s ((6 : Int32)) v_3 s_3 _ hr_3 (And.intro (fun q => absurd q c_4) (fun _ => (And.intro (fun q => absurd c_5 q) (fun _ => (h_fail s_3 ((2 : Int32)) s_6 _ hr_6 g))))))) ?_
      refine mm_re (l' := [(0, .ref 0), (1, .int v1)]) (c := [(0, .ref 0), (1, .int v1)]) ?_ rfl rfl
      exact mb_expression_j24 h_is h_fail h_goesOn h_unit h_comesOut s_6 (v1) _ hf hK
    · have hf := mo_neg hf c_5
      refine mm_adv 8 (cs' := P_X12_expression.drop 24) (l' := [(0, .ref 0), (1, .int v1)]) (st' := []) (h' := ms_H s_3) (bc' := 0) (bs' := 0) (fun n g => (h_is s ((6 : Int32)) v_3 s_3 _ hr_3 (And.intro (fun q => absurd q c_4) (fun _ => (And.intro (fun _ => g) (fun q => absurd c_5 q)))))) ?_
      refine mm_re (l' := [(0, .ref 0), (1, .int v1)]) (c := [(0, .ref 0), (1, .int v1)]) ?_ rfl rfl
      exact mb_expression_j24 h_is h_fail h_goesOn h_unit h_comesOut s_3 (v1) _ hf hK
noncomputable def mf_expression_l51 (v1 : Int32) : (ms_S) → Option ((ms_S) ⊕ ((ms_S))) := fun s =>
((mf_is s ((7 : Int32))).bind fun (v_12, s_12) =>
(if v_12 = (0 : Int32) then
some (.inr (s_12))
else
(if (s_12.1 12) ≤ v1 then
some (.inr (s_12))
else
((mf_comesOut s_12 ((0 : Int32))).bind fun s_15 =>
((mf_goesOn (ms_sI (ms_sI s_15 12 (((s_15.1 12) - (1 : Int32)))) 43 (((s_15.1 43) - (1 : Int32)))) ).bind fun s_16 =>
some (.inl (s_16)))))))
set_option maxHeartbeats 4000000 in
theorem mb_expression_l51 {C : mm_C} {Q : mm_R} (h_is : mk_is C) (h_fail : mk_fail C) (h_goesOn : mk_goesOn C) (h_unit : mk_unit C) (h_comesOut : mk_comesOut C) (v1 : Int32) (t : ms_S) (x : (ms_S)) (hl : mo_loop (mf_expression_l51 v1) t = some x) (hK : (fun sy => mm_go C mm_Mk mm_Fk P_X12_expression Q (P_X12_expression.drop 77) [(0, .ref 0), (1, .int v1)] [] (ms_H sy) 0 0) x) : (fun sy => mm_go C mm_Mk mm_Fk P_X12_expression Q (P_X12_expression.drop 51) [(0, .ref 0), (1, .int v1)] [] (ms_H sy) 0 0) t := by
  refine mo_loop_go (G := (fun sy => mm_go C mm_Mk mm_Fk P_X12_expression Q (P_X12_expression.drop 51) [(0, .ref 0), (1, .int v1)] [] (ms_H sy) 0 0) ) (K := (fun sy => mm_go C mm_Mk mm_Fk P_X12_expression Q (P_X12_expression.drop 77) [(0, .ref 0), (1, .int v1)] [] (ms_H sy) 0 0) ) ?_ t x hl hK
  intro t r hf hK
  obtain ⟨s, rfl⟩ : ∃ q, q = t := ⟨_, rfl⟩
  unfold mf_expression_l51 at hf
  obtain ⟨r_12, hr_12, hf⟩ := mo_bind hf
  obtain ⟨v_12, s_12⟩ := r_12
  by_cases c_13 : v_12 = (0 : Int32)
  · have hf := mo_pos hf c_13
    obtain rfl := Option.some.inj hf
    refine mm_adv 4 (cs' := P_X12_expression.drop 77) (l' := [(0, .ref 0), (1, .int v1)]) (st' := []) (h' := ms_H s_12) (bc' := 0) (bs' := 0) (fun n g => (h_is s ((7 : Int32)) v_12 s_12 _ hr_12 (And.intro (fun _ => g) (fun q => absurd c_13 q)))) ?_
    exact mm_re (c := [(0, .ref 0), (1, .int v1)]) hK rfl rfl
  · have hf := mo_neg hf c_13
    by_cases c_14 : (s_12.1 12) ≤ v1
    · have hf := mo_pos hf c_14
      obtain rfl := Option.some.inj hf
      refine mm_adv 8 (cs' := P_X12_expression.drop 77) (l' := [(0, .ref 0), (1, .int v1)]) (st' := []) (h' := ms_H s_12) (bc' := 0) (bs' := 0) (fun n g => (h_is s ((7 : Int32)) v_12 s_12 _ hr_12 (And.intro (fun q => absurd q c_13) (fun _ => (And.intro (fun _ => g) (fun q => absurd c_14 q)))))) ?_
      exact mm_re (c := [(0, .ref 0), (1, .int v1)]) hK rfl rfl
    · have hf := mo_neg hf c_14
      obtain ⟨s_15, hr_15, hf⟩ := mo_bind hf
      obtain ⟨s_16, hr_16, hf⟩ := mo_bind hf
      obtain rfl := Option.some.inj hf
      refine mm_adv 26 (cs' := P_X12_expression.drop 51) (l' := [(0, .ref 0), (1, .int v1)]) (st' := []) (h' := ms_H s_16) (bc' := 0) (bs' := 0) (fun n g => (h_is s ((7 : Int32)) v_12 s_12 _ hr_12 (And.intro (fun q => absurd q c_13) (fun _ => (And.intro (fun q => absurd q c_14) (fun _ => (h_comesOut s_12 ((0 : Int32)) s_15 _ hr_15 (And.intro trivial (And.intro trivial (h_goesOn (ms_sI (ms_sI s_15 12 (((s_15.1 12) - (1 : Int32)))) 43 (((s_15.1 43) - (1 : Int32))))  s_16 _ hr_16 g)))))))))) ?_
      exact mm_re (c := [(0, .ref 0), (1, .int v1)]) hK rfl rfl
noncomputable def mf_expression_j122 (s : ms_S) (v1 : Int32) (v2 : Int32) (k0 : Int32) : Option ((Int32 × ms_S) ⊕ ((ms_S) ⊕ (ms_S) ⊕ (ms_S))) :=
((mf_comesOut s (k0)).bind fun s_31 =>
((mo_ag 403 (s_31.2.1 5) (s_31.1 11)).bind fun x_32 =>
(bif mo_in (s_31.1 43) 64 then ((mf_goesOn (ms_sA (ms_sI s_31 43 (((s_31.1 43) + (1 : Int32)))) 42 (upd (s_31.2.1 42) ((s_31.1 43)).toNatClampNeg (x_32))) ).bind fun s_34 =>
some (.inl (v2, s_34))) else none)))
set_option maxHeartbeats 4000000 in
theorem mb_expression_j122 {C : mm_C} {Q : mm_R} (h_is : mk_is C) (h_fail : mk_fail C) (h_goesOn : mk_goesOn C) (h_unit : mk_unit C) (h_comesOut : mk_comesOut C) (s : ms_S) (v1 : Int32) (v2 : Int32) (k0 : Int32) (r : (Int32 × ms_S) ⊕ ((ms_S) ⊕ (ms_S) ⊕ (ms_S))) (hf : mf_expression_j122 s v1 v2 k0 = some r) (hK : mo_sum (mo_c2 (fun y2 sy => mm_go C mm_Mk mm_Fk P_X12_expression Q (P_X12_expression.drop 8) [(0, .ref 0), (1, .int v1), (2, .int y2)] [] (ms_H sy) 0 0))  (mo_sum (fun sy => mm_go C mm_Mk mm_Fk P_X12_expression Q (P_X12_expression.drop 50) [] [] (ms_H sy) 0 0) (mo_sum (fun sy => mm_go C mm_Mk mm_Fk P_X12_expression Q (P_X12_expression.drop 99) [(0, .ref 0), (1, .int v1)] [] (ms_H sy) 0 0) (fun sy => mm_go C mm_Mk mm_Fk P_X12_expression Q (P_X12_expression.drop 142) [] [] (ms_H sy) 0 0)))  r) : mm_go C mm_Mk mm_Fk P_X12_expression Q (P_X12_expression.drop 122) [(0, .ref 0), (1, .int v1), (2, .int v2)] [.int k0, .ref 0] (ms_H s) 0 0 := by
  unfold mf_expression_j122 at hf
  obtain ⟨s_31, hr_31, hf⟩ := mo_bind hf
  obtain ⟨x_32, hx_32, hf⟩ := mo_bind hf
  obtain ⟨hi_32, rfl⟩ := mo_ag_inv hx_32
  obtain ⟨hi_33, hf⟩ := mo_if hf
  obtain ⟨s_34, hr_34, hf⟩ := mo_bind hf
  obtain rfl := Option.some.inj hf
  refine mm_adv 20 (cs' := P_X12_expression.drop 8) (l' := [(0, .ref 0), (1, .int v1), (2, .int v2)]) (st' := []) (h' := ms_H s_34) (bc' := 0) (bs' := 0) (fun n g => (h_comesOut s (k0) s_31 _ hr_31 (And.intro hi_32 (And.intro hi_33 (And.intro trivial (h_goesOn (ms_sA (ms_sI s_31 43 (((s_31.1 43) + (1 : Int32)))) 42 (upd (s_31.2.1 42) ((s_31.1 43)).toNatClampNeg (((s_31.2.1 5) ((s_31.1 11)).toNatClampNeg))))  s_34 _ hr_34 g)))))) ?_
  exact mm_re (c := [(0, .ref 0), (1, .int v1), (2, .int v2)]) hK rfl rfl
noncomputable def mf_expression_j119 (s : ms_S) (v1 : Int32) (v2 : Int32) : Option ((Int32 × ms_S) ⊕ ((ms_S) ⊕ (ms_S) ⊕ (ms_S))) :=
(mf_expression_j122 (s) (v1) (v2) ((1 : Int32)))
set_option maxHeartbeats 4000000 in
theorem mb_expression_j119 {C : mm_C} {Q : mm_R} (h_is : mk_is C) (h_fail : mk_fail C) (h_goesOn : mk_goesOn C) (h_unit : mk_unit C) (h_comesOut : mk_comesOut C) (s : ms_S) (v1 : Int32) (v2 : Int32) (r : (Int32 × ms_S) ⊕ ((ms_S) ⊕ (ms_S) ⊕ (ms_S))) (hf : mf_expression_j119 s v1 v2 = some r) (hK : mo_sum (mo_c2 (fun y2 sy => mm_go C mm_Mk mm_Fk P_X12_expression Q (P_X12_expression.drop 8) [(0, .ref 0), (1, .int v1), (2, .int y2)] [] (ms_H sy) 0 0))  (mo_sum (fun sy => mm_go C mm_Mk mm_Fk P_X12_expression Q (P_X12_expression.drop 50) [] [] (ms_H sy) 0 0) (mo_sum (fun sy => mm_go C mm_Mk mm_Fk P_X12_expression Q (P_X12_expression.drop 99) [(0, .ref 0), (1, .int v1)] [] (ms_H sy) 0 0) (fun sy => mm_go C mm_Mk mm_Fk P_X12_expression Q (P_X12_expression.drop 142) [] [] (ms_H sy) 0 0)))  r) : mm_go C mm_Mk mm_Fk P_X12_expression Q (P_X12_expression.drop 119) [(0, .ref 0), (1, .int v1), (2, .int v2)] [.ref 0] (ms_H s) 0 0 := by
  unfold mf_expression_j119 at hf
  refine mm_adv 2 (cs' := P_X12_expression.drop 122) (l' := [(0, .ref 0), (1, .int v1), (2, .int v2)]) (st' := [.int (1 : Int32), .ref 0]) (h' := ms_H s) (bc' := 0) (bs' := 0) (fun n g => g) ?_
  refine mm_re (l' := [(0, .ref 0), (1, .int v1), (2, .int v2)]) (c := [(0, .ref 0), (1, .int v1), (2, .int v2)]) ?_ rfl rfl
  exact mb_expression_j122 h_is h_fail h_goesOn h_unit h_comesOut s (v1) (v2) ((1 : Int32)) _ hf hK
noncomputable def mf_expression_j96 (s : ms_S) (v1 : Int32) (k0 : Int32) : Option ((Int32 × ms_S) ⊕ ((ms_S) ⊕ (ms_S) ⊕ (ms_S))) :=
(if k0 = (0 : Int32) then
some (.inr (.inr (.inl (s))))
else
((mf_is s ((10 : Int32))).bind fun (v_27, s_27) =>
(if v_27 = (0 : Int32) then
((mf_is s_27 ((15 : Int32))).bind fun (v_29, s_29) =>
(if v_29 = (0 : Int32) then
(mf_expression_j122 (s_29) (v1) (k0) ((0 : Int32)))
else
(mf_expression_j119 (s_29) (v1) (k0))))
else
(mf_expression_j119 (s_27) (v1) (k0)))))
set_option maxHeartbeats 4000000 in
theorem mb_expression_j96 {C : mm_C} {Q : mm_R} (h_is : mk_is C) (h_fail : mk_fail C) (h_goesOn : mk_goesOn C) (h_unit : mk_unit C) (h_comesOut : mk_comesOut C) (s : ms_S) (v1 : Int32) (k0 : Int32) (r : (Int32 × ms_S) ⊕ ((ms_S) ⊕ (ms_S) ⊕ (ms_S))) (hf : mf_expression_j96 s v1 k0 = some r) (hK : mo_sum (mo_c2 (fun y2 sy => mm_go C mm_Mk mm_Fk P_X12_expression Q (P_X12_expression.drop 8) [(0, .ref 0), (1, .int v1), (2, .int y2)] [] (ms_H sy) 0 0))  (mo_sum (fun sy => mm_go C mm_Mk mm_Fk P_X12_expression Q (P_X12_expression.drop 50) [] [] (ms_H sy) 0 0) (mo_sum (fun sy => mm_go C mm_Mk mm_Fk P_X12_expression Q (P_X12_expression.drop 99) [(0, .ref 0), (1, .int v1)] [] (ms_H sy) 0 0) (fun sy => mm_go C mm_Mk mm_Fk P_X12_expression Q (P_X12_expression.drop 142) [] [] (ms_H sy) 0 0)))  r) : mm_go C mm_Mk mm_Fk P_X12_expression Q (P_X12_expression.drop 96) [(0, .ref 0), (1, .int v1)] [.int k0] (ms_H s) 0 0 := by
  unfold mf_expression_j96 at hf
  by_cases c_26 : k0 = (0 : Int32)
  · have hf := mo_pos hf c_26
    obtain rfl := Option.some.inj hf
    refine mm_adv 3 (cs' := P_X12_expression.drop 99) (l' := [(2, .int k0), (0, .ref 0), (1, .int v1)]) (st' := []) (h' := ms_H s) (bc' := 0) (bs' := 0) (fun n g => (And.intro (fun q => absurd c_26 q) (fun _ => g))) ?_
    exact mm_re (c := [(0, .ref 0), (1, .int v1)]) hK rfl rfl
  · have hf := mo_neg hf c_26
    obtain ⟨r_27, hr_27, hf⟩ := mo_bind hf
    obtain ⟨v_27, s_27⟩ := r_27
    by_cases c_28 : v_27 = (0 : Int32)
    · have hf := mo_pos hf c_28
      obtain ⟨r_29, hr_29, hf⟩ := mo_bind hf
      obtain ⟨v_29, s_29⟩ := r_29
      by_cases c_30 : v_29 = (0 : Int32)
      · have hf := mo_pos hf c_30
        refine mm_adv 13 (cs' := P_X12_expression.drop 122) (l' := [(2, .int k0), (0, .ref 0), (1, .int v1)]) (st' := [.int (0 : Int32), .ref 0]) (h' := ms_H s_29) (bc' := 0) (bs' := 0) (fun n g => (And.intro (fun _ => (h_is s ((10 : Int32)) v_27 s_27 _ hr_27 (And.intro (fun q => absurd c_28 q) (fun _ => (h_is s_27 ((15 : Int32)) v_29 s_29 _ hr_29 (And.intro (fun _ => g) (fun q => absurd c_30 q))))))) (fun q => absurd c_26 q))) ?_
        refine mm_re (l' := [(0, .ref 0), (1, .int v1), (2, .int k0)]) (c := [(0, .ref 0), (1, .int v1), (2, .int k0)]) ?_ rfl rfl
        exact mb_expression_j122 h_is h_fail h_goesOn h_unit h_comesOut s_29 (v1) (k0) ((0 : Int32)) _ hf hK
      · have hf := mo_neg hf c_30
        refine mm_adv 12 (cs' := P_X12_expression.drop 119) (l' := [(2, .int k0), (0, .ref 0), (1, .int v1)]) (st' := [.ref 0]) (h' := ms_H s_29) (bc' := 0) (bs' := 0) (fun n g => (And.intro (fun _ => (h_is s ((10 : Int32)) v_27 s_27 _ hr_27 (And.intro (fun q => absurd c_28 q) (fun _ => (h_is s_27 ((15 : Int32)) v_29 s_29 _ hr_29 (And.intro (fun q => absurd q c_30) (fun _ => g))))))) (fun q => absurd c_26 q))) ?_
        refine mm_re (l' := [(0, .ref 0), (1, .int v1), (2, .int k0)]) (c := [(0, .ref 0), (1, .int v1), (2, .int k0)]) ?_ rfl rfl
        exact mb_expression_j119 h_is h_fail h_goesOn h_unit h_comesOut s_29 (v1) (k0) _ hf hK
    · have hf := mo_neg hf c_28
      refine mm_adv 8 (cs' := P_X12_expression.drop 119) (l' := [(2, .int k0), (0, .ref 0), (1, .int v1)]) (st' := [.ref 0]) (h' := ms_H s_27) (bc' := 0) (bs' := 0) (fun n g => (And.intro (fun _ => (h_is s ((10 : Int32)) v_27 s_27 _ hr_27 (And.intro (fun _ => g) (fun q => absurd c_28 q)))) (fun q => absurd c_26 q))) ?_
      refine mm_re (l' := [(0, .ref 0), (1, .int v1), (2, .int k0)]) (c := [(0, .ref 0), (1, .int v1), (2, .int k0)]) ?_ rfl rfl
      exact mb_expression_j119 h_is h_fail h_goesOn h_unit h_comesOut s_27 (v1) (k0) _ hf hK
noncomputable def mf_expression_j93 (s : ms_S) (v1 : Int32) : Option ((Int32 × ms_S) ⊕ ((ms_S) ⊕ (ms_S) ⊕ (ms_S))) :=
(mf_expression_j96 (s) (v1) ((1 : Int32)))
set_option maxHeartbeats 4000000 in
theorem mb_expression_j93 {C : mm_C} {Q : mm_R} (h_is : mk_is C) (h_fail : mk_fail C) (h_goesOn : mk_goesOn C) (h_unit : mk_unit C) (h_comesOut : mk_comesOut C) (s : ms_S) (v1 : Int32) (r : (Int32 × ms_S) ⊕ ((ms_S) ⊕ (ms_S) ⊕ (ms_S))) (hf : mf_expression_j93 s v1 = some r) (hK : mo_sum (mo_c2 (fun y2 sy => mm_go C mm_Mk mm_Fk P_X12_expression Q (P_X12_expression.drop 8) [(0, .ref 0), (1, .int v1), (2, .int y2)] [] (ms_H sy) 0 0))  (mo_sum (fun sy => mm_go C mm_Mk mm_Fk P_X12_expression Q (P_X12_expression.drop 50) [] [] (ms_H sy) 0 0) (mo_sum (fun sy => mm_go C mm_Mk mm_Fk P_X12_expression Q (P_X12_expression.drop 99) [(0, .ref 0), (1, .int v1)] [] (ms_H sy) 0 0) (fun sy => mm_go C mm_Mk mm_Fk P_X12_expression Q (P_X12_expression.drop 142) [] [] (ms_H sy) 0 0)))  r) : mm_go C mm_Mk mm_Fk P_X12_expression Q (P_X12_expression.drop 93) [(0, .ref 0), (1, .int v1)] [] (ms_H s) 0 0 := by
  unfold mf_expression_j93 at hf
  refine mm_adv 2 (cs' := P_X12_expression.drop 96) (l' := [(0, .ref 0), (1, .int v1)]) (st' := [.int (1 : Int32)]) (h' := ms_H s) (bc' := 0) (bs' := 0) (fun n g => g) ?_
  refine mm_re (l' := [(0, .ref 0), (1, .int v1)]) (c := [(0, .ref 0), (1, .int v1)]) ?_ rfl rfl
  exact mb_expression_j96 h_is h_fail h_goesOn h_unit h_comesOut s (v1) ((1 : Int32)) _ hf hK
noncomputable def mf_expression_j77 (s : ms_S) (v1 : Int32) : Option ((Int32 × ms_S) ⊕ ((ms_S) ⊕ (ms_S) ⊕ (ms_S))) :=
((mf_is s ((8 : Int32))).bind fun (v_18, s_18) =>
(if v_18 = (0 : Int32) then
((mf_is s_18 ((9 : Int32))).bind fun (v_20, s_20) =>
(if v_20 = (0 : Int32) then
((mf_is s_20 ((10 : Int32))).bind fun (v_22, s_22) =>
(if v_22 = (0 : Int32) then
((mf_is s_22 ((15 : Int32))).bind fun (v_24, s_24) =>
(if v_24 = (0 : Int32) then
(mf_expression_j96 (s_24) (v1) ((0 : Int32)))
else
(mf_expression_j93 (s_24) (v1))))
else
(mf_expression_j93 (s_22) (v1))))
else
(mf_expression_j93 (s_20) (v1))))
else
(mf_expression_j93 (s_18) (v1))))
set_option maxHeartbeats 4000000 in
theorem mb_expression_j77 {C : mm_C} {Q : mm_R} (h_is : mk_is C) (h_fail : mk_fail C) (h_goesOn : mk_goesOn C) (h_unit : mk_unit C) (h_comesOut : mk_comesOut C) (s : ms_S) (v1 : Int32) (r : (Int32 × ms_S) ⊕ ((ms_S) ⊕ (ms_S) ⊕ (ms_S))) (hf : mf_expression_j77 s v1 = some r) (hK : mo_sum (mo_c2 (fun y2 sy => mm_go C mm_Mk mm_Fk P_X12_expression Q (P_X12_expression.drop 8) [(0, .ref 0), (1, .int v1), (2, .int y2)] [] (ms_H sy) 0 0))  (mo_sum (fun sy => mm_go C mm_Mk mm_Fk P_X12_expression Q (P_X12_expression.drop 50) [] [] (ms_H sy) 0 0) (mo_sum (fun sy => mm_go C mm_Mk mm_Fk P_X12_expression Q (P_X12_expression.drop 99) [(0, .ref 0), (1, .int v1)] [] (ms_H sy) 0 0) (fun sy => mm_go C mm_Mk mm_Fk P_X12_expression Q (P_X12_expression.drop 142) [] [] (ms_H sy) 0 0)))  r) : mm_go C mm_Mk mm_Fk P_X12_expression Q (P_X12_expression.drop 77) [(0, .ref 0), (1, .int v1)] [] (ms_H s) 0 0 := by
  unfold mf_expression_j77 at hf
  obtain ⟨r_18, hr_18, hf⟩ := mo_bind hf
  obtain ⟨v_18, s_18⟩ := r_18
  by_cases c_19 : v_18 = (0 : Int32)
  · have hf := mo_pos hf c_19
    obtain ⟨r_20, hr_20, hf⟩ := mo_bind hf
    obtain ⟨v_20, s_20⟩ := r_20
    by_cases c_21 : v_20 = (0 : Int32)
    · have hf := mo_pos hf c_21
      obtain ⟨r_22, hr_22, hf⟩ := mo_bind hf
      obtain ⟨v_22, s_22⟩ := r_22
      by_cases c_23 : v_22 = (0 : Int32)
      · have hf := mo_pos hf c_23
        obtain ⟨r_24, hr_24, hf⟩ := mo_bind hf
        obtain ⟨v_24, s_24⟩ := r_24
        by_cases c_25 : v_24 = (0 : Int32)
        · have hf := mo_pos hf c_25
          refine mm_adv 17 (cs' := P_X12_expression.drop 96) (l' := [(0, .ref 0), (1, .int v1)]) (st' := [.int (0 : Int32)]) (h' := ms_H s_24) (bc' := 0) (bs' := 0) (fun n g => (h_is s ((8 : Int32)) v_18 s_18 _ hr_18 (And.intro (fun q => absurd c_19 q) (fun _ => (h_is s_18 ((9 : Int32)) v_20 s_20 _ hr_20 (And.intro (fun q => absurd c_21 q) (fun _ => (h_is s_20 ((10 : Int32)) v_22 s_22 _ hr_22 (And.intro (fun q => absurd c_23 q) (fun _ => (h_is s_22 ((15 : Int32)) v_24 s_24 _ hr_24 (And.intro (fun _ => g) (fun q => absurd c_25 q))))))))))))) ?_
          refine mm_re (l' := [(0, .ref 0), (1, .int v1)]) (c := [(0, .ref 0), (1, .int v1)]) ?_ rfl rfl
          exact mb_expression_j96 h_is h_fail h_goesOn h_unit h_comesOut s_24 (v1) ((0 : Int32)) _ hf hK
        · have hf := mo_neg hf c_25
          refine mm_adv 16 (cs' := P_X12_expression.drop 93) (l' := [(0, .ref 0), (1, .int v1)]) (st' := []) (h' := ms_H s_24) (bc' := 0) (bs' := 0) (fun n g => (h_is s ((8 : Int32)) v_18 s_18 _ hr_18 (And.intro (fun q => absurd c_19 q) (fun _ => (h_is s_18 ((9 : Int32)) v_20 s_20 _ hr_20 (And.intro (fun q => absurd c_21 q) (fun _ => (h_is s_20 ((10 : Int32)) v_22 s_22 _ hr_22 (And.intro (fun q => absurd c_23 q) (fun _ => (h_is s_22 ((15 : Int32)) v_24 s_24 _ hr_24 (And.intro (fun q => absurd q c_25) (fun _ => g))))))))))))) ?_
          refine mm_re (l' := [(0, .ref 0), (1, .int v1)]) (c := [(0, .ref 0), (1, .int v1)]) ?_ rfl rfl
          exact mb_expression_j93 h_is h_fail h_goesOn h_unit h_comesOut s_24 (v1) _ hf hK
      · have hf := mo_neg hf c_23
        refine mm_adv 12 (cs' := P_X12_expression.drop 93) (l' := [(0, .ref 0), (1, .int v1)]) (st' := []) (h' := ms_H s_22) (bc' := 0) (bs' := 0) (fun n g => (h_is s ((8 : Int32)) v_18 s_18 _ hr_18 (And.intro (fun q => absurd c_19 q) (fun _ => (h_is s_18 ((9 : Int32)) v_20 s_20 _ hr_20 (And.intro (fun q => absurd c_21 q) (fun _ => (h_is s_20 ((10 : Int32)) v_22 s_22 _ hr_22 (And.intro (fun _ => g) (fun q => absurd c_23 q)))))))))) ?_
        refine mm_re (l' := [(0, .ref 0), (1, .int v1)]) (c := [(0, .ref 0), (1, .int v1)]) ?_ rfl rfl
        exact mb_expression_j93 h_is h_fail h_goesOn h_unit h_comesOut s_22 (v1) _ hf hK
    · have hf := mo_neg hf c_21
      refine mm_adv 8 (cs' := P_X12_expression.drop 93) (l' := [(0, .ref 0), (1, .int v1)]) (st' := []) (h' := ms_H s_20) (bc' := 0) (bs' := 0) (fun n g => (h_is s ((8 : Int32)) v_18 s_18 _ hr_18 (And.intro (fun q => absurd c_19 q) (fun _ => (h_is s_18 ((9 : Int32)) v_20 s_20 _ hr_20 (And.intro (fun _ => g) (fun q => absurd c_21 q))))))) ?_
      refine mm_re (l' := [(0, .ref 0), (1, .int v1)]) (c := [(0, .ref 0), (1, .int v1)]) ?_ rfl rfl
      exact mb_expression_j93 h_is h_fail h_goesOn h_unit h_comesOut s_20 (v1) _ hf hK
  · have hf := mo_neg hf c_19
    refine mm_adv 4 (cs' := P_X12_expression.drop 93) (l' := [(0, .ref 0), (1, .int v1)]) (st' := []) (h' := ms_H s_18) (bc' := 0) (bs' := 0) (fun n g => (h_is s ((8 : Int32)) v_18 s_18 _ hr_18 (And.intro (fun _ => g) (fun q => absurd c_19 q)))) ?_
    refine mm_re (l' := [(0, .ref 0), (1, .int v1)]) (c := [(0, .ref 0), (1, .int v1)]) ?_ rfl rfl
    exact mb_expression_j93 h_is h_fail h_goesOn h_unit h_comesOut s_18 (v1) _ hf hK
noncomputable def mf_expression_l8 (v1 : Int32) : (Int32 × ms_S) → Option ((Int32 × ms_S) ⊕ ((ms_S) ⊕ (ms_S) ⊕ (ms_S))) := fun (w2, s) =>
(if w2 = (0 : Int32) then
some (.inr (.inr (.inr (s))))
else
(if (s.1 13) = (0 : Int32) then
((mo_loop (mf_expression_l13 (v1)) (s)).bind fun s_9 =>
((mf_unit s_9 ).bind fun s_10 =>
(if (s_10.1 13) ≤ (0 : Int32) then
((mo_loop (mf_expression_l51 (v1)) (s_10)).bind fun s_17 =>
(mf_expression_j77 (s_17) (v1)))
else
some (.inr (.inl (s_10))))))
else
some (.inr (.inr (.inr (s))))))
set_option maxHeartbeats 4000000 in
theorem mb_expression_l8 {C : mm_C} {Q : mm_R} (h_is : mk_is C) (h_fail : mk_fail C) (h_goesOn : mk_goesOn C) (h_unit : mk_unit C) (h_comesOut : mk_comesOut C) (v1 : Int32) (t : Int32 × ms_S) (x : (ms_S) ⊕ (ms_S) ⊕ (ms_S)) (hl : mo_loop (mf_expression_l8 v1) t = some x) (hK : (mo_sum (fun sy => mm_go C mm_Mk mm_Fk P_X12_expression Q (P_X12_expression.drop 50) [] [] (ms_H sy) 0 0) (mo_sum (fun sy => mm_go C mm_Mk mm_Fk P_X12_expression Q (P_X12_expression.drop 99) [(0, .ref 0), (1, .int v1)] [] (ms_H sy) 0 0) (fun sy => mm_go C mm_Mk mm_Fk P_X12_expression Q (P_X12_expression.drop 142) [] [] (ms_H sy) 0 0))) x) : (mo_c2 (fun y2 sy => mm_go C mm_Mk mm_Fk P_X12_expression Q (P_X12_expression.drop 8) [(0, .ref 0), (1, .int v1), (2, .int y2)] [] (ms_H sy) 0 0)) t := by
  refine mo_loop_go (G := (mo_c2 (fun y2 sy => mm_go C mm_Mk mm_Fk P_X12_expression Q (P_X12_expression.drop 8) [(0, .ref 0), (1, .int v1), (2, .int y2)] [] (ms_H sy) 0 0)) ) (K := (mo_sum (fun sy => mm_go C mm_Mk mm_Fk P_X12_expression Q (P_X12_expression.drop 50) [] [] (ms_H sy) 0 0) (mo_sum (fun sy => mm_go C mm_Mk mm_Fk P_X12_expression Q (P_X12_expression.drop 99) [(0, .ref 0), (1, .int v1)] [] (ms_H sy) 0 0) (fun sy => mm_go C mm_Mk mm_Fk P_X12_expression Q (P_X12_expression.drop 142) [] [] (ms_H sy) 0 0))) ) ?_ t x hl hK
  intro t r hf hK
  obtain ⟨w2, s⟩ := t
  unfold mf_expression_l8 at hf
  by_cases c_1 : w2 = (0 : Int32)
  · have hf := mo_pos hf c_1
    obtain rfl := Option.some.inj hf
    refine mm_adv 2 (cs' := P_X12_expression.drop 142) (l' := [(0, .ref 0), (1, .int v1), (2, .int w2)]) (st' := []) (h' := ms_H s) (bc' := 0) (bs' := 0) (fun n g => (And.intro (fun _ => g) (fun q => absurd c_1 q))) ?_
    exact mm_re (c := []) hK rfl rfl
  · have hf := mo_neg hf c_1
    by_cases c_2 : (s.1 13) = (0 : Int32)
    · have hf := mo_pos hf c_2
      obtain ⟨x_9, hl_9, hf⟩ := mo_bind hf
      refine mm_adv 5 (cs' := P_X12_expression.drop 13) (l' := [(0, .ref 0), (1, .int v1), (2, .int w2)]) (st' := []) (h' := ms_H s) (bc' := 0) (bs' := 0) (fun n g => (And.intro (fun q => absurd q c_1) (fun _ => (And.intro (fun q => absurd c_2 q) (fun _ => g))))) ?_
      refine mm_re (l' := [(0, .ref 0), (1, .int v1)]) (c := [(0, .ref 0), (1, .int v1)]) ?_ rfl rfl
      refine mb_expression_l13 h_is h_fail h_goesOn h_unit h_comesOut (v1) (s) x_9 hl_9 ?_
      obtain ⟨s_9, rfl⟩ : ∃ q, q = x_9 := ⟨_, rfl⟩
      obtain ⟨s_10, hr_10, hf⟩ := mo_bind hf
      by_cases c_11 : (s_10.1 13) ≤ (0 : Int32)
      · have hf := mo_pos hf c_11
        obtain ⟨x_17, hl_17, hf⟩ := mo_bind hf
        refine mm_adv 5 (cs' := P_X12_expression.drop 51) (l' := [(0, .ref 0), (1, .int v1)]) (st' := []) (h' := ms_H s_10) (bc' := 0) (bs' := 0) (fun n g => (h_unit s_9  s_10 _ hr_10 (And.intro (fun _ => g) (fun q => absurd c_11 q)))) ?_
        refine mm_re (l' := [(0, .ref 0), (1, .int v1)]) (c := [(0, .ref 0), (1, .int v1)]) ?_ rfl rfl
        refine mb_expression_l51 h_is h_fail h_goesOn h_unit h_comesOut (v1) (s_10) x_17 hl_17 ?_
        obtain ⟨s_17, rfl⟩ : ∃ q, q = x_17 := ⟨_, rfl⟩
        refine mm_re (l' := [(0, .ref 0), (1, .int v1)]) (c := [(0, .ref 0), (1, .int v1)]) ?_ rfl rfl
        exact mb_expression_j77 h_is h_fail h_goesOn h_unit h_comesOut s_17 (v1) _ hf hK
      · have hf := mo_neg hf c_11
        obtain rfl := Option.some.inj hf
        refine mm_adv 5 (cs' := P_X12_expression.drop 50) (l' := [(0, .ref 0), (1, .int v1)]) (st' := []) (h' := ms_H s_10) (bc' := 0) (bs' := 0) (fun n g => (h_unit s_9  s_10 _ hr_10 (And.intro (fun q => absurd q c_11) (fun _ => g)))) ?_
        exact mm_re (c := []) hK rfl rfl
    · have hf := mo_neg hf c_2
      obtain rfl := Option.some.inj hf
      refine mm_adv 5 (cs' := P_X12_expression.drop 142) (l' := [(0, .ref 0), (1, .int v1), (2, .int w2)]) (st' := []) (h' := ms_H s) (bc' := 0) (bs' := 0) (fun n g => (And.intro (fun q => absurd q c_1) (fun _ => (And.intro (fun _ => g) (fun q => absurd c_2 q))))) ?_
      exact mm_re (c := []) hK rfl rfl
noncomputable def mf_expression_j106 (s : ms_S)  : Option (ms_S) :=
((mf_comesOut s ((0 : Int32))).bind fun s_37 =>
some s_37)
set_option maxHeartbeats 4000000 in
theorem mb_expression_j106 {C : mm_C} {Q : mm_R} (h_is : mk_is C) (h_fail : mk_fail C) (h_goesOn : mk_goesOn C) (h_unit : mk_unit C) (h_comesOut : mk_comesOut C) (s : ms_S)  (s2 : ms_S) (hf : mf_expression_j106 s = some s2) (hK : Q (none) (ms_H s2)) : mm_go C mm_Mk mm_Fk P_X12_expression Q (P_X12_expression.drop 106) [(0, .ref 0)] [] (ms_H s) 0 0 := by
  unfold mf_expression_j106 at hf
  obtain ⟨s_37, hr_37, hf⟩ := mo_bind hf
  obtain rfl := Option.some.inj hf
  exact ⟨4, (h_comesOut s ((0 : Int32)) s_37 _ hr_37 hK)⟩
noncomputable def mf_expression (s : ms_S)  : Option (ms_S) :=
((mo_loop (mf_expression_l8 ((s.1 12))) ((1 : Int32), (ms_sI s 43 ((0 : Int32))))).bind fun x_35 =>
match x_35 with
| (.inl s_35) => some s_35
| (.inr (.inl s_35)) => (if (s_35.1 12) ≤ (s.1 12) then
(mf_expression_j106 (s_35))
else
((mf_fail s_35 ((1 : Int32))).bind fun s_38 =>
(mf_expression_j106 (s_38))))
| (.inr (.inr s_35)) => some s_35
)
set_option maxHeartbeats 4000000 in
theorem mb_expression {C : mm_C} {Q : mm_R} (h_is : mk_is C) (h_fail : mk_fail C) (h_goesOn : mk_goesOn C) (h_unit : mk_unit C) (h_comesOut : mk_comesOut C) (s : ms_S)  (s2 : ms_S) (hf : mf_expression s = some s2) (hK : Q (none) (ms_H s2)) : mm_go C mm_Mk mm_Fk P_X12_expression Q P_X12_expression [(0, .ref 0)] [] (ms_H s) 0 0 := by
  unfold mf_expression at hf
  obtain ⟨x_35, hl_35, hf⟩ := mo_bind hf
  refine mm_adv 8 (cs' := P_X12_expression.drop 8) (l' := [(2, .int (1 : Int32)), (1, .int (s.1 12)), (0, .ref 0)]) (st' := []) (h' := ms_H (ms_sI s 43 ((0 : Int32)))) (bc' := 0) (bs' := 0) (fun n g => (And.intro trivial g)) ?_
  refine mm_re (l' := [(0, .ref 0), (1, .int (s.1 12)), (2, .int (1 : Int32))]) (c := [(0, .ref 0), (1, .int (s.1 12)), (2, .int (1 : Int32))]) ?_ rfl rfl
  refine mb_expression_l8 h_is h_fail h_goesOn h_unit h_comesOut ((s.1 12)) ((1 : Int32), (ms_sI s 43 ((0 : Int32)))) x_35 hl_35 ?_
  cases x_35 with
  | inl y_35 =>
    obtain ⟨s_35, rfl⟩ : ∃ q, q = y_35 := ⟨_, rfl⟩
    obtain rfl := Option.some.inj hf
    exact ⟨1, hK⟩
  | inr z_35_0 =>
    cases z_35_0 with
    | inl y_35 =>
      obtain ⟨s_35, rfl⟩ : ∃ q, q = y_35 := ⟨_, rfl⟩
      by_cases c_36 : (s_35.1 12) ≤ (s.1 12)
      · have hf := mo_pos hf c_36
        refine mm_adv 4 (cs' := P_X12_expression.drop 106) (l' := [(0, .ref 0), (1, .int (s.1 12))]) (st' := []) (h' := ms_H s_35) (bc' := 0) (bs' := 0) (fun n g => (And.intro (fun _ => g) (fun q => absurd c_36 q))) ?_
        refine mm_re (l' := [(0, .ref 0)]) (c := [(0, .ref 0)]) ?_ rfl rfl
        exact mb_expression_j106 h_is h_fail h_goesOn h_unit h_comesOut s_35 _ hf hK
      · have hf := mo_neg hf c_36
        obtain ⟨s_38, hr_38, hf⟩ := mo_bind hf
        refine mm_adv 7 (cs' := P_X12_expression.drop 106) (l' := [(0, .ref 0), (1, .int (s.1 12))]) (st' := []) (h' := ms_H s_38) (bc' := 0) (bs' := 0) (fun n g => (And.intro (fun q => absurd q c_36) (fun _ => (h_fail s_35 ((1 : Int32)) s_38 _ hr_38 g)))) ?_
        refine mm_re (l' := [(0, .ref 0)]) (c := [(0, .ref 0)]) ?_ rfl rfl
        exact mb_expression_j106 h_is h_fail h_goesOn h_unit h_comesOut s_38 _ hf hK
    | inr z_35_1 =>
      obtain ⟨s_35, rfl⟩ : ∃ q, q = z_35_1 := ⟨_, rfl⟩
      obtain rfl := Option.some.inj hf
      exact ⟨1, hK⟩
def mk_expression (C : mm_C) : Prop := ∀ (s : ms_S)  (s2 : ms_S) (Q : mm_R), mf_expression s = some s2 → Q (none) (ms_H s2) → C 30 [.ref 0] (ms_H s) Q
set_option maxRecDepth 100000 in
theorem mt_expression (B : mm_C) (d : Nat) : mk_expression (mm_ct B mm_Mk mm_Fk mm_PC (d + 4)) := fun s s2 Q hf hK => Or.inr (mb_expression (mt_is B (d + 2)) (mt_fail B (d + 2)) (mt_goesOn B (d + 1)) (mt_unit B (d + 0)) (mt_comesOut B (d + 1)) s s2 hf hK)
