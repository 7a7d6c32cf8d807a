/-! the reference, method by method, 4 -/
-- X12_wagesOf
noncomputable def mf_wagesOf (s : ms_S) (a0 : Int32) : Option (Int32 × ms_S) :=
((mf_looks s (a0)).bind fun s_1 =>
((mf_lawTells s_1 ((1 : Int32)) ((s_1.2.1 44 1))).bind fun (v_2, s_2) =>
((mf_within (v_2) ((0 : Int32)) ((99 : Int32))).bind fun v_3 =>
some (v_3, s_2))))
set_option maxHeartbeats 4000000 in
theorem mb_wagesOf {C : mm_C} {Q : mm_R} (h_looks : mk_looks C) (h_lawTells : mk_lawTells C) (h_within : mk_within C) (s : ms_S) (a0 : Int32) (v : Int32) (s2 : ms_S) (hf : mf_wagesOf s a0 = some (v, s2)) (hK : Q (some (.int v)) (ms_H s2)) : mm_go C mm_Mk mm_Fk P_X12_wagesOf Q P_X12_wagesOf [(0, .ref 0), (1, .int a0)] [] (ms_H s) 0 0 := by
  unfold mf_wagesOf at hf
  obtain ⟨s_1, hr_1, hf⟩ := mo_bind hf
  obtain ⟨r_2, hr_2, hf⟩ := mo_bind hf
  obtain ⟨v_2, s_2⟩ := r_2
  obtain ⟨v_3, hr_3, hf⟩ := mo_bind hf
  obtain ⟨rfl, rfl⟩ := mo_pair hf
  exact ⟨14, (h_looks s (a0) s_1 _ hr_1 (And.intro (mm_vi rfl) (h_lawTells s_1 ((1 : Int32)) ((s_1.2.1 44 1)) v_2 s_2 _ hr_2 (h_within _ (v_2) ((0 : Int32)) ((99 : Int32)) v_3 _ hr_3 hK))))⟩
def mk_wagesOf (C : mm_C) : Prop := ∀ (s : ms_S) (a0 : Int32) (v : Int32) (s2 : ms_S) (Q : mm_R), mf_wagesOf s a0 = some (v, s2) → Q (some (.int v)) (ms_H s2) → C 52 [.ref 0, .int a0] (ms_H s) Q
set_option maxRecDepth 100000 in
theorem mt_wagesOf (B : mm_C) (d : Nat) : mk_wagesOf (mm_ct B mm_Mk mm_Fk mm_PC (d + 3)) := fun s a0 v s2 Q hf hK => Or.inr (mb_wagesOf (mt_looks B (d + 1)) (mt_lawTells B (d + 0)) (mt_within B (d + 1)) s a0 v s2 hf hK)
-- X12_areThere
noncomputable def mf_areThere (s : ms_S)  : Option (Int32 × ms_S) :=
(if (s.2.1 48 3) < (0 : Int32) then
some ((0 : Int32), s)
else
some ((1 : Int32), s))
set_option maxHeartbeats 4000000 in
theorem mb_areThere {C : mm_C} {Q : mm_R}  (s : ms_S)  (v : Int32) (s2 : ms_S) (hf : mf_areThere s = some (v, s2)) (hK : Q (some (.int v)) (ms_H s2)) : mm_go C mm_Mk mm_Fk P_X12_areThere Q P_X12_areThere [(0, .ref 0)] [] (ms_H s) 0 0 := by
  unfold mf_areThere at hf
  by_cases c_1 : (s.2.1 48 3) < (0 : Int32)
  · have hf := mo_pos hf c_1
    obtain ⟨rfl, rfl⟩ := mo_pair hf
    exact ⟨7, (And.intro (mm_vi rfl) (And.intro (fun _ => (And.intro rfl hK)) (fun q => absurd c_1 q)))⟩
  · have hf := mo_neg hf c_1
    obtain ⟨rfl, rfl⟩ := mo_pair hf
    exact ⟨8, (And.intro (mm_vi rfl) (And.intro (fun q => absurd q c_1) (fun _ => (And.intro rfl hK))))⟩
def mk_areThere (C : mm_C) : Prop := ∀ (s : ms_S)  (v : Int32) (s2 : ms_S) (Q : mm_R), mf_areThere s = some (v, s2) → Q (some (.int v)) (ms_H s2) → C 53 [.ref 0] (ms_H s) Q
set_option maxRecDepth 100000 in
theorem mt_areThere (B : mm_C) (d : Nat) : mk_areThere (mm_ct B mm_Mk mm_Fk mm_PC (d + 1)) := fun s v s2 Q hf hK => Or.inr (mb_areThere  s v s2 hf hK)
-- X12_isAsleep
noncomputable def mf_isAsleep (s : ms_S)  : Option (Int32 × ms_S) :=
(if (s.2.1 48 0) ≤ (0 : Int32) then
some ((0 : Int32), s)
else
(if (20 : Int32) ≤ (s.2.1 48 0) then
some ((0 : Int32), s)
else
some ((1 : Int32), s)))
set_option maxHeartbeats 4000000 in
theorem mb_isAsleep {C : mm_C} {Q : mm_R}  (s : ms_S)  (v : Int32) (s2 : ms_S) (hf : mf_isAsleep s = some (v, s2)) (hK : Q (some (.int v)) (ms_H s2)) : mm_go C mm_Mk mm_Fk P_X12_isAsleep Q P_X12_isAsleep [(0, .ref 0)] [] (ms_H s) 0 0 := by
  unfold mf_isAsleep at hf
  by_cases c_1 : (s.2.1 48 0) ≤ (0 : Int32)
  · have hf := mo_pos hf c_1
    obtain ⟨rfl, rfl⟩ := mo_pair hf
    exact ⟨7, (And.intro (mm_vi rfl) (And.intro (fun _ => (And.intro rfl hK)) (fun q => absurd c_1 q)))⟩
  · have hf := mo_neg hf c_1
    by_cases c_2 : (20 : Int32) ≤ (s.2.1 48 0)
    · have hf := mo_pos hf c_2
      obtain ⟨rfl, rfl⟩ := mo_pair hf
      exact ⟨13, (And.intro (mm_vi rfl) (And.intro (fun q => absurd q c_1) (fun _ => (And.intro (mm_vi rfl) (And.intro (fun _ => (And.intro rfl hK)) (fun q => absurd c_2 q))))))⟩
    · have hf := mo_neg hf c_2
      obtain ⟨rfl, rfl⟩ := mo_pair hf
      exact ⟨14, (And.intro (mm_vi rfl) (And.intro (fun q => absurd q c_1) (fun _ => (And.intro (mm_vi rfl) (And.intro (fun q => absurd q c_2) (fun _ => (And.intro rfl hK)))))))⟩
def mk_isAsleep (C : mm_C) : Prop := ∀ (s : ms_S)  (v : Int32) (s2 : ms_S) (Q : mm_R), mf_isAsleep s = some (v, s2) → Q (some (.int v)) (ms_H s2) → C 54 [.ref 0] (ms_H s) Q
set_option maxRecDepth 100000 in
theorem mt_isAsleep (B : mm_C) (d : Nat) : mk_isAsleep (mm_ct B mm_Mk mm_Fk mm_PC (d + 1)) := fun s v s2 Q hf hK => Or.inr (mb_isAsleep  s v s2 hf hK)
-- X12_canSay
noncomputable def mf_canSay (s : ms_S) (a0 : Int32) : Option (Int32 × ms_S) :=
((mf_areThere s ).bind fun (v_1, s_1) =>
(if v_1 = (0 : Int32) then
some ((0 : Int32), s_1)
else
((mf_isAsleep s_1 ).bind fun (v_3, s_3) =>
(if v_3 = (0 : Int32) then
some ((0 : Int32), s_3)
else
(if a0 = (s_3.2.1 48 2) then
some ((0 : Int32), s_3)
else
(if (((s_3.1 50) >>> (a0 &&& 31)) &&& (1 : Int32)) = (0 : Int32) then
((mf_isBarred s_3 (a0)).bind fun (v_7, s_7) =>
(if v_7 = (0 : Int32) then
some ((1 : Int32), s_7)
else
some ((0 : Int32), s_7)))
else
some ((0 : Int32), s_3)))))))
set_option maxHeartbeats 4000000 in
theorem mb_canSay {C : mm_C} {Q : mm_R} (h_areThere : mk_areThere C) (h_isAsleep : mk_isAsleep C) (h_isBarred : mk_isBarred C) (s : ms_S) (a0 : Int32) (v : Int32) (s2 : ms_S) (hf : mf_canSay s a0 = some (v, s2)) (hK : Q (some (.int v)) (ms_H s2)) : mm_go C mm_Mk mm_Fk P_X12_canSay Q P_X12_canSay [(0, .ref 0), (1, .int a0)] [] (ms_H s) 0 0 := by
  unfold mf_canSay at hf
  obtain ⟨r_1, hr_1, hf⟩ := mo_bind hf
  obtain ⟨v_1, s_1⟩ := r_1
  by_cases c_2 : v_1 = (0 : Int32)
  · have hf := mo_pos hf c_2
    obtain ⟨rfl, rfl⟩ := mo_pair hf
    exact ⟨5, (h_areThere s  v_1 s_1 _ hr_1 (And.intro (fun _ => (And.intro rfl hK)) (fun q => absurd c_2 q)))⟩
  · have hf := mo_neg hf c_2
    obtain ⟨r_3, hr_3, hf⟩ := mo_bind hf
    obtain ⟨v_3, s_3⟩ := r_3
    by_cases c_4 : v_3 = (0 : Int32)
    · have hf := mo_pos hf c_4
      obtain ⟨rfl, rfl⟩ := mo_pair hf
      exact ⟨8, (h_areThere s  v_1 s_1 _ hr_1 (And.intro (fun q => absurd q c_2) (fun _ => (h_isAsleep s_1  v_3 s_3 _ hr_3 (And.intro (fun _ => (And.intro rfl hK)) (fun q => absurd c_4 q))))))⟩
    · have hf := mo_neg hf c_4
      by_cases c_5 : a0 = (s_3.2.1 48 2)
      · have hf := mo_pos hf c_5
        obtain ⟨rfl, rfl⟩ := mo_pair hf
        exact ⟨14, (h_areThere s  v_1 s_1 _ hr_1 (And.intro (fun q => absurd q c_2) (fun _ => (h_isAsleep s_1  v_3 s_3 _ hr_3 (And.intro (fun q => absurd q c_4) (fun _ => (And.intro (mm_vi rfl) (And.intro (fun _ => (And.intro rfl hK)) (fun q => absurd c_5 q)))))))))⟩
      · have hf := mo_neg hf c_5
        by_cases c_6 : (((s_3.1 50) >>> (a0 &&& 31)) &&& (1 : Int32)) = (0 : Int32)
        · have hf := mo_pos hf c_6
          obtain ⟨r_7, hr_7, hf⟩ := mo_bind hf
          obtain ⟨v_7, s_7⟩ := r_7
          by_cases c_8 : v_7 = (0 : Int32)
          · have hf := mo_pos hf c_8
            obtain ⟨rfl, rfl⟩ := mo_pair hf
            exact ⟨26, (h_areThere s  v_1 s_1 _ hr_1 (And.intro (fun q => absurd q c_2) (fun _ => (h_isAsleep s_1  v_3 s_3 _ hr_3 (And.intro (fun q => absurd q c_4) (fun _ => (And.intro (mm_vi rfl) (And.intro (fun q => absurd q c_5) (fun _ => (And.intro (fun q => absurd c_6 q) (fun _ => (h_isBarred s_3 (a0) v_7 s_7 _ hr_7 (And.intro (fun q => absurd c_8 q) (fun _ => (And.intro rfl hK)))))))))))))))⟩
          · have hf := mo_neg hf c_8
            obtain ⟨rfl, rfl⟩ := mo_pair hf
            exact ⟨25, (h_areThere s  v_1 s_1 _ hr_1 (And.intro (fun q => absurd q c_2) (fun _ => (h_isAsleep s_1  v_3 s_3 _ hr_3 (And.intro (fun q => absurd q c_4) (fun _ => (And.intro (mm_vi rfl) (And.intro (fun q => absurd q c_5) (fun _ => (And.intro (fun q => absurd c_6 q) (fun _ => (h_isBarred s_3 (a0) v_7 s_7 _ hr_7 (And.intro (fun _ => (And.intro rfl hK)) (fun q => absurd c_8 q))))))))))))))⟩
        · have hf := mo_neg hf c_6
          obtain ⟨rfl, rfl⟩ := mo_pair hf
          exact ⟨21, (h_areThere s  v_1 s_1 _ hr_1 (And.intro (fun q => absurd q c_2) (fun _ => (h_isAsleep s_1  v_3 s_3 _ hr_3 (And.intro (fun q => absurd q c_4) (fun _ => (And.intro (mm_vi rfl) (And.intro (fun q => absurd q c_5) (fun _ => (And.intro (fun _ => (And.intro rfl hK)) (fun q => absurd c_6 q)))))))))))⟩
def mk_canSay (C : mm_C) : Prop := ∀ (s : ms_S) (a0 : Int32) (v : Int32) (s2 : ms_S) (Q : mm_R), mf_canSay s a0 = some (v, s2) → Q (some (.int v)) (ms_H s2) → C 55 [.ref 0, .int a0] (ms_H s) Q
set_option maxRecDepth 100000 in
theorem mt_canSay (B : mm_C) (d : Nat) : mk_canSay (mm_ct B mm_Mk mm_Fk mm_PC (d + 4)) := fun s a0 v s2 Q hf hK => Or.inr (mb_canSay (mt_areThere B (d + 2)) (mt_isAsleep B (d + 2)) (mt_isBarred B (d + 0)) s a0 v s2 hf hK)
-- X12_canBits
noncomputable def mf_canBits_j21 (s : ms_S) (v1 : Int32) (v2 : Int32) : Option ((Int32 × Int32 × ms_S) ⊕ ((Int32 × ms_S))) :=
some (.inl (v1, (v2 + (1 : Int32)), s))
set_option maxHeartbeats 4000000 in
theorem mb_canBits_j21 {C : mm_C} {Q : mm_R} (h_canSay : mk_canSay C) (s : ms_S) (v1 : Int32) (v2 : Int32) (r : (Int32 × Int32 × ms_S) ⊕ ((Int32 × ms_S))) (hf : mf_canBits_j21 s v1 v2 = some r) (hK : mo_sum (mo_c2 (fun y1 => (mo_c2 (fun y2 sy => mm_go C mm_Mk mm_Fk P_X12_canBits Q (P_X12_canBits.drop 4) [(0, .ref 0), (1, .int y1), (2, .int y2)] [] (ms_H sy) 0 0))))  (mo_c2 (fun y1 sy => mm_go C mm_Mk mm_Fk P_X12_canBits Q (P_X12_canBits.drop 23) [(1, .int y1)] [] (ms_H sy) 0 0))  r) : mm_go C mm_Mk mm_Fk P_X12_canBits Q (P_X12_canBits.drop 21) [(0, .ref 0), (1, .int v1), (2, .int v2)] [] (ms_H s) 0 0 := by
  unfold mf_canBits_j21 at hf
  obtain rfl := Option.some.inj hf
  refine mm_adv 2 (cs' := P_X12_canBits.drop 4) (l' := [(2, .int (v2 + (1 : Int32))), (0, .ref 0), (1, .int v1)]) (st' := []) (h' := ms_H s) (bc' := 0) (bs' := 0) (fun n g => g) ?_
  exact mm_re (c := [(0, .ref 0), (1, .int v1), (2, .int (v2 + (1 : Int32)))]) hK rfl rfl
noncomputable def mf_canBits_l4  : (Int32 × Int32 × ms_S) → Option ((Int32 × Int32 × ms_S) ⊕ ((Int32 × ms_S))) := fun (w1, w2, s) =>
((mo_ag 2 (s.2.1 25) (s.1 18)).bind fun x_1 =>
(if x_1 ≤ w2 then
some (.inr (w1, s))
else
((mf_canSay s (w2)).bind fun (v_3, s_3) =>
(if v_3 = (0 : Int32) then
(mf_canBits_j21 (s_3) (w1) (w2))
else
(mf_canBits_j21 (s_3) ((w1 ||| ((1 : Int32) <<< (w2 &&& 31)))) (w2))))))
set_option maxHeartbeats 4000000 in
theorem mb_canBits_l4 {C : mm_C} {Q : mm_R} (h_canSay : mk_canSay C)  (t : Int32 × Int32 × ms_S) (x : (Int32 × ms_S)) (hl : mo_loop (mf_canBits_l4 ) t = some x) (hK : (mo_c2 (fun y1 sy => mm_go C mm_Mk mm_Fk P_X12_canBits Q (P_X12_canBits.drop 23) [(1, .int y1)] [] (ms_H sy) 0 0)) x) : (mo_c2 (fun y1 => (mo_c2 (fun y2 sy => mm_go C mm_Mk mm_Fk P_X12_canBits Q (P_X12_canBits.drop 4) [(0, .ref 0), (1, .int y1), (2, .int y2)] [] (ms_H sy) 0 0)))) t := by
  refine mo_loop_go (G := (mo_c2 (fun y1 => (mo_c2 (fun y2 sy => mm_go C mm_Mk mm_Fk P_X12_canBits Q (P_X12_canBits.drop 4) [(0, .ref 0), (1, .int y1), (2, .int y2)] [] (ms_H sy) 0 0)))) ) (K := (mo_c2 (fun y1 sy => mm_go C mm_Mk mm_Fk P_X12_canBits Q (P_X12_canBits.drop 23) [(1, .int y1)] [] (ms_H sy) 0 0)) ) ?_ t x hl hK
  intro t r hf hK
  obtain ⟨w1, w2, s⟩ := t
  unfold mf_canBits_l4 at hf
  obtain ⟨x_1, hx_1, hf⟩ := mo_bind hf
  obtain ⟨hi_1, rfl⟩ := mo_ag_inv hx_1
  by_cases c_2 : ((s.2.1 25) ((s.1 18)).toNatClampNeg) ≤ w2
  · have hf := mo_pos hf c_2
    obtain rfl := Option.some.inj hf
    refine mm_adv 7 (cs' := P_X12_canBits.drop 23) (l' := [(0, .ref 0), (1, .int w1), (2, .int w2)]) (st' := []) (h' := ms_H s) (bc' := 0) (bs' := 0) (fun n g => (And.intro hi_1 (And.intro (fun _ => g) (fun q => absurd c_2 q)))) ?_
    exact mm_re (c := [(1, .int w1)]) hK rfl rfl
  · have hf := mo_neg hf c_2
    obtain ⟨r_3, hr_3, hf⟩ := mo_bind hf
    obtain ⟨v_3, s_3⟩ := r_3
    by_cases c_4 : v_3 = (0 : Int32)
    · have hf := mo_pos hf c_4
      refine mm_adv 11 (cs' := P_X12_canBits.drop 21) (l' := [(0, .ref 0), (1, .int w1), (2, .int w2)]) (st' := []) (h' := ms_H s_3) (bc' := 0) (bs' := 0) (fun n g => (And.intro hi_1 (And.intro (fun q => absurd q c_2) (fun _ => (h_canSay s (w2) v_3 s_3 _ hr_3 (And.intro (fun _ => g) (fun q => absurd c_4 q))))))) ?_
      refine mm_re (l' := [(0, .ref 0), (1, .int w1), (2, .int w2)]) (c := [(0, .ref 0), (1, .int w1), (2, .int w2)]) ?_ rfl rfl
      exact mb_canBits_j21 h_canSay s_3 (w1) (w2) _ hf hK
    · have hf := mo_neg hf c_4
      refine mm_adv 17 (cs' := P_X12_canBits.drop 21) (l' := [(1, .int (w1 ||| ((1 : Int32) <<< (w2 &&& 31)))), (0, .ref 0), (2, .int w2)]) (st' := []) (h' := ms_H s_3) (bc' := 0) (bs' := 0) (fun n g => (And.intro hi_1 (And.intro (fun q => absurd q c_2) (fun _ => (h_canSay s (w2) v_3 s_3 _ hr_3 (And.intro (fun q => absurd q c_4) (fun _ => g))))))) ?_
      refine mm_re (l' := [(0, .ref 0), (1, .int (w1 ||| ((1 : Int32) <<< (w2 &&& 31)))), (2, .int w2)]) (c := [(0, .ref 0), (1, .int (w1 ||| ((1 : Int32) <<< (w2 &&& 31)))), (2, .int w2)]) ?_ rfl rfl
      exact mb_canBits_j21 h_canSay s_3 ((w1 ||| ((1 : Int32) <<< (w2 &&& 31)))) (w2) _ hf hK
noncomputable def mf_canBits (s : ms_S)  : Option (Int32 × ms_S) :=
((mo_loop (mf_canBits_l4 ) ((0 : Int32), (0 : Int32), s)).bind fun (e1_5, s_5) =>
some (e1_5, s_5))
set_option maxHeartbeats 4000000 in
theorem mb_canBits {C : mm_C} {Q : mm_R} (h_canSay : mk_canSay C) (s : ms_S)  (v : Int32) (s2 : ms_S) (hf : mf_canBits s = some (v, s2)) (hK : Q (some (.int v)) (ms_H s2)) : mm_go C mm_Mk mm_Fk P_X12_canBits Q P_X12_canBits [(0, .ref 0)] [] (ms_H s) 0 0 := by
  unfold mf_canBits at hf
  obtain ⟨x_5, hl_5, hf⟩ := mo_bind hf
  refine mm_adv 4 (cs' := P_X12_canBits.drop 4) (l' := [(2, .int (0 : Int32)), (1, .int (0 : Int32)), (0, .ref 0)]) (st' := []) (h' := ms_H s) (bc' := 0) (bs' := 0) (fun n g => g) ?_
  refine mm_re (l' := [(0, .ref 0), (1, .int (0 : Int32)), (2, .int (0 : Int32))]) (c := [(0, .ref 0), (1, .int (0 : Int32)), (2, .int (0 : Int32))]) ?_ rfl rfl
  refine mb_canBits_l4 h_canSay  ((0 : Int32), (0 : Int32), s) x_5 hl_5 ?_
  obtain ⟨e1_5, s_5⟩ := x_5
  obtain ⟨rfl, rfl⟩ := mo_pair hf
  exact ⟨2, hK⟩
def mk_canBits (C : mm_C) : Prop := ∀ (s : ms_S)  (v : Int32) (s2 : ms_S) (Q : mm_R), mf_canBits s = some (v, s2) → Q (some (.int v)) (ms_H s2) → C 56 [.ref 0] (ms_H s) Q
set_option maxRecDepth 100000 in
theorem mt_canBits (B : mm_C) (d : Nat) : mk_canBits (mm_ct B mm_Mk mm_Fk mm_PC (d + 5)) := fun s v s2 Q hf hK => Or.inr (mb_canBits (mt_canSay B (d + 0)) s v s2 hf hK)
-- X12_says
noncomputable def mf_says_j25 (s : ms_S) (v1 : Int32) (k0 : Int32) (k1 : Int32) : Option (ms_S) :=
((mf_within (k0) ((0 : Int32)) ((20 : Int32))).bind fun v_3 =>
(bif mo_in k1 12 then some (ms_sA s 48 (upd (upd (upd (s.2.1 48) (k1).toNatClampNeg (v_3)) 2 (v1)) 1 (((1 : Int32) - ((upd (s.2.1 48) (k1).toNatClampNeg (v_3)) 1))))) else none))
set_option maxHeartbeats 4000000 in
theorem mb_says_j25 {C : mm_C} {Q : mm_R} (h_pushesOf : mk_pushesOf C) (h_within : mk_within C) (s : ms_S) (v1 : Int32) (k0 : Int32) (k1 : Int32) (s2 : ms_S) (hf : mf_says_j25 s v1 k0 k1 = some s2) (hK : Q (none) (ms_H s2)) : mm_go C mm_Mk mm_Fk P_X12_says Q (P_X12_says.drop 25) [(0, .ref 0), (1, .int v1)] [.int k0, .int k1, .ref 31] (ms_H s) 0 0 := by
  unfold mf_says_j25 at hf
  obtain ⟨v_3, hr_3, hf⟩ := mo_bind hf
  obtain ⟨hi_4, hf⟩ := mo_if hf
  obtain rfl := Option.some.inj hf
  exact ⟨20, (h_within _ (k0) ((0 : Int32)) ((20 : Int32)) v_3 _ hr_3 (And.intro hi_4 (And.intro (mm_vi rfl) (And.intro (mm_vi rfl) (And.intro (mm_vi rfl) hK)))))⟩
noncomputable def mf_says (s : ms_S) (a0 : Int32) : Option (ms_S) :=
((mf_pushesOf s (a0)).bind fun (v_1, s_1) =>
(if (s_1.2.1 48 1) = (0 : Int32) then
(mf_says_j25 (s_1) (a0) (((s_1.2.1 48 0) + v_1)) ((0 : Int32)))
else
(mf_says_j25 (s_1) (a0) (((s_1.2.1 48 0) - v_1)) ((0 : Int32)))))
set_option maxHeartbeats 4000000 in
theorem mb_says {C : mm_C} {Q : mm_R} (h_pushesOf : mk_pushesOf C) (h_within : mk_within C) (s : ms_S) (a0 : Int32) (s2 : ms_S) (hf : mf_says s a0 = some s2) (hK : Q (none) (ms_H s2)) : mm_go C mm_Mk mm_Fk P_X12_says Q P_X12_says [(0, .ref 0), (1, .int a0)] [] (ms_H s) 0 0 := by
  unfold mf_says at hf
  obtain ⟨r_1, hr_1, hf⟩ := mo_bind hf
  obtain ⟨v_1, s_1⟩ := r_1
  by_cases c_2 : (s_1.2.1 48 1) = (0 : Int32)
  · have hf := mo_pos hf c_2
    refine mm_adv 19 (cs' := P_X12_says.drop 25) (l' := [(2, .int v_1), (0, .ref 0), (1, .int a0)]) (st' := [.int ((s_1.2.1 48 0) + v_1), .int (0 : Int32), .ref 31]) (h' := ms_H s_1) (bc' := 0) (bs' := 0) (fun n g => (h_pushesOf s (a0) v_1 s_1 _ hr_1 (And.intro (mm_vi rfl) (And.intro (fun q => absurd c_2 q) (fun _ => (And.intro (mm_vi rfl) g)))))) ?_
    refine mm_re (l' := [(0, .ref 0), (1, .int a0)]) (c := [(0, .ref 0), (1, .int a0)]) ?_ rfl rfl
    exact mb_says_j25 h_pushesOf h_within s_1 (a0) (((s_1.2.1 48 0) + v_1)) ((0 : Int32)) _ hf hK
  · have hf := mo_neg hf c_2
    refine mm_adv 18 (cs' := P_X12_says.drop 25) (l' := [(2, .int v_1), (0, .ref 0), (1, .int a0)]) (st' := [.int ((s_1.2.1 48 0) - v_1), .int (0 : Int32), .ref 31]) (h' := ms_H s_1) (bc' := 0) (bs' := 0) (fun n g => (h_pushesOf s (a0) v_1 s_1 _ hr_1 (And.intro (mm_vi rfl) (And.intro (fun _ => (And.intro (mm_vi rfl) g)) (fun q => absurd c_2 q))))) ?_
    refine mm_re (l' := [(0, .ref 0), (1, .int a0)]) (c := [(0, .ref 0), (1, .int a0)]) ?_ rfl rfl
    exact mb_says_j25 h_pushesOf h_within s_1 (a0) (((s_1.2.1 48 0) - v_1)) ((0 : Int32)) _ hf hK
def mk_says (C : mm_C) : Prop := ∀ (s : ms_S) (a0 : Int32) (s2 : ms_S) (Q : mm_R), mf_says s a0 = some s2 → Q (none) (ms_H s2) → C 57 [.ref 0, .int a0] (ms_H s) Q
set_option maxRecDepth 100000 in
theorem mt_says (B : mm_C) (d : Nat) : mk_says (mm_ct B mm_Mk mm_Fk mm_PC (d + 4)) := fun s a0 s2 Q hf hK => Or.inr (mb_says (mt_pushesOf B (d + 0)) (mt_within B (d + 2)) s a0 s2 hf hK)
-- X12_passes
noncomputable def mf_passes_j31 (s : ms_S) (k0 : Int32) (k1 : Int32) : Option (ms_S) :=
(bif mo_in k1 12 then some (ms_sA s 48 (upd (upd (upd (s.2.1 48) (k1).toNatClampNeg (k0)) 2 ((6 : Int32))) 1 (((1 : Int32) - ((upd (s.2.1 48) (k1).toNatClampNeg (k0)) 1))))) else none)
set_option maxHeartbeats 4000000 in
theorem mb_passes_j31 {C : mm_C} {Q : mm_R} (h_restsNow : mk_restsNow C) (h_within : mk_within C) (s : ms_S) (k0 : Int32) (k1 : Int32) (s2 : ms_S) (hf : mf_passes_j31 s k0 k1 = some s2) (hK : Q (none) (ms_H s2)) : mm_go C mm_Mk mm_Fk P_X12_passes Q (P_X12_passes.drop 31) [(0, .ref 0)] [.int k0, .int k1, .ref 31] (ms_H s) 0 0 := by
  unfold mf_passes_j31 at hf
  obtain ⟨hi_4, hf⟩ := mo_if hf
  obtain rfl := Option.some.inj hf
  exact ⟨17, (And.intro hi_4 (And.intro (mm_vi rfl) (And.intro (mm_vi rfl) (And.intro (mm_vi rfl) hK))))⟩
noncomputable def mf_passes (s : ms_S)  : Option (ms_S) :=
((mf_restsNow s ).bind fun (v_1, s_1) =>
(if (10 : Int32) ≤ (s_1.2.1 48 0) then
((mf_within (((s_1.2.1 48 0) - v_1)) ((10 : Int32)) ((20 : Int32))).bind fun v_3 =>
(mf_passes_j31 (s_1) (v_3) ((0 : Int32))))
else
((mf_within (((s_1.2.1 48 0) + v_1)) ((0 : Int32)) ((10 : Int32))).bind fun v_5 =>
(mf_passes_j31 (s_1) (v_5) ((0 : Int32))))))
set_option maxHeartbeats 4000000 in
theorem mb_passes {C : mm_C} {Q : mm_R} (h_restsNow : mk_restsNow C) (h_within : mk_within C) (s : ms_S)  (s2 : ms_S) (hf : mf_passes s = some s2) (hK : Q (none) (ms_H s2)) : mm_go C mm_Mk mm_Fk P_X12_passes Q P_X12_passes [(0, .ref 0)] [] (ms_H s) 0 0 := by
  unfold mf_passes at hf
  obtain ⟨r_1, hr_1, hf⟩ := mo_bind hf
  obtain ⟨v_1, s_1⟩ := r_1
  by_cases c_2 : (10 : Int32) ≤ (s_1.2.1 48 0)
  · have hf := mo_pos hf c_2
    obtain ⟨v_3, hr_3, hf⟩ := mo_bind hf
    refine mm_adv 21 (cs' := P_X12_passes.drop 31) (l' := [(1, .int v_1), (0, .ref 0)]) (st' := [.int v_3, .int (0 : Int32), .ref 31]) (h' := ms_H s_1) (bc' := 0) (bs' := 0) (fun n g => (h_restsNow s  v_1 s_1 _ hr_1 (And.intro (mm_vi rfl) (And.intro (fun _ => (And.intro (mm_vi rfl) (h_within _ (((s_1.2.1 48 0) - v_1)) ((10 : Int32)) ((20 : Int32)) v_3 _ hr_3 g))) (fun q => absurd c_2 q))))) ?_
    refine mm_re (l' := [(0, .ref 0)]) (c := [(0, .ref 0)]) ?_ rfl rfl
    exact mb_passes_j31 h_restsNow h_within s_1 (v_3) ((0 : Int32)) _ hf hK
  · have hf := mo_neg hf c_2
    obtain ⟨v_5, hr_5, hf⟩ := mo_bind hf
    refine mm_adv 22 (cs' := P_X12_passes.drop 31) (l' := [(1, .int v_1), (0, .ref 0)]) (st' := [.int v_5, .int (0 : Int32), .ref 31]) (h' := ms_H s_1) (bc' := 0) (bs' := 0) (fun n g => (h_restsNow s  v_1 s_1 _ hr_1 (And.intro (mm_vi rfl) (And.intro (fun q => absurd q c_2) (fun _ => (And.intro (mm_vi rfl) (h_within _ (((s_1.2.1 48 0) + v_1)) ((0 : Int32)) ((10 : Int32)) v_5 _ hr_5 g))))))) ?_
    refine mm_re (l' := [(0, .ref 0)]) (c := [(0, .ref 0)]) ?_ rfl rfl
    exact mb_passes_j31 h_restsNow h_within s_1 (v_5) ((0 : Int32)) _ hf hK
def mk_passes (C : mm_C) : Prop := ∀ (s : ms_S)  (s2 : ms_S) (Q : mm_R), mf_passes s = some s2 → Q (none) (ms_H s2) → C 58 [.ref 0] (ms_H s) Q
set_option maxRecDepth 100000 in
theorem mt_passes (B : mm_C) (d : Nat) : mk_passes (mm_ct B mm_Mk mm_Fk mm_PC (d + 4)) := fun s s2 Q hf hK => Or.inr (mb_passes (mt_restsNow B (d + 0)) (mt_within B (d + 2)) s s2 hf hK)
-- X12_minuteGoes
noncomputable def mf_minuteGoes_j33 (s : ms_S) (v1 : Int32) (v2 : Int32) (v3 : Int32) : Option ((Int32 × Int32 × ms_S) ⊕ ((Int32 × ms_S))) :=
some (.inl ((v2 - ((v1 >>> (v3 &&& 31)) &&& (1 : Int32))), (v3 + (1 : Int32)), s))
set_option maxHeartbeats 4000000 in
theorem mb_minuteGoes_j33 {C : mm_C} {Q : mm_R} (h_areThere : mk_areThere C) (h_isAsleep : mk_isAsleep C) (h_canBits : mk_canBits C) (h_passes : mk_passes C) (h_bits : mk_bits C) (h_lotOf : mk_lotOf C) (h_says : mk_says C) (s : ms_S) (v1 : Int32) (v2 : Int32) (v3 : Int32) (r : (Int32 × Int32 × ms_S) ⊕ ((Int32 × ms_S))) (hf : mf_minuteGoes_j33 s v1 v2 v3 = some r) (hK : mo_sum (mo_c2 (fun y2 => (mo_c2 (fun y3 sy => mm_go C mm_Mk mm_Fk P_X12_minuteGoes Q (P_X12_minuteGoes.drop 25) [(0, .ref 0), (1, .int v1), (2, .int y2), (3, .int y3)] [] (ms_H sy) 0 0))))  (mo_c2 (fun y3 sy => mm_go C mm_Mk mm_Fk P_X12_minuteGoes Q (P_X12_minuteGoes.drop 43) [(0, .ref 0), (3, .int y3)] [] (ms_H sy) 0 0))  r) : mm_go C mm_Mk mm_Fk P_X12_minuteGoes Q (P_X12_minuteGoes.drop 33) [(0, .ref 0), (1, .int v1), (2, .int v2), (3, .int v3)] [] (ms_H s) 0 0 := by
  unfold mf_minuteGoes_j33 at hf
  obtain rfl := Option.some.inj hf
  refine mm_adv 10 (cs' := P_X12_minuteGoes.drop 25) (l' := [(3, .int (v3 + (1 : Int32))), (2, .int (v2 - ((v1 >>> (v3 &&& 31)) &&& (1 : Int32)))), (0, .ref 0), (1, .int v1)]) (st' := []) (h' := ms_H s) (bc' := 0) (bs' := 0) (fun n g => g) ?_
  exact mm_re (c := [(0, .ref 0), (1, .int v1), (2, .int (v2 - ((v1 >>> (v3 &&& 31)) &&& (1 : Int32)))), (3, .int (v3 + (1 : Int32)))]) hK rfl rfl
noncomputable def mf_minuteGoes_l25 (v1 : Int32) : (Int32 × Int32 × ms_S) → Option ((Int32 × Int32 × ms_S) ⊕ ((Int32 × ms_S))) := fun (w2, w3, s) =>
(if ((v1 >>> (w3 &&& 31)) &&& (1 : Int32)) = (0 : Int32) then
(mf_minuteGoes_j33 (s) (v1) (w2) (w3))
else
(if w2 ≤ (0 : Int32) then
some (.inr (w3, s))
else
(mf_minuteGoes_j33 (s) (v1) (w2) (w3))))
set_option maxHeartbeats 4000000 in
theorem mb_minuteGoes_l25 {C : mm_C} {Q : mm_R} (h_areThere : mk_areThere C) (h_isAsleep : mk_isAsleep C) (h_canBits : mk_canBits C) (h_passes : mk_passes C) (h_bits : mk_bits C) (h_lotOf : mk_lotOf C) (h_says : mk_says C) (v1 : Int32) (t : Int32 × Int32 × ms_S) (x : (Int32 × ms_S)) (hl : mo_loop (mf_minuteGoes_l25 v1) t = some x) (hK : (mo_c2 (fun y3 sy => mm_go C mm_Mk mm_Fk P_X12_minuteGoes Q (P_X12_minuteGoes.drop 43) [(0, .ref 0), (3, .int y3)] [] (ms_H sy) 0 0)) x) : (mo_c2 (fun y2 => (mo_c2 (fun y3 sy => mm_go C mm_Mk mm_Fk P_X12_minuteGoes Q (P_X12_minuteGoes.drop 25) [(0, .ref 0), (1, .int v1), (2, .int y2), (3, .int y3)] [] (ms_H sy) 0 0)))) t := by
  refine mo_loop_go (G := (mo_c2 (fun y2 => (mo_c2 (fun y3 sy => mm_go C mm_Mk mm_Fk P_X12_minuteGoes Q (P_X12_minuteGoes.drop 25) [(0, .ref 0), (1, .int v1), (2, .int y2), (3, .int y3)] [] (ms_H sy) 0 0)))) ) (K := (mo_c2 (fun y3 sy => mm_go C mm_Mk mm_Fk P_X12_minuteGoes Q (P_X12_minuteGoes.drop 43) [(0, .ref 0), (3, .int y3)] [] (ms_H sy) 0 0)) ) ?_ t x hl hK
  intro t r hf hK
  obtain ⟨w2, w3, s⟩ := t
  unfold mf_minuteGoes_l25 at hf
  by_cases c_10 : ((v1 >>> (w3 &&& 31)) &&& (1 : Int32)) = (0 : Int32)
  · have hf := mo_pos hf c_10
    refine mm_adv 6 (cs' := P_X12_minuteGoes.drop 33) (l' := [(0, .ref 0), (1, .int v1), (2, .int w2), (3, .int w3)]) (st' := []) (h' := ms_H s) (bc' := 0) (bs' := 0) (fun n g => (And.intro (fun _ => g) (fun q => absurd c_10 q))) ?_
    refine mm_re (l' := [(0, .ref 0), (1, .int v1), (2, .int w2), (3, .int w3)]) (c := [(0, .ref 0), (1, .int v1), (2, .int w2), (3, .int w3)]) ?_ rfl rfl
    exact mb_minuteGoes_j33 h_areThere h_isAsleep h_canBits h_passes h_bits h_lotOf h_says s (v1) (w2) (w3) _ hf hK
  · have hf := mo_neg hf c_10
    by_cases c_11 : w2 ≤ (0 : Int32)
    · have hf := mo_pos hf c_11
      obtain rfl := Option.some.inj hf
      refine mm_adv 8 (cs' := P_X12_minuteGoes.drop 43) (l' := [(0, .ref 0), (1, .int v1), (2, .int w2), (3, .int w3)]) (st' := []) (h' := ms_H s) (bc' := 0) (bs' := 0) (fun n g => (And.intro (fun q => absurd q c_10) (fun _ => (And.intro (fun _ => g) (fun q => absurd c_11 q))))) ?_
      exact mm_re (c := [(0, .ref 0), (3, .int w3)]) hK rfl rfl
    · have hf := mo_neg hf c_11
      refine mm_adv 8 (cs' := P_X12_minuteGoes.drop 33) (l' := [(0, .ref 0), (1, .int v1), (2, .int w2), (3, .int w3)]) (st' := []) (h' := ms_H s) (bc' := 0) (bs' := 0) (fun n g => (And.intro (fun q => absurd q c_10) (fun _ => (And.intro (fun q => absurd q c_11) (fun _ => g))))) ?_
      refine mm_re (l' := [(0, .ref 0), (1, .int v1), (2, .int w2), (3, .int w3)]) (c := [(0, .ref 0), (1, .int v1), (2, .int w2), (3, .int w3)]) ?_ rfl rfl
      exact mb_minuteGoes_j33 h_areThere h_isAsleep h_canBits h_passes h_bits h_lotOf h_says s (v1) (w2) (w3) _ hf hK
noncomputable def mf_minuteGoes (s : ms_S)  : Option (ms_S) :=
((mf_areThere s ).bind fun (v_1, s_1) =>
(if v_1 = (0 : Int32) then
some (ms_sA s_1 48 (upd (s_1.2.1 48) 5 (((s_1.2.1 48 5) + (1 : Int32)))))
else
((mf_isAsleep s_1 ).bind fun (v_3, s_3) =>
(if v_3 = (0 : Int32) then
some (ms_sA s_3 48 (upd (s_3.2.1 48) 5 (((s_3.2.1 48 5) + (1 : Int32)))))
else
((mf_canBits s_3 ).bind fun (v_5, s_5) =>
(if v_5 = (0 : Int32) then
((mf_passes s_5 ).bind fun s_7 =>
some (ms_sA s_7 48 (upd (s_7.2.1 48) 5 (((s_7.2.1 48 5) + (1 : Int32))))))
else
((mf_bits (v_5)).bind fun v_8 =>
((mf_lotOf s_5 ((s_5.2.1 48 5)) (v_8)).bind fun (v_9, s_9) =>
((mo_loop (mf_minuteGoes_l25 (v_5)) (v_9, (0 : Int32), s_9)).bind fun (e3_12, s_12) =>
((mf_says s_12 (e3_12)).bind fun s_13 =>
some (ms_sA s_13 48 (upd (s_13.2.1 48) 5 (((s_13.2.1 48 5) + (1 : Int32)))))))))))))))
set_option maxHeartbeats 4000000 in
theorem mb_minuteGoes {C : mm_C} {Q : mm_R} (h_areThere : mk_areThere C) (h_isAsleep : mk_isAsleep C) (h_canBits : mk_canBits C) (h_passes : mk_passes C) (h_bits : mk_bits C) (h_lotOf : mk_lotOf C) (h_says : mk_says C) (s : ms_S)  (s2 : ms_S) (hf : mf_minuteGoes s = some s2) (hK : Q (none) (ms_H s2)) : mm_go C mm_Mk mm_Fk P_X12_minuteGoes Q P_X12_minuteGoes [(0, .ref 0)] [] (ms_H s) 0 0 := by
  unfold mf_minuteGoes at hf
  obtain ⟨r_1, hr_1, hf⟩ := mo_bind hf
  obtain ⟨v_1, s_1⟩ := r_1
  by_cases c_2 : v_1 = (0 : Int32)
  · have hf := mo_pos hf c_2
    obtain rfl := Option.some.inj hf
    exact ⟨12, (h_areThere s  v_1 s_1 _ hr_1 (And.intro (fun _ => (And.intro (mm_vi rfl) (And.intro (mm_vi rfl) hK))) (fun q => absurd c_2 q)))⟩
  · have hf := mo_neg hf c_2
    obtain ⟨r_3, hr_3, hf⟩ := mo_bind hf
    obtain ⟨v_3, s_3⟩ := r_3
    by_cases c_4 : v_3 = (0 : Int32)
    · have hf := mo_pos hf c_4
      obtain rfl := Option.some.inj hf
      exact ⟨15, (h_areThere s  v_1 s_1 _ hr_1 (And.intro (fun q => absurd q c_2) (fun _ => (h_isAsleep s_1  v_3 s_3 _ hr_3 (And.intro (fun _ => (And.intro (mm_vi rfl) (And.intro (mm_vi rfl) hK))) (fun q => absurd c_4 q))))))⟩
    · have hf := mo_neg hf c_4
      obtain ⟨r_5, hr_5, hf⟩ := mo_bind hf
      obtain ⟨v_5, s_5⟩ := r_5
      by_cases c_6 : v_5 = (0 : Int32)
      · have hf := mo_pos hf c_6
        obtain ⟨s_7, hr_7, hf⟩ := mo_bind hf
        obtain rfl := Option.some.inj hf
        exact ⟨23, (h_areThere s  v_1 s_1 _ hr_1 (And.intro (fun q => absurd q c_2) (fun _ => (h_isAsleep s_1  v_3 s_3 _ hr_3 (And.intro (fun q => absurd q c_4) (fun _ => (h_canBits s_3  v_5 s_5 _ hr_5 (And.intro (fun q => absurd c_6 q) (fun _ => (h_passes s_5  s_7 _ hr_7 (And.intro (mm_vi rfl) (And.intro (mm_vi rfl) hK))))))))))))⟩
      · have hf := mo_neg hf c_6
        obtain ⟨v_8, hr_8, hf⟩ := mo_bind hf
        obtain ⟨r_9, hr_9, hf⟩ := mo_bind hf
        obtain ⟨v_9, s_9⟩ := r_9
        obtain ⟨x_12, hl_12, hf⟩ := mo_bind hf
        refine mm_adv 22 (cs' := P_X12_minuteGoes.drop 25) (l' := [(3, .int (0 : Int32)), (2, .int v_9), (1, .int v_5), (0, .ref 0)]) (st' := []) (h' := ms_H s_9) (bc' := 0) (bs' := 0) (fun n g => (h_areThere s  v_1 s_1 _ hr_1 (And.intro (fun q => absurd q c_2) (fun _ => (h_isAsleep s_1  v_3 s_3 _ hr_3 (And.intro (fun q => absurd q c_4) (fun _ => (h_canBits s_3  v_5 s_5 _ hr_5 (And.intro (fun _ => (And.intro (mm_vi rfl) (h_bits _ (v_5) v_8 _ hr_8 (h_lotOf s_5 ((s_5.2.1 48 5)) (v_8) v_9 s_9 _ hr_9 g)))) (fun q => absurd c_6 q)))))))))) ?_
        refine mm_re (l' := [(0, .ref 0), (1, .int v_5), (2, .int v_9), (3, .int (0 : Int32))]) (c := [(0, .ref 0), (1, .int v_5), (2, .int v_9), (3, .int (0 : Int32))]) ?_ rfl rfl
        refine mb_minuteGoes_l25 h_areThere h_isAsleep h_canBits h_passes h_bits h_lotOf h_says (v_5) (v_9, (0 : Int32), s_9) x_12 hl_12 ?_
        obtain ⟨e3_12, s_12⟩ := x_12
        obtain ⟨s_13, hr_13, hf⟩ := mo_bind hf
        obtain rfl := Option.some.inj hf
        exact ⟨12, (h_says s_12 (e3_12) s_13 _ hr_13 (And.intro (mm_vi rfl) (And.intro (mm_vi rfl) hK)))⟩
def mk_minuteGoes (C : mm_C) : Prop := ∀ (s : ms_S)  (s2 : ms_S) (Q : mm_R), mf_minuteGoes s = some s2 → Q (none) (ms_H s2) → C 59 [.ref 0] (ms_H s) Q
set_option maxRecDepth 100000 in
theorem mt_minuteGoes (B : mm_C) (d : Nat) : mk_minuteGoes (mm_ct B mm_Mk mm_Fk mm_PC (d + 6)) := fun s s2 Q hf hK => Or.inr (mb_minuteGoes (mt_areThere B (d + 4)) (mt_isAsleep B (d + 4)) (mt_canBits B (d + 0)) (mt_passes B (d + 1)) (mt_bits B (d + 4)) (mt_lotOf B (d + 3)) (mt_says B (d + 1)) s s2 hf hK)
-- X12_goes
noncomputable def mf_goes_l2 (v1 : Int32) : (Int32 × ms_S) → Option ((Int32 × ms_S) ⊕ ((ms_S))) := fun (w2, s) =>
(if v1 ≤ w2 then
some (.inr (s))
else
((mf_minuteGoes s ).bind fun s_2 =>
some (.inl ((w2 + (1 : Int32)), s_2))))
set_option maxHeartbeats 4000000 in
theorem mb_goes_l2 {C : mm_C} {Q : mm_R} (h_minuteGoes : mk_minuteGoes C) (v1 : Int32) (t : Int32 × ms_S) (x : (ms_S)) (hl : mo_loop (mf_goes_l2 v1) t = some x) (hK : (fun sy => mm_go C mm_Mk mm_Fk P_X12_goes Q (P_X12_goes.drop 9) [] [] (ms_H sy) 0 0) x) : (mo_c2 (fun y2 sy => mm_go C mm_Mk mm_Fk P_X12_goes Q (P_X12_goes.drop 2) [(0, .ref 0), (1, .int v1), (2, .int y2)] [] (ms_H sy) 0 0)) t := by
  refine mo_loop_go (G := (mo_c2 (fun y2 sy => mm_go C mm_Mk mm_Fk P_X12_goes Q (P_X12_goes.drop 2) [(0, .ref 0), (1, .int v1), (2, .int y2)] [] (ms_H sy) 0 0)) ) (K := (fun sy => mm_go C mm_Mk mm_Fk P_X12_goes Q (P_X12_goes.drop 9) [] [] (ms_H sy) 0 0) ) ?_ t x hl hK
  intro t r hf hK
  obtain ⟨w2, s⟩ := t
  unfold mf_goes_l2 at hf
  by_cases c_1 : v1 ≤ w2
  · have hf := mo_pos hf c_1
    obtain rfl := Option.some.inj hf
    refine mm_adv 3 (cs' := P_X12_goes.drop 9) (l' := [(0, .ref 0), (1, .int v1), (2, .int w2)]) (st' := []) (h' := ms_H s) (bc' := 0) (bs' := 0) (fun n g => (And.intro (fun _ => g) (fun q => absurd c_1 q))) ?_
    exact mm_re (c := []) hK rfl rfl
  · have hf := mo_neg hf c_1
    obtain ⟨s_2, hr_2, hf⟩ := mo_bind hf
    obtain rfl := Option.some.inj hf
    refine mm_adv 7 (cs' := P_X12_goes.drop 2) (l' := [(2, .int (w2 + (1 : Int32))), (0, .ref 0), (1, .int v1)]) (st' := []) (h' := ms_H s_2) (bc' := 0) (bs' := 0) (fun n g => (And.intro (fun q => absurd q c_1) (fun _ => (h_minuteGoes s  s_2 _ hr_2 g)))) ?_
    exact mm_re (c := [(0, .ref 0), (1, .int v1), (2, .int (w2 + (1 : Int32)))]) hK rfl rfl
noncomputable def mf_goes (s : ms_S) (a0 : Int32) : Option (ms_S) :=
((mo_loop (mf_goes_l2 (a0)) ((0 : Int32), s)).bind fun s_3 =>
some s_3)
set_option maxHeartbeats 4000000 in
theorem mb_goes {C : mm_C} {Q : mm_R} (h_minuteGoes : mk_minuteGoes C) (s : ms_S) (a0 : Int32) (s2 : ms_S) (hf : mf_goes s a0 = some s2) (hK : Q (none) (ms_H s2)) : mm_go C mm_Mk mm_Fk P_X12_goes Q P_X12_goes [(0, .ref 0), (1, .int a0)] [] (ms_H s) 0 0 := by
  unfold mf_goes at hf
  obtain ⟨x_3, hl_3, hf⟩ := mo_bind hf
  refine mm_adv 2 (cs' := P_X12_goes.drop 2) (l' := [(2, .int (0 : Int32)), (0, .ref 0), (1, .int a0)]) (st' := []) (h' := ms_H s) (bc' := 0) (bs' := 0) (fun n g => g) ?_
  refine mm_re (l' := [(0, .ref 0), (1, .int a0), (2, .int (0 : Int32))]) (c := [(0, .ref 0), (1, .int a0), (2, .int (0 : Int32))]) ?_ rfl rfl
  refine mb_goes_l2 h_minuteGoes (a0) ((0 : Int32), s) x_3 hl_3 ?_
  obtain ⟨s_3, rfl⟩ : ∃ q, q = x_3 := ⟨_, rfl⟩
  obtain rfl := Option.some.inj hf
  exact ⟨1, hK⟩
def mk_goes (C : mm_C) : Prop := ∀ (s : ms_S) (a0 : Int32) (s2 : ms_S) (Q : mm_R), mf_goes s a0 = some s2 → Q (none) (ms_H s2) → C 60 [.ref 0, .int a0] (ms_H s) Q
set_option maxRecDepth 100000 in
theorem mt_goes (B : mm_C) (d : Nat) : mk_goes (mm_ct B mm_Mk mm_Fk mm_PC (d + 7)) := fun s a0 s2 Q hf hK => Or.inr (mb_goes (mt_minuteGoes B (d + 0)) s a0 s2 hf hK)
-- X12_numberOf
noncomputable def mf_numberOf (a0 : Int32) (a1 : Int32) (a2 : Int32) : Option (Int32) :=
some (((((14 : Int32) * a0) + ((7 : Int32) * a1)) + a2))
set_option maxHeartbeats 4000000 in
theorem mb_numberOf {C : mm_C} {Q : mm_R}  {h : mm_H} (a0 : Int32) (a1 : Int32) (a2 : Int32) (v : Int32) (hf : mf_numberOf a0 a1 a2 = some v) (hK : Q (some (.int v)) h) : mm_go C mm_Mk mm_Fk P_X12_numberOf Q P_X12_numberOf [(0, .int a0), (1, .int a1), (2, .int a2)] [] h 0 0 := by
  unfold mf_numberOf at hf
  obtain rfl := Option.some.inj hf
  exact ⟨10, hK⟩
def mk_numberOf (C : mm_C) : Prop := ∀ (h : mm_H) (a0 : Int32) (a1 : Int32) (a2 : Int32) (v : Int32) (Q : mm_R), mf_numberOf a0 a1 a2 = some v → Q (some (.int v)) h → C 61 [.int a0, .int a1, .int a2] h Q
set_option maxRecDepth 100000 in
theorem mt_numberOf (B : mm_C) (d : Nat) : mk_numberOf (mm_ct B mm_Mk mm_Fk mm_PC (d + 1)) := fun h a0 a1 a2 v Q hf hK => Or.inr (mb_numberOf  a0 a1 a2 v hf hK)
-- X12_numberNow
noncomputable def mf_numberNow (s : ms_S)  : Option (Int32 × ms_S) :=
((mf_numberOf ((s.2.1 48 0)) ((s.2.1 48 1)) ((s.2.1 48 2))).bind fun v_1 =>
some (v_1, s))
set_option maxHeartbeats 4000000 in
theorem mb_numberNow {C : mm_C} {Q : mm_R} (h_numberOf : mk_numberOf C) (s : ms_S)  (v : Int32) (s2 : ms_S) (hf : mf_numberNow s = some (v, s2)) (hK : Q (some (.int v)) (ms_H s2)) : mm_go C mm_Mk mm_Fk P_X12_numberNow Q P_X12_numberNow [(0, .ref 0)] [] (ms_H s) 0 0 := by
  unfold mf_numberNow at hf
  obtain ⟨v_1, hr_1, hf⟩ := mo_bind hf
  obtain ⟨rfl, rfl⟩ := mo_pair hf
  exact ⟨14, (And.intro (mm_vi rfl) (And.intro (mm_vi rfl) (And.intro (mm_vi rfl) (h_numberOf _ ((s.2.1 48 0)) ((s.2.1 48 1)) ((s.2.1 48 2)) v_1 _ hr_1 hK))))⟩
def mk_numberNow (C : mm_C) : Prop := ∀ (s : ms_S)  (v : Int32) (s2 : ms_S) (Q : mm_R), mf_numberNow s = some (v, s2) → Q (some (.int v)) (ms_H s2) → C 62 [.ref 0] (ms_H s) Q
set_option maxRecDepth 100000 in
theorem mt_numberNow (B : mm_C) (d : Nat) : mk_numberNow (mm_ct B mm_Mk mm_Fk mm_PC (d + 2)) := fun s v s2 Q hf hK => Or.inr (mb_numberNow (mt_numberOf B (d + 0)) s v s2 hf hK)
-- X12_loads
noncomputable def mf_loads (s : ms_S) (a0 : Int32) : Option (ms_S) :=
some (ms_sA s 48 (upd (upd (upd (s.2.1 48) 0 ((a0 / (14 : Int32)))) 1 (((a0 / (7 : Int32)) - (a0 / (7 : Int32)) / (2 : Int32) * (2 : Int32)))) 2 ((a0 - a0 / (7 : Int32) * (7 : Int32)))))
set_option maxHeartbeats 4000000 in
theorem mb_loads {C : mm_C} {Q : mm_R}  (s : ms_S) (a0 : Int32) (s2 : ms_S) (hf : mf_loads s a0 = some s2) (hK : Q (none) (ms_H s2)) : mm_go C mm_Mk mm_Fk P_X12_loads Q P_X12_loads [(0, .ref 0), (1, .int a0)] [] (ms_H s) 0 0 := by
  unfold mf_loads at hf
  obtain rfl := Option.some.inj hf
  exact ⟨24, (And.intro (by decide) (And.intro (mm_vi rfl) (And.intro (by decide) (And.intro (by decide) (And.intro (mm_vi rfl) (And.intro (by decide) (And.intro (mm_vi rfl) hK)))))))⟩
def mk_loads (C : mm_C) : Prop := ∀ (s : ms_S) (a0 : Int32) (s2 : ms_S) (Q : mm_R), mf_loads s a0 = some s2 → Q (none) (ms_H s2) → C 63 [.ref 0, .int a0] (ms_H s) Q
set_option maxRecDepth 100000 in
theorem mt_loads (B : mm_C) (d : Nat) : mk_loads (mm_ct B mm_Mk mm_Fk mm_PC (d + 1)) := fun s a0 s2 Q hf hK => Or.inr (mb_loads  s a0 s2 hf hK)
-- X12_fillsFrom
noncomputable def mf_fillsFrom_j63 (s : ms_S) (v1 : Int32) (v2 : Int32) (v3 : Int32) : Option ((Int32 × ms_S) ⊕ ((ms_S))) :=
some (.inl ((v3 + (1 : Int32)), s))
set_option maxHeartbeats 4000000 in
theorem mb_fillsFrom_j63 {C : mm_C} {Q : mm_R} (h_loads : mk_loads C) (h_canBits : mk_canBits C) (h_areThere : mk_areThere C) (h_isAsleep : mk_isAsleep C) (h_says : mk_says C) (h_passes : mk_passes C) (h_numberNow : mk_numberNow C) (s : ms_S) (v1 : Int32) (v2 : Int32) (v3 : Int32) (r : (Int32 × ms_S) ⊕ ((ms_S))) (hf : mf_fillsFrom_j63 s v1 v2 v3 = some r) (hK : mo_sum (mo_c2 (fun y3 sy => mm_go C mm_Mk mm_Fk P_X12_fillsFrom Q (P_X12_fillsFrom.drop 8) [(0, .ref 0), (1, .int v1), (2, .int v2), (3, .int y3)] [] (ms_H sy) 0 0))  (fun sy => mm_go C mm_Mk mm_Fk P_X12_fillsFrom Q (P_X12_fillsFrom.drop 65) [] [] (ms_H sy) 0 0)  r) : mm_go C mm_Mk mm_Fk P_X12_fillsFrom Q (P_X12_fillsFrom.drop 63) [(0, .ref 0), (1, .int v1), (2, .int v2), (3, .int v3)] [] (ms_H s) 0 0 := by
  unfold mf_fillsFrom_j63 at hf
  obtain rfl := Option.some.inj hf
  refine mm_adv 2 (cs' := P_X12_fillsFrom.drop 8) (l' := [(3, .int (v3 + (1 : Int32))), (0, .ref 0), (1, .int v1), (2, .int v2)]) (st' := []) (h' := ms_H s) (bc' := 0) (bs' := 0) (fun n g => g) ?_
  exact mm_re (c := [(0, .ref 0), (1, .int v1), (2, .int v2), (3, .int (v3 + (1 : Int32)))]) hK rfl rfl
noncomputable def mf_fillsFrom_j53 (s : ms_S) (v1 : Int32) (v2 : Int32) (v3 : Int32) : Option ((Int32 × ms_S) ⊕ ((ms_S))) :=
((mf_numberNow s ).bind fun (v_15, s_15) =>
(bif mo_in (((7 : Int32) * v1) + v3) 2058 then (mf_fillsFrom_j63 ((ms_sA s_15 51 (upd (s_15.2.1 51) ((((7 : Int32) * v1) + v3)).toNatClampNeg (v_15)))) (v1) (v2) (v3)) else none))
set_option maxHeartbeats 4000000 in
theorem mb_fillsFrom_j53 {C : mm_C} {Q : mm_R} (h_loads : mk_loads C) (h_canBits : mk_canBits C) (h_areThere : mk_areThere C) (h_isAsleep : mk_isAsleep C) (h_says : mk_says C) (h_passes : mk_passes C) (h_numberNow : mk_numberNow C) (s : ms_S) (v1 : Int32) (v2 : Int32) (v3 : Int32) (r : (Int32 × ms_S) ⊕ ((ms_S))) (hf : mf_fillsFrom_j53 s v1 v2 v3 = some r) (hK : mo_sum (mo_c2 (fun y3 sy => mm_go C mm_Mk mm_Fk P_X12_fillsFrom Q (P_X12_fillsFrom.drop 8) [(0, .ref 0), (1, .int v1), (2, .int v2), (3, .int y3)] [] (ms_H sy) 0 0))  (fun sy => mm_go C mm_Mk mm_Fk P_X12_fillsFrom Q (P_X12_fillsFrom.drop 65) [] [] (ms_H sy) 0 0)  r) : mm_go C mm_Mk mm_Fk P_X12_fillsFrom Q (P_X12_fillsFrom.drop 53) [(0, .ref 0), (1, .int v1), (2, .int v2), (3, .int v3)] [] (ms_H s) 0 0 := by
  unfold mf_fillsFrom_j53 at hf
  obtain ⟨r_15, hr_15, hf⟩ := mo_bind hf
  obtain ⟨v_15, s_15⟩ := r_15
  obtain ⟨hi_16, hf⟩ := mo_if hf
  refine mm_adv 10 (cs' := P_X12_fillsFrom.drop 63) (l' := [(0, .ref 0), (1, .int v1), (2, .int v2), (3, .int v3)]) (st' := []) (h' := ms_H (ms_sA s_15 51 (upd (s_15.2.1 51) ((((7 : Int32) * v1) + v3)).toNatClampNeg (v_15)))) (bc' := 0) (bs' := 0) (fun n g => (h_numberNow s  v_15 s_15 _ hr_15 (And.intro hi_16 g))) ?_
  refine mm_re (l' := [(0, .ref 0), (1, .int v1), (2, .int v2), (3, .int v3)]) (c := [(0, .ref 0), (1, .int v1), (2, .int v2), (3, .int v3)]) ?_ rfl rfl
  exact mb_fillsFrom_j63 h_loads h_canBits h_areThere h_isAsleep h_says h_passes h_numberNow (ms_sA s_15 51 (upd (s_15.2.1 51) ((((7 : Int32) * v1) + v3)).toNatClampNeg (v_15))) (v1) (v2) (v3) _ hf hK
noncomputable def mf_fillsFrom_j41 (s : ms_S) (v1 : Int32) (v2 : Int32) (v3 : Int32) : Option ((Int32 × ms_S) ⊕ ((ms_S))) :=
((mf_loads s (v1)).bind fun s_12 =>
(if (6 : Int32) ≤ v3 then
((mf_passes s_12 ).bind fun s_14 =>
(mf_fillsFrom_j53 (s_14) (v1) (v2) (v3)))
else
((mf_says s_12 (v3)).bind fun s_17 =>
(mf_fillsFrom_j53 (s_17) (v1) (v2) (v3)))))
set_option maxHeartbeats 4000000 in
theorem mb_fillsFrom_j41 {C : mm_C} {Q : mm_R} (h_loads : mk_loads C) (h_canBits : mk_canBits C) (h_areThere : mk_areThere C) (h_isAsleep : mk_isAsleep C) (h_says : mk_says C) (h_passes : mk_passes C) (h_numberNow : mk_numberNow C) (s : ms_S) (v1 : Int32) (v2 : Int32) (v3 : Int32) (r : (Int32 × ms_S) ⊕ ((ms_S))) (hf : mf_fillsFrom_j41 s v1 v2 v3 = some r) (hK : mo_sum (mo_c2 (fun y3 sy => mm_go C mm_Mk mm_Fk P_X12_fillsFrom Q (P_X12_fillsFrom.drop 8) [(0, .ref 0), (1, .int v1), (2, .int v2), (3, .int y3)] [] (ms_H sy) 0 0))  (fun sy => mm_go C mm_Mk mm_Fk P_X12_fillsFrom Q (P_X12_fillsFrom.drop 65) [] [] (ms_H sy) 0 0)  r) : mm_go C mm_Mk mm_Fk P_X12_fillsFrom Q (P_X12_fillsFrom.drop 41) [(0, .ref 0), (1, .int v1), (2, .int v2), (3, .int v3)] [] (ms_H s) 0 0 := by
  unfold mf_fillsFrom_j41 at hf
  obtain ⟨s_12, hr_12, hf⟩ := mo_bind hf
  by_cases c_13 : (6 : Int32) ≤ v3
  · have hf := mo_pos hf c_13
    obtain ⟨s_14, hr_14, hf⟩ := mo_bind hf
    refine mm_adv 8 (cs' := P_X12_fillsFrom.drop 53) (l' := [(0, .ref 0), (1, .int v1), (2, .int v2), (3, .int v3)]) (st' := []) (h' := ms_H s_14) (bc' := 0) (bs' := 0) (fun n g => (h_loads s (v1) s_12 _ hr_12 (And.intro (fun _ => (h_passes s_12  s_14 _ hr_14 g)) (fun q => absurd c_13 q)))) ?_
    refine mm_re (l' := [(0, .ref 0), (1, .int v1), (2, .int v2), (3, .int v3)]) (c := [(0, .ref 0), (1, .int v1), (2, .int v2), (3, .int v3)]) ?_ rfl rfl
    exact mb_fillsFrom_j53 h_loads h_canBits h_areThere h_isAsleep h_says h_passes h_numberNow s_14 (v1) (v2) (v3) _ hf hK
  · have hf := mo_neg hf c_13
    obtain ⟨s_17, hr_17, hf⟩ := mo_bind hf
    refine mm_adv 10 (cs' := P_X12_fillsFrom.drop 53) (l' := [(0, .ref 0), (1, .int v1), (2, .int v2), (3, .int v3)]) (st' := []) (h' := ms_H s_17) (bc' := 0) (bs' := 0) (fun n g => (h_loads s (v1) s_12 _ hr_12 (And.intro (fun q => absurd q c_13) (fun _ => (h_says s_12 (v3) s_17 _ hr_17 g))))) ?_
    refine mm_re (l' := [(0, .ref 0), (1, .int v1), (2, .int v2), (3, .int v3)]) (c := [(0, .ref 0), (1, .int v1), (2, .int v2), (3, .int v3)]) ?_ rfl rfl
    exact mb_fillsFrom_j53 h_loads h_canBits h_areThere h_isAsleep h_says h_passes h_numberNow s_17 (v1) (v2) (v3) _ hf hK
noncomputable def mf_fillsFrom_j29 (s : ms_S) (v1 : Int32) (v2 : Int32) (v3 : Int32) : Option ((Int32 × ms_S) ⊕ ((ms_S))) :=
(if v3 = (6 : Int32) then
(if v2 = (0 : Int32) then
((mf_areThere s ).bind fun (v_8, s_8) =>
(if v_8 = (0 : Int32) then
(mf_fillsFrom_j63 (s_8) (v1) (v2) (v3))
else
((mf_isAsleep s_8 ).bind fun (v_10, s_10) =>
(if v_10 = (0 : Int32) then
(mf_fillsFrom_j63 (s_10) (v1) (v2) (v3))
else
(mf_fillsFrom_j41 (s_10) (v1) (v2) (v3))))))
else
(mf_fillsFrom_j63 (s) (v1) (v2) (v3)))
else
(mf_fillsFrom_j41 (s) (v1) (v2) (v3)))
set_option maxHeartbeats 4000000 in
theorem mb_fillsFrom_j29 {C : mm_C} {Q : mm_R} (h_loads : mk_loads C) (h_canBits : mk_canBits C) (h_areThere : mk_areThere C) (h_isAsleep : mk_isAsleep C) (h_says : mk_says C) (h_passes : mk_passes C) (h_numberNow : mk_numberNow C) (s : ms_S) (v1 : Int32) (v2 : Int32) (v3 : Int32) (r : (Int32 × ms_S) ⊕ ((ms_S))) (hf : mf_fillsFrom_j29 s v1 v2 v3 = some r) (hK : mo_sum (mo_c2 (fun y3 sy => mm_go C mm_Mk mm_Fk P_X12_fillsFrom Q (P_X12_fillsFrom.drop 8) [(0, .ref 0), (1, .int v1), (2, .int v2), (3, .int y3)] [] (ms_H sy) 0 0))  (fun sy => mm_go C mm_Mk mm_Fk P_X12_fillsFrom Q (P_X12_fillsFrom.drop 65) [] [] (ms_H sy) 0 0)  r) : mm_go C mm_Mk mm_Fk P_X12_fillsFrom Q (P_X12_fillsFrom.drop 29) [(0, .ref 0), (1, .int v1), (2, .int v2), (3, .int v3)] [] (ms_H s) 0 0 := by
  unfold mf_fillsFrom_j29 at hf
  by_cases c_6 : v3 = (6 : Int32)
  · have hf := mo_pos hf c_6
    by_cases c_7 : v2 = (0 : Int32)
    · have hf := mo_pos hf c_7
      obtain ⟨r_8, hr_8, hf⟩ := mo_bind hf
      obtain ⟨v_8, s_8⟩ := r_8
      by_cases c_9 : v_8 = (0 : Int32)
      · have hf := mo_pos hf c_9
        refine mm_adv 8 (cs' := P_X12_fillsFrom.drop 63) (l' := [(0, .ref 0), (1, .int v1), (2, .int v2), (3, .int v3)]) (st' := []) (h' := ms_H s_8) (bc' := 0) (bs' := 0) (fun n g => (And.intro (fun q => absurd c_6 q) (fun _ => (And.intro (fun q => absurd c_7 q) (fun _ => (h_areThere s  v_8 s_8 _ hr_8 (And.intro (fun _ => g) (fun q => absurd c_9 q)))))))) ?_
        refine mm_re (l' := [(0, .ref 0), (1, .int v1), (2, .int v2), (3, .int v3)]) (c := [(0, .ref 0), (1, .int v1), (2, .int v2), (3, .int v3)]) ?_ rfl rfl
        exact mb_fillsFrom_j63 h_loads h_canBits h_areThere h_isAsleep h_says h_passes h_numberNow s_8 (v1) (v2) (v3) _ hf hK
      · have hf := mo_neg hf c_9
        obtain ⟨r_10, hr_10, hf⟩ := mo_bind hf
        obtain ⟨v_10, s_10⟩ := r_10
        by_cases c_11 : v_10 = (0 : Int32)
        · have hf := mo_pos hf c_11
          refine mm_adv 12 (cs' := P_X12_fillsFrom.drop 63) (l' := [(0, .ref 0), (1, .int v1), (2, .int v2), (3, .int v3)]) (st' := []) (h' := ms_H s_10) (bc' := 0) (bs' := 0) (fun n g => (And.intro (fun q => absurd c_6 q) (fun _ => (And.intro (fun q => absurd c_7 q) (fun _ => (h_areThere s  v_8 s_8 _ hr_8 (And.intro (fun q => absurd q c_9) (fun _ => (h_isAsleep s_8  v_10 s_10 _ hr_10 (And.intro (fun q => absurd c_11 q) (fun _ => g))))))))))) ?_
          refine mm_re (l' := [(0, .ref 0), (1, .int v1), (2, .int v2), (3, .int v3)]) (c := [(0, .ref 0), (1, .int v1), (2, .int v2), (3, .int v3)]) ?_ rfl rfl
          exact mb_fillsFrom_j63 h_loads h_canBits h_areThere h_isAsleep h_says h_passes h_numberNow s_10 (v1) (v2) (v3) _ hf hK
        · have hf := mo_neg hf c_11
          refine mm_adv 11 (cs' := P_X12_fillsFrom.drop 41) (l' := [(0, .ref 0), (1, .int v1), (2, .int v2), (3, .int v3)]) (st' := []) (h' := ms_H s_10) (bc' := 0) (bs' := 0) (fun n g => (And.intro (fun q => absurd c_6 q) (fun _ => (And.intro (fun q => absurd c_7 q) (fun _ => (h_areThere s  v_8 s_8 _ hr_8 (And.intro (fun q => absurd q c_9) (fun _ => (h_isAsleep s_8  v_10 s_10 _ hr_10 (And.intro (fun _ => g) (fun q => absurd c_11 q))))))))))) ?_
          refine mm_re (l' := [(0, .ref 0), (1, .int v1), (2, .int v2), (3, .int v3)]) (c := [(0, .ref 0), (1, .int v1), (2, .int v2), (3, .int v3)]) ?_ rfl rfl
          exact mb_fillsFrom_j41 h_loads h_canBits h_areThere h_isAsleep h_says h_passes h_numberNow s_10 (v1) (v2) (v3) _ hf hK
    · have hf := mo_neg hf c_7
      refine mm_adv 5 (cs' := P_X12_fillsFrom.drop 63) (l' := [(0, .ref 0), (1, .int v1), (2, .int v2), (3, .int v3)]) (st' := []) (h' := ms_H s) (bc' := 0) (bs' := 0) (fun n g => (And.intro (fun q => absurd c_6 q) (fun _ => (And.intro (fun _ => g) (fun q => absurd c_7 q))))) ?_
      refine mm_re (l' := [(0, .ref 0), (1, .int v1), (2, .int v2), (3, .int v3)]) (c := [(0, .ref 0), (1, .int v1), (2, .int v2), (3, .int v3)]) ?_ rfl rfl
      exact mb_fillsFrom_j63 h_loads h_canBits h_areThere h_isAsleep h_says h_passes h_numberNow s (v1) (v2) (v3) _ hf hK
  · have hf := mo_neg hf c_6
    refine mm_adv 3 (cs' := P_X12_fillsFrom.drop 41) (l' := [(0, .ref 0), (1, .int v1), (2, .int v2), (3, .int v3)]) (st' := []) (h' := ms_H s) (bc' := 0) (bs' := 0) (fun n g => (And.intro (fun _ => g) (fun q => absurd c_6 q))) ?_
    refine mm_re (l' := [(0, .ref 0), (1, .int v1), (2, .int v2), (3, .int v3)]) (c := [(0, .ref 0), (1, .int v1), (2, .int v2), (3, .int v3)]) ?_ rfl rfl
    exact mb_fillsFrom_j41 h_loads h_canBits h_areThere h_isAsleep h_says h_passes h_numberNow s (v1) (v2) (v3) _ hf hK
noncomputable def mf_fillsFrom_l8 (v1 : Int32) (v2 : Int32) : (Int32 × ms_S) → Option ((Int32 × ms_S) ⊕ ((ms_S))) := fun (w3, s) =>
(if (7 : Int32) ≤ w3 then
some (.inr (s))
else
(bif mo_in (((7 : Int32) * v1) + w3) 2058 then (if (6 : Int32) ≤ w3 then
(mf_fillsFrom_j29 ((ms_sA s 51 (upd (s.2.1 51) ((((7 : Int32) * v1) + w3)).toNatClampNeg ((-1 : Int32))))) (v1) (v2) (w3))
else
(if ((v2 >>> (w3 &&& 31)) &&& (1 : Int32)) = (0 : Int32) then
(mf_fillsFrom_j63 ((ms_sA s 51 (upd (s.2.1 51) ((((7 : Int32) * v1) + w3)).toNatClampNeg ((-1 : Int32))))) (v1) (v2) (w3))
else
(mf_fillsFrom_j29 ((ms_sA s 51 (upd (s.2.1 51) ((((7 : Int32) * v1) + w3)).toNatClampNeg ((-1 : Int32))))) (v1) (v2) (w3)))) else none))
set_option maxHeartbeats 4000000 in
theorem mb_fillsFrom_l8 {C : mm_C} {Q : mm_R} (h_loads : mk_loads C) (h_canBits : mk_canBits C) (h_areThere : mk_areThere C) (h_isAsleep : mk_isAsleep C) (h_says : mk_says C) (h_passes : mk_passes C) (h_numberNow : mk_numberNow C) (v1 : Int32) (v2 : Int32) (t : Int32 × ms_S) (x : (ms_S)) (hl : mo_loop (mf_fillsFrom_l8 v1 v2) t = some x) (hK : (fun sy => mm_go C mm_Mk mm_Fk P_X12_fillsFrom Q (P_X12_fillsFrom.drop 65) [] [] (ms_H sy) 0 0) x) : (mo_c2 (fun y3 sy => mm_go C mm_Mk mm_Fk P_X12_fillsFrom Q (P_X12_fillsFrom.drop 8) [(0, .ref 0), (1, .int v1), (2, .int v2), (3, .int y3)] [] (ms_H sy) 0 0)) t := by
  refine mo_loop_go (G := (mo_c2 (fun y3 sy => mm_go C mm_Mk mm_Fk P_X12_fillsFrom Q (P_X12_fillsFrom.drop 8) [(0, .ref 0), (1, .int v1), (2, .int v2), (3, .int y3)] [] (ms_H sy) 0 0)) ) (K := (fun sy => mm_go C mm_Mk mm_Fk P_X12_fillsFrom Q (P_X12_fillsFrom.drop 65) [] [] (ms_H sy) 0 0) ) ?_ t x hl hK
  intro t r hf hK
  obtain ⟨w3, s⟩ := t
  unfold mf_fillsFrom_l8 at hf
  by_cases c_3 : (7 : Int32) ≤ w3
  · have hf := mo_pos hf c_3
    obtain rfl := Option.some.inj hf
    refine mm_adv 3 (cs' := P_X12_fillsFrom.drop 65) (l' := [(0, .ref 0), (1, .int v1), (2, .int v2), (3, .int w3)]) (st' := []) (h' := ms_H s) (bc' := 0) (bs' := 0) (fun n g => (And.intro (fun _ => g) (fun q => absurd c_3 q))) ?_
    exact mm_re (c := []) hK rfl rfl
  · have hf := mo_neg hf c_3
    obtain ⟨hi_4, hf⟩ := mo_if hf
    by_cases c_5 : (6 : Int32) ≤ w3
    · have hf := mo_pos hf c_5
      refine mm_adv 15 (cs' := P_X12_fillsFrom.drop 29) (l' := [(0, .ref 0), (1, .int v1), (2, .int v2), (3, .int w3)]) (st' := []) (h' := ms_H (ms_sA s 51 (upd (s.2.1 51) ((((7 : Int32) * v1) + w3)).toNatClampNeg ((-1 : Int32))))) (bc' := 0) (bs' := 0) (fun n g => (And.intro (fun q => absurd q c_3) (fun _ => (And.intro hi_4 (And.intro (fun _ => g) (fun q => absurd c_5 q)))))) ?_
      refine mm_re (l' := [(0, .ref 0), (1, .int v1), (2, .int v2), (3, .int w3)]) (c := [(0, .ref 0), (1, .int v1), (2, .int v2), (3, .int w3)]) ?_ rfl rfl
      exact mb_fillsFrom_j29 h_loads h_canBits h_areThere h_isAsleep h_says h_passes h_numberNow (ms_sA s 51 (upd (s.2.1 51) ((((7 : Int32) * v1) + w3)).toNatClampNeg ((-1 : Int32)))) (v1) (v2) (w3) _ hf hK
    · have hf := mo_neg hf c_5
      by_cases c_18 : ((v2 >>> (w3 &&& 31)) &&& (1 : Int32)) = (0 : Int32)
      · have hf := mo_pos hf c_18
        refine mm_adv 21 (cs' := P_X12_fillsFrom.drop 63) (l' := [(0, .ref 0), (1, .int v1), (2, .int v2), (3, .int w3)]) (st' := []) (h' := ms_H (ms_sA s 51 (upd (s.2.1 51) ((((7 : Int32) * v1) + w3)).toNatClampNeg ((-1 : Int32))))) (bc' := 0) (bs' := 0) (fun n g => (And.intro (fun q => absurd q c_3) (fun _ => (And.intro hi_4 (And.intro (fun q => absurd q c_5) (fun _ => (And.intro (fun _ => g) (fun q => absurd c_18 q)))))))) ?_
        refine mm_re (l' := [(0, .ref 0), (1, .int v1), (2, .int v2), (3, .int w3)]) (c := [(0, .ref 0), (1, .int v1), (2, .int v2), (3, .int w3)]) ?_ rfl rfl
        exact mb_fillsFrom_j63 h_loads h_canBits h_areThere h_isAsleep h_says h_passes h_numberNow (ms_sA s 51 (upd (s.2.1 51) ((((7 : Int32) * v1) + w3)).toNatClampNeg ((-1 : Int32)))) (v1) (v2) (w3) _ hf hK
      · have hf := mo_neg hf c_18
        refine mm_adv 21 (cs' := P_X12_fillsFrom.drop 29) (l' := [(0, .ref 0), (1, .int v1), (2, .int v2), (3, .int w3)]) (st' := []) (h' := ms_H (ms_sA s 51 (upd (s.2.1 51) ((((7 : Int32) * v1) + w3)).toNatClampNeg ((-1 : Int32))))) (bc' := 0) (bs' := 0) (fun n g => (And.intro (fun q => absurd q c_3) (fun _ => (And.intro hi_4 (And.intro (fun q => absurd q c_5) (fun _ => (And.intro (fun q => absurd q c_18) (fun _ => g)))))))) ?_
        refine mm_re (l' := [(0, .ref 0), (1, .int v1), (2, .int v2), (3, .int w3)]) (c := [(0, .ref 0), (1, .int v1), (2, .int v2), (3, .int w3)]) ?_ rfl rfl
        exact mb_fillsFrom_j29 h_loads h_canBits h_areThere h_isAsleep h_says h_passes h_numberNow (ms_sA s 51 (upd (s.2.1 51) ((((7 : Int32) * v1) + w3)).toNatClampNeg ((-1 : Int32)))) (v1) (v2) (w3) _ hf hK
noncomputable def mf_fillsFrom (s : ms_S) (a0 : Int32) : Option (ms_S) :=
((mf_loads s (a0)).bind fun s_1 =>
((mf_canBits s_1 ).bind fun (v_2, s_2) =>
((mo_loop (mf_fillsFrom_l8 (a0) (v_2)) ((0 : Int32), s_2)).bind fun s_19 =>
some s_19)))
set_option maxHeartbeats 4000000 in
theorem mb_fillsFrom {C : mm_C} {Q : mm_R} (h_loads : mk_loads C) (h_canBits : mk_canBits C) (h_areThere : mk_areThere C) (h_isAsleep : mk_isAsleep C) (h_says : mk_says C) (h_passes : mk_passes C) (h_numberNow : mk_numberNow C) (s : ms_S) (a0 : Int32) (s2 : ms_S) (hf : mf_fillsFrom s a0 = some s2) (hK : Q (none) (ms_H s2)) : mm_go C mm_Mk mm_Fk P_X12_fillsFrom Q P_X12_fillsFrom [(0, .ref 0), (1, .int a0)] [] (ms_H s) 0 0 := by
  unfold mf_fillsFrom at hf
  obtain ⟨s_1, hr_1, hf⟩ := mo_bind hf
  obtain ⟨r_2, hr_2, hf⟩ := mo_bind hf
  obtain ⟨v_2, s_2⟩ := r_2
  obtain ⟨x_19, hl_19, hf⟩ := mo_bind hf
  refine mm_adv 8 (cs' := P_X12_fillsFrom.drop 8) (l' := [(3, .int (0 : Int32)), (2, .int v_2), (0, .ref 0), (1, .int a0)]) (st' := []) (h' := ms_H s_2) (bc' := 0) (bs' := 0) (fun n g => (h_loads s (a0) s_1 _ hr_1 (h_canBits s_1  v_2 s_2 _ hr_2 g))) ?_
  refine mm_re (l' := [(0, .ref 0), (1, .int a0), (2, .int v_2), (3, .int (0 : Int32))]) (c := [(0, .ref 0), (1, .int a0), (2, .int v_2), (3, .int (0 : Int32))]) ?_ rfl rfl
  refine mb_fillsFrom_l8 h_loads h_canBits h_areThere h_isAsleep h_says h_passes h_numberNow (a0) (v_2) ((0 : Int32), s_2) x_19 hl_19 ?_
  obtain ⟨s_19, rfl⟩ : ∃ q, q = x_19 := ⟨_, rfl⟩
  obtain rfl := Option.some.inj hf
  exact ⟨1, hK⟩
def mk_fillsFrom (C : mm_C) : Prop := ∀ (s : ms_S) (a0 : Int32) (s2 : ms_S) (Q : mm_R), mf_fillsFrom s a0 = some s2 → Q (none) (ms_H s2) → C 64 [.ref 0, .int a0] (ms_H s) Q
set_option maxRecDepth 100000 in
theorem mt_fillsFrom (B : mm_C) (d : Nat) : mk_fillsFrom (mm_ct B mm_Mk mm_Fk mm_PC (d + 6)) := fun s a0 s2 Q hf hK => Or.inr (mb_fillsFrom (mt_loads B (d + 4)) (mt_canBits B (d + 0)) (mt_areThere B (d + 4)) (mt_isAsleep B (d + 4)) (mt_says B (d + 1)) (mt_passes B (d + 1)) (mt_numberNow B (d + 3)) s a0 s2 hf hK)
-- X12_fillsThen
noncomputable def mf_fillsThen_j25 (s : ms_S) (v1 : Int32) (v2 : Int32) : Option ((Int32 × ms_S) ⊕ ((ms_S))) :=
some (.inl ((v2 + (1 : Int32)), s))
set_option maxHeartbeats 4000000 in
theorem mb_fillsThen_j25 {C : mm_C} {Q : mm_R} (h_numberNow : mk_numberNow C) (h_fillsFrom : mk_fillsFrom C) (h_loads : mk_loads C) (s : ms_S) (v1 : Int32) (v2 : Int32) (r : (Int32 × ms_S) ⊕ ((ms_S))) (hf : mf_fillsThen_j25 s v1 v2 = some r) (hK : mo_sum (mo_c2 (fun y2 sy => mm_go C mm_Mk mm_Fk P_X12_fillsThen Q (P_X12_fillsThen.drop 5) [(0, .ref 0), (1, .int v1), (2, .int y2)] [] (ms_H sy) 0 0))  (fun sy => mm_go C mm_Mk mm_Fk P_X12_fillsThen Q (P_X12_fillsThen.drop 27) [(0, .ref 0), (1, .int v1)] [] (ms_H sy) 0 0)  r) : mm_go C mm_Mk mm_Fk P_X12_fillsThen Q (P_X12_fillsThen.drop 25) [(0, .ref 0), (1, .int v1), (2, .int v2)] [] (ms_H s) 0 0 := by
  unfold mf_fillsThen_j25 at hf
  obtain rfl := Option.some.inj hf
  refine mm_adv 2 (cs' := P_X12_fillsThen.drop 5) (l' := [(2, .int (v2 + (1 : Int32))), (0, .ref 0), (1, .int v1)]) (st' := []) (h' := ms_H s) (bc' := 0) (bs' := 0) (fun n g => g) ?_
  exact mm_re (c := [(0, .ref 0), (1, .int v1), (2, .int (v2 + (1 : Int32)))]) hK rfl rfl
noncomputable def mf_fillsThen_j22 (s : ms_S) (v1 : Int32) (v2 : Int32) : Option ((Int32 × ms_S) ⊕ ((ms_S))) :=
((mf_fillsFrom s (v2)).bind fun s_4 =>
(mf_fillsThen_j25 (s_4) (v1) (v2)))
set_option maxHeartbeats 4000000 in
theorem mb_fillsThen_j22 {C : mm_C} {Q : mm_R} (h_numberNow : mk_numberNow C) (h_fillsFrom : mk_fillsFrom C) (h_loads : mk_loads C) (s : ms_S) (v1 : Int32) (v2 : Int32) (r : (Int32 × ms_S) ⊕ ((ms_S))) (hf : mf_fillsThen_j22 s v1 v2 = some r) (hK : mo_sum (mo_c2 (fun y2 sy => mm_go C mm_Mk mm_Fk P_X12_fillsThen Q (P_X12_fillsThen.drop 5) [(0, .ref 0), (1, .int v1), (2, .int y2)] [] (ms_H sy) 0 0))  (fun sy => mm_go C mm_Mk mm_Fk P_X12_fillsThen Q (P_X12_fillsThen.drop 27) [(0, .ref 0), (1, .int v1)] [] (ms_H sy) 0 0)  r) : mm_go C mm_Mk mm_Fk P_X12_fillsThen Q (P_X12_fillsThen.drop 22) [(0, .ref 0), (1, .int v1), (2, .int v2)] [] (ms_H s) 0 0 := by
  unfold mf_fillsThen_j22 at hf
  obtain ⟨s_4, hr_4, hf⟩ := mo_bind hf
  refine mm_adv 3 (cs' := P_X12_fillsThen.drop 25) (l' := [(0, .ref 0), (1, .int v1), (2, .int v2)]) (st' := []) (h' := ms_H s_4) (bc' := 0) (bs' := 0) (fun n g => (h_fillsFrom s (v2) s_4 _ hr_4 g)) ?_
  refine mm_re (l' := [(0, .ref 0), (1, .int v1), (2, .int v2)]) (c := [(0, .ref 0), (1, .int v1), (2, .int v2)]) ?_ rfl rfl
  exact mb_fillsThen_j25 h_numberNow h_fillsFrom h_loads s_4 (v1) (v2) _ hf hK
noncomputable def mf_fillsThen_l5 (v1 : Int32) : (Int32 × ms_S) → Option ((Int32 × ms_S) ⊕ ((ms_S))) := fun (w2, s) =>
(if (294 : Int32) ≤ w2 then
some (.inr (s))
else
(if (w2 - w2 / (7 : Int32) * (7 : Int32)) = (6 : Int32) then
(mf_fillsThen_j22 (s) (v1) (w2))
else
((mo_ag 2 (s.2.1 25) (s.1 18)).bind fun x_5 =>
(if x_5 ≤ (w2 - w2 / (7 : Int32) * (7 : Int32)) then
(mf_fillsThen_j25 (s) (v1) (w2))
else
(mf_fillsThen_j22 (s) (v1) (w2))))))
set_option maxHeartbeats 4000000 in
theorem mb_fillsThen_l5 {C : mm_C} {Q : mm_R} (h_numberNow : mk_numberNow C) (h_fillsFrom : mk_fillsFrom C) (h_loads : mk_loads C) (v1 : Int32) (t : Int32 × ms_S) (x : (ms_S)) (hl : mo_loop (mf_fillsThen_l5 v1) t = some x) (hK : (fun sy => mm_go C mm_Mk mm_Fk P_X12_fillsThen Q (P_X12_fillsThen.drop 27) [(0, .ref 0), (1, .int v1)] [] (ms_H sy) 0 0) x) : (mo_c2 (fun y2 sy => mm_go C mm_Mk mm_Fk P_X12_fillsThen Q (P_X12_fillsThen.drop 5) [(0, .ref 0), (1, .int v1), (2, .int y2)] [] (ms_H sy) 0 0)) t := by
  refine mo_loop_go (G := (mo_c2 (fun y2 sy => mm_go C mm_Mk mm_Fk P_X12_fillsThen Q (P_X12_fillsThen.drop 5) [(0, .ref 0), (1, .int v1), (2, .int y2)] [] (ms_H sy) 0 0)) ) (K := (fun sy => mm_go C mm_Mk mm_Fk P_X12_fillsThen Q (P_X12_fillsThen.drop 27) [(0, .ref 0), (1, .int v1)] [] (ms_H sy) 0 0) ) ?_ t x hl hK
  intro t r hf hK
  obtain ⟨w2, s⟩ := t
  unfold mf_fillsThen_l5 at hf
  by_cases c_2 : (294 : Int32) ≤ w2
  · have hf := mo_pos hf c_2
    obtain rfl := Option.some.inj hf
    refine mm_adv 3 (cs' := P_X12_fillsThen.drop 27) (l' := [(0, .ref 0), (1, .int v1), (2, .int w2)]) (st' := []) (h' := ms_H s) (bc' := 0) (bs' := 0) (fun n g => (And.intro (fun _ => g) (fun q => absurd c_2 q))) ?_
    exact mm_re (c := [(0, .ref 0), (1, .int v1)]) hK rfl rfl
  · have hf := mo_neg hf c_2
    by_cases c_3 : (w2 - w2 / (7 : Int32) * (7 : Int32)) = (6 : Int32)
    · have hf := mo_pos hf c_3
      refine mm_adv 8 (cs' := P_X12_fillsThen.drop 22) (l' := [(0, .ref 0), (1, .int v1), (2, .int w2)]) (st' := []) (h' := ms_H s) (bc' := 0) (bs' := 0) (fun n g => (And.intro (fun q => absurd q c_2) (fun _ => (And.intro (by decide) (And.intro (fun _ => g) (fun q => absurd c_3 q)))))) ?_
      refine mm_re (l' := [(0, .ref 0), (1, .int v1), (2, .int w2)]) (c := [(0, .ref 0), (1, .int v1), (2, .int w2)]) ?_ rfl rfl
      exact mb_fillsThen_j22 h_numberNow h_fillsFrom h_loads s (v1) (w2) _ hf hK
    · have hf := mo_neg hf c_3
      obtain ⟨x_5, hx_5, hf⟩ := mo_bind hf
      obtain ⟨hi_5, rfl⟩ := mo_ag_inv hx_5
      by_cases c_6 : ((s.2.1 25) ((s.1 18)).toNatClampNeg) ≤ (w2 - w2 / (7 : Int32) * (7 : Int32))
      · have hf := mo_pos hf c_6
        refine mm_adv 17 (cs' := P_X12_fillsThen.drop 25) (l' := [(0, .ref 0), (1, .int v1), (2, .int w2)]) (st' := []) (h' := ms_H s) (bc' := 0) (bs' := 0) (fun n g => (And.intro (fun q => absurd q c_2) (fun _ => (And.intro (by decide) (And.intro (fun q => absurd q c_3) (fun _ => (And.intro (by decide) (And.intro hi_5 (And.intro (fun _ => g) (fun q => absurd c_6 q)))))))))) ?_
        refine mm_re (l' := [(0, .ref 0), (1, .int v1), (2, .int w2)]) (c := [(0, .ref 0), (1, .int v1), (2, .int w2)]) ?_ rfl rfl
        exact mb_fillsThen_j25 h_numberNow h_fillsFrom h_loads s (v1) (w2) _ hf hK
      · have hf := mo_neg hf c_6
        refine mm_adv 17 (cs' := P_X12_fillsThen.drop 22) (l' := [(0, .ref 0), (1, .int v1), (2, .int w2)]) (st' := []) (h' := ms_H s) (bc' := 0) (bs' := 0) (fun n g => (And.intro (fun q => absurd q c_2) (fun _ => (And.intro (by decide) (And.intro (fun q => absurd q c_3) (fun _ => (And.intro (by decide) (And.intro hi_5 (And.intro (fun q => absurd q c_6) (fun _ => g)))))))))) ?_
        refine mm_re (l' := [(0, .ref 0), (1, .int v1), (2, .int w2)]) (c := [(0, .ref 0), (1, .int v1), (2, .int w2)]) ?_ rfl rfl
        exact mb_fillsThen_j22 h_numberNow h_fillsFrom h_loads s (v1) (w2) _ hf hK
noncomputable def mf_fillsThen (s : ms_S)  : Option (ms_S) :=
((mf_numberNow s ).bind fun (v_1, s_1) =>
((mo_loop (mf_fillsThen_l5 (v_1)) ((0 : Int32), s_1)).bind fun s_7 =>
((mf_loads s_7 (v_1)).bind fun s_8 =>
some s_8)))
set_option maxHeartbeats 4000000 in
theorem mb_fillsThen {C : mm_C} {Q : mm_R} (h_numberNow : mk_numberNow C) (h_fillsFrom : mk_fillsFrom C) (h_loads : mk_loads C) (s : ms_S)  (s2 : ms_S) (hf : mf_fillsThen s = some s2) (hK : Q (none) (ms_H s2)) : mm_go C mm_Mk mm_Fk P_X12_fillsThen Q P_X12_fillsThen [(0, .ref 0)] [] (ms_H s) 0 0 := by
  unfold mf_fillsThen at hf
  obtain ⟨r_1, hr_1, hf⟩ := mo_bind hf
  obtain ⟨v_1, s_1⟩ := r_1
  obtain ⟨x_7, hl_7, hf⟩ := mo_bind hf
  refine mm_adv 5 (cs' := P_X12_fillsThen.drop 5) (l' := [(2, .int (0 : Int32)), (1, .int v_1), (0, .ref 0)]) (st' := []) (h' := ms_H s_1) (bc' := 0) (bs' := 0) (fun n g => (h_numberNow s  v_1 s_1 _ hr_1 g)) ?_
  refine mm_re (l' := [(0, .ref 0), (1, .int v_1), (2, .int (0 : Int32))]) (c := [(0, .ref 0), (1, .int v_1), (2, .int (0 : Int32))]) ?_ rfl rfl
  refine mb_fillsThen_l5 h_numberNow h_fillsFrom h_loads (v_1) ((0 : Int32), s_1) x_7 hl_7 ?_
  obtain ⟨s_7, rfl⟩ : ∃ q, q = x_7 := ⟨_, rfl⟩
  obtain ⟨s_8, hr_8, hf⟩ := mo_bind hf
  obtain rfl := Option.some.inj hf
  exact ⟨4, (h_loads s_7 (v_1) s_8 _ hr_8 hK)⟩
def mk_fillsThen (C : mm_C) : Prop := ∀ (s : ms_S)  (s2 : ms_S) (Q : mm_R), mf_fillsThen s = some s2 → Q (none) (ms_H s2) → C 65 [.ref 0] (ms_H s) Q
set_option maxRecDepth 100000 in
theorem mt_fillsThen (B : mm_C) (d : Nat) : mk_fillsThen (mm_ct B mm_Mk mm_Fk mm_PC (d + 7)) := fun s s2 Q hf hK => Or.inr (mb_fillsThen (mt_numberNow B (d + 4)) (mt_fillsFrom B (d + 0)) (mt_loads B (d + 5)) s s2 hf hK)
