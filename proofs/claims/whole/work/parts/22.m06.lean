/-! the reference, method by method, 6 -/
-- X12_canPass
noncomputable def mf_canPass (s : ms_S)  : Option (Int32 × ms_S) :=
((mf_areThere s ).bind fun (v_1, s_1) =>
(if v_1 = (0 : Int32) then
some ((0 : Int32), s_1)
else
((mf_isAsleep s_1 ).bind fun (v_3, s_3) =>
(if v_3 = (0 : Int32) then
some ((0 : Int32), s_3)
else
((mf_canBits s_3 ).bind fun (v_5, s_5) =>
(if v_5 = (0 : Int32) then
some ((1 : Int32), s_5)
else
some ((0 : Int32), s_5)))))))
set_option maxHeartbeats 4000000 in
theorem mb_canPass {C : mm_C} {Q : mm_R} (h_areThere : mk_areThere C) (h_isAsleep : mk_isAsleep C) (h_canBits : mk_canBits C) (s : ms_S)  (v : Int32) (s2 : ms_S) (hf : mf_canPass s = some (v, s2)) (hK : Q (some (.int v)) (ms_H s2)) : mm_go C mm_Mk mm_Fk P_X12_canPass Q P_X12_canPass [(0, .ref 0)] [] (ms_H s) 0 0 := by
  unfold mf_canPass at hf
  obtain ⟨r_1, hr_1, hf⟩ := mo_bind hf
  obtain ⟨v_1, s_1⟩ := r_1
  by_cases c_2 : v_1 = (0 : Int32)
  · have hf := mo_pos hf c_2
    obtain ⟨rfl, rfl⟩ := mo_pair hf
    exact ⟨5, (h_areThere s  v_1 s_1 _ hr_1 (And.intro (fun _ => (And.intro rfl hK)) (fun q => absurd c_2 q)))⟩
  · have hf := mo_neg hf c_2
    obtain ⟨r_3, hr_3, hf⟩ := mo_bind hf
    obtain ⟨v_3, s_3⟩ := r_3
    by_cases c_4 : v_3 = (0 : Int32)
    · have hf := mo_pos hf c_4
      obtain ⟨rfl, rfl⟩ := mo_pair hf
      exact ⟨8, (h_areThere s  v_1 s_1 _ hr_1 (And.intro (fun q => absurd q c_2) (fun _ => (h_isAsleep s_1  v_3 s_3 _ hr_3 (And.intro (fun _ => (And.intro rfl hK)) (fun q => absurd c_4 q))))))⟩
    · have hf := mo_neg hf c_4
      obtain ⟨r_5, hr_5, hf⟩ := mo_bind hf
      obtain ⟨v_5, s_5⟩ := r_5
      by_cases c_6 : v_5 = (0 : Int32)
      · have hf := mo_pos hf c_6
        obtain ⟨rfl, rfl⟩ := mo_pair hf
        exact ⟨12, (h_areThere s  v_1 s_1 _ hr_1 (And.intro (fun q => absurd q c_2) (fun _ => (h_isAsleep s_1  v_3 s_3 _ hr_3 (And.intro (fun q => absurd q c_4) (fun _ => (h_canBits s_3  v_5 s_5 _ hr_5 (And.intro (fun q => absurd c_6 q) (fun _ => (And.intro rfl hK))))))))))⟩
      · have hf := mo_neg hf c_6
        obtain ⟨rfl, rfl⟩ := mo_pair hf
        exact ⟨11, (h_areThere s  v_1 s_1 _ hr_1 (And.intro (fun q => absurd q c_2) (fun _ => (h_isAsleep s_1  v_3 s_3 _ hr_3 (And.intro (fun q => absurd q c_4) (fun _ => (h_canBits s_3  v_5 s_5 _ hr_5 (And.intro (fun _ => (And.intro rfl hK)) (fun q => absurd c_6 q)))))))))⟩
def mk_canPass (C : mm_C) : Prop := ∀ (s : ms_S)  (v : Int32) (s2 : ms_S) (Q : mm_R), mf_canPass s = some (v, s2) → Q (some (.int v)) (ms_H s2) → C 73 [.ref 0] (ms_H s) Q
set_option maxRecDepth 100000 in
theorem mt_canPass (B : mm_C) (d : Nat) : mk_canPass (mm_ct B mm_Mk mm_Fk mm_PC (d + 6)) := fun s v s2 Q hf hK => Or.inr (mb_canPass (mt_areThere B (d + 4)) (mt_isAsleep B (d + 4)) (mt_canBits B (d + 0)) s v s2 hf hK)
-- X12_pass
noncomputable def mf_pass (s : ms_S)  : Option (Int32 × ms_S) :=
((mf_copies s ).bind fun s_1 =>
((mf_canPass s_1 ).bind fun (v_2, s_2) =>
(if v_2 = (0 : Int32) then
some ((-1 : Int32), s_2)
else
((mf_passes s_2 ).bind fun s_4 =>
((mf_records s_4 ).bind fun s_5 =>
some ((s_5.2.1 47 0), s_5))))))
set_option maxHeartbeats 4000000 in
theorem mb_pass {C : mm_C} {Q : mm_R} (h_copies : mk_copies C) (h_canPass : mk_canPass C) (h_passes : mk_passes C) (h_records : mk_records C) (s : ms_S)  (v : Int32) (s2 : ms_S) (hf : mf_pass s = some (v, s2)) (hK : Q (some (.int v)) (ms_H s2)) : mm_go C mm_Mk mm_Fk P_X12_pass Q P_X12_pass [(0, .ref 0)] [] (ms_H s) 0 0 := by
  unfold mf_pass at hf
  obtain ⟨s_1, hr_1, hf⟩ := mo_bind hf
  obtain ⟨r_2, hr_2, hf⟩ := mo_bind hf
  obtain ⟨v_2, s_2⟩ := r_2
  by_cases c_3 : v_2 = (0 : Int32)
  · have hf := mo_pos hf c_3
    obtain ⟨rfl, rfl⟩ := mo_pair hf
    exact ⟨7, (h_copies s  s_1 _ hr_1 (h_canPass s_1  v_2 s_2 _ hr_2 (And.intro (fun q => absurd c_3 q) (fun _ => hK))))⟩
  · have hf := mo_neg hf c_3
    obtain ⟨s_4, hr_4, hf⟩ := mo_bind hf
    obtain ⟨s_5, hr_5, hf⟩ := mo_bind hf
    obtain ⟨rfl, rfl⟩ := mo_pair hf
    exact ⟨14, (h_copies s  s_1 _ hr_1 (h_canPass s_1  v_2 s_2 _ hr_2 (And.intro (fun _ => (h_passes s_2  s_4 _ hr_4 (h_records s_4  s_5 _ hr_5 (And.intro (mm_vi rfl) hK)))) (fun q => absurd c_3 q))))⟩
def mk_pass (C : mm_C) : Prop := ∀ (s : ms_S)  (v : Int32) (s2 : ms_S) (Q : mm_R), mf_pass s = some (v, s2) → Q (some (.int v)) (ms_H s2) → C 74 [.ref 0] (ms_H s) Q
set_option maxRecDepth 100000 in
theorem mt_pass (B : mm_C) (d : Nat) : mk_pass (mm_ct B mm_Mk mm_Fk mm_PC (d + 7)) := fun s v s2 Q hf hK => Or.inr (mb_pass (mt_copies B (d + 5)) (mt_canPass B (d + 0)) (mt_passes B (d + 2)) (mt_records B (d + 4)) s v s2 hf hK)
-- X12_hire
noncomputable def mf_hire_j25 (s : ms_S) (v1 : Int32) (v2 : Int32) : Option (Int32 × ms_S) :=
((mf_copies s ).bind fun s_8 =>
((mf_setsRow (ms_sA s_8 48 (upd (upd (s_8.2.1 48) 3 (v1)) 4 (v2))) ).bind fun s_9 =>
((mf_wagesOf s_9 ((0 : Int32))).bind fun (v_10, s_10) =>
((mf_wagesOf s_10 ((1 : Int32))).bind fun (v_11, s_11) =>
((mo_ag 12 (upd (s_11.2.1 48) 6 (((s_11.2.1 48 6) + (v_10 + v_11)))) ((7 : Int32) + v1)).bind fun x_12 =>
(bif mo_in ((7 : Int32) + v1) 12 then ((mo_ag 12 (upd (upd (s_11.2.1 48) 6 (((s_11.2.1 48 6) + (v_10 + v_11)))) (((7 : Int32) + v1)).toNatClampNeg ((x_12 + (1 : Int32)))) ((7 : Int32) + v2)).bind fun x_14 =>
(bif mo_in ((7 : Int32) + v2) 12 then ((mf_records (ms_sA s_11 48 (upd (upd (upd (s_11.2.1 48) 6 (((s_11.2.1 48 6) + (v_10 + v_11)))) (((7 : Int32) + v1)).toNatClampNeg ((x_12 + (1 : Int32)))) (((7 : Int32) + v2)).toNatClampNeg ((x_14 + (1 : Int32))))) ).bind fun s_16 =>
some ((v_10 + v_11), s_16)) else none)) else none))))))
set_option maxHeartbeats 4000000 in
theorem mb_hire_j25 {C : mm_C} {Q : mm_R} (h_isSpeaker : mk_isSpeaker C) (h_copies : mk_copies C) (h_setsRow : mk_setsRow C) (h_wagesOf : mk_wagesOf C) (h_records : mk_records C) (s : ms_S) (v1 : Int32) (v2 : Int32) (v : Int32) (s2 : ms_S) (hf : mf_hire_j25 s v1 v2 = some (v, s2)) (hK : Q (some (.int v)) (ms_H s2)) : mm_go C mm_Mk mm_Fk P_X12_hire Q (P_X12_hire.drop 25) [(0, .ref 0), (1, .int v1), (2, .int v2)] [] (ms_H s) 0 0 := by
  unfold mf_hire_j25 at hf
  obtain ⟨s_8, hr_8, hf⟩ := mo_bind hf
  obtain ⟨s_9, hr_9, hf⟩ := mo_bind hf
  obtain ⟨r_10, hr_10, hf⟩ := mo_bind hf
  obtain ⟨v_10, s_10⟩ := r_10
  obtain ⟨r_11, hr_11, hf⟩ := mo_bind hf
  obtain ⟨v_11, s_11⟩ := r_11
  obtain ⟨x_12, hx_12, hf⟩ := mo_bind hf
  obtain ⟨hi_12, rfl⟩ := mo_ag_inv hx_12
  obtain ⟨hi_13, hf⟩ := mo_if hf
  obtain ⟨x_14, hx_14, hf⟩ := mo_bind hf
  obtain ⟨hi_14, rfl⟩ := mo_ag_inv hx_14
  obtain ⟨hi_15, hf⟩ := mo_if hf
  obtain ⟨s_16, hr_16, hf⟩ := mo_bind hf
  obtain ⟨rfl, rfl⟩ := mo_pair hf
  exact ⟨54, (h_copies s  s_8 _ hr_8 (And.intro (mm_vi rfl) (And.intro (mm_vi rfl) (h_setsRow (ms_sA s_8 48 (upd (upd (s_8.2.1 48) 3 (v1)) 4 (v2)))  s_9 _ hr_9 (h_wagesOf s_9 ((0 : Int32)) v_10 s_10 _ hr_10 (h_wagesOf s_10 ((1 : Int32)) v_11 s_11 _ hr_11 (And.intro (mm_vi rfl) (And.intro (mm_vi rfl) (And.intro hi_12 (And.intro hi_13 (And.intro hi_14 (And.intro hi_15 (h_records (ms_sA s_11 48 (upd (upd (upd (s_11.2.1 48) 6 (((s_11.2.1 48 6) + (v_10 + v_11)))) (((7 : Int32) + v1)).toNatClampNeg ((((upd (s_11.2.1 48) 6 (((s_11.2.1 48 6) + (v_10 + v_11)))) (((7 : Int32) + v1)).toNatClampNeg) + (1 : Int32)))) (((7 : Int32) + v2)).toNatClampNeg ((((upd (upd (s_11.2.1 48) 6 (((s_11.2.1 48 6) + (v_10 + v_11)))) (((7 : Int32) + v1)).toNatClampNeg ((((upd (s_11.2.1 48) 6 (((s_11.2.1 48 6) + (v_10 + v_11)))) (((7 : Int32) + v1)).toNatClampNeg) + (1 : Int32)))) (((7 : Int32) + v2)).toNatClampNeg) + (1 : Int32)))))  s_16 _ hr_16 hK)))))))))))))⟩
noncomputable def mf_hire (s : ms_S) (a0 : Int32) (a1 : Int32) : Option (Int32 × ms_S) :=
((mf_isSpeaker s (a0)).bind fun (v_1, s_1) =>
(if v_1 = (0 : Int32) then
some ((-1 : Int32), s_1)
else
((mf_isSpeaker s_1 (a1)).bind fun (v_3, s_3) =>
(if v_3 = (0 : Int32) then
some ((-1 : Int32), s_3)
else
(if a0 = a1 then
some ((-1 : Int32), s_3)
else
(if (s_3.2.1 47 3) = a0 then
(if (s_3.2.1 47 4) = a1 then
some ((-1 : Int32), s_3)
else
(mf_hire_j25 (s_3) (a0) (a1)))
else
(mf_hire_j25 (s_3) (a0) (a1))))))))
set_option maxHeartbeats 4000000 in
theorem mb_hire {C : mm_C} {Q : mm_R} (h_isSpeaker : mk_isSpeaker C) (h_copies : mk_copies C) (h_setsRow : mk_setsRow C) (h_wagesOf : mk_wagesOf C) (h_records : mk_records C) (s : ms_S) (a0 : Int32) (a1 : Int32) (v : Int32) (s2 : ms_S) (hf : mf_hire s a0 a1 = some (v, s2)) (hK : Q (some (.int v)) (ms_H s2)) : mm_go C mm_Mk mm_Fk P_X12_hire Q P_X12_hire [(0, .ref 0), (1, .int a0), (2, .int a1)] [] (ms_H s) 0 0 := by
  unfold mf_hire at hf
  obtain ⟨r_1, hr_1, hf⟩ := mo_bind hf
  obtain ⟨v_1, s_1⟩ := r_1
  by_cases c_2 : v_1 = (0 : Int32)
  · have hf := mo_pos hf c_2
    obtain ⟨rfl, rfl⟩ := mo_pair hf
    exact ⟨6, (h_isSpeaker s (a0) v_1 s_1 _ hr_1 (And.intro (fun _ => hK) (fun q => absurd c_2 q)))⟩
  · have hf := mo_neg hf c_2
    obtain ⟨r_3, hr_3, hf⟩ := mo_bind hf
    obtain ⟨v_3, s_3⟩ := r_3
    by_cases c_4 : v_3 = (0 : Int32)
    · have hf := mo_pos hf c_4
      obtain ⟨rfl, rfl⟩ := mo_pair hf
      exact ⟨10, (h_isSpeaker s (a0) v_1 s_1 _ hr_1 (And.intro (fun q => absurd q c_2) (fun _ => (h_isSpeaker s_1 (a1) v_3 s_3 _ hr_3 (And.intro (fun _ => hK) (fun q => absurd c_4 q))))))⟩
    · have hf := mo_neg hf c_4
      by_cases c_5 : a0 = a1
      · have hf := mo_pos hf c_5
        obtain ⟨rfl, rfl⟩ := mo_pair hf
        exact ⟨13, (h_isSpeaker s (a0) v_1 s_1 _ hr_1 (And.intro (fun q => absurd q c_2) (fun _ => (h_isSpeaker s_1 (a1) v_3 s_3 _ hr_3 (And.intro (fun q => absurd q c_4) (fun _ => (And.intro (fun _ => hK) (fun q => absurd c_5 q))))))))⟩
      · have hf := mo_neg hf c_5
        by_cases c_6 : (s_3.2.1 47 3) = a0
        · have hf := mo_pos hf c_6
          by_cases c_7 : (s_3.2.1 47 4) = a1
          · have hf := mo_pos hf c_7
            obtain ⟨rfl, rfl⟩ := mo_pair hf
            exact ⟨25, (h_isSpeaker s (a0) v_1 s_1 _ hr_1 (And.intro (fun q => absurd q c_2) (fun _ => (h_isSpeaker s_1 (a1) v_3 s_3 _ hr_3 (And.intro (fun q => absurd q c_4) (fun _ => (And.intro (fun q => absurd q c_5) (fun _ => (And.intro (mm_vi rfl) (And.intro (fun q => absurd c_6 q) (fun _ => (And.intro (mm_vi rfl) (And.intro (fun q => absurd c_7 q) (fun _ => hK))))))))))))))⟩
          · have hf := mo_neg hf c_7
            refine mm_adv 23 (cs' := P_X12_hire.drop 25) (l' := [(0, .ref 0), (1, .int a0), (2, .int a1)]) (st' := []) (h' := ms_H s_3) (bc' := 0) (bs' := 0) (fun n g => (h_isSpeaker s (a0) v_1 s_1 _ hr_1 (And.intro (fun q => absurd q c_2) (fun _ => (h_isSpeaker s_1 (a1) v_3 s_3 _ hr_3 (And.intro (fun q => absurd q c_4) (fun _ => (And.intro (fun q => absurd q c_5) (fun _ => (And.intro (mm_vi rfl) (And.intro (fun q => absurd c_6 q) (fun _ => (And.intro (mm_vi rfl) (And.intro (fun _ => g) (fun q => absurd c_7 q))))))))))))))) ?_
            refine mm_re (l' := [(0, .ref 0), (1, .int a0), (2, .int a1)]) (c := [(0, .ref 0), (1, .int a0), (2, .int a1)]) ?_ rfl rfl
            exact mb_hire_j25 h_isSpeaker h_copies h_setsRow h_wagesOf h_records s_3 (a0) (a1) _ _ hf hK
        · have hf := mo_neg hf c_6
          refine mm_adv 17 (cs' := P_X12_hire.drop 25) (l' := [(0, .ref 0), (1, .int a0), (2, .int a1)]) (st' := []) (h' := ms_H s_3) (bc' := 0) (bs' := 0) (fun n g => (h_isSpeaker s (a0) v_1 s_1 _ hr_1 (And.intro (fun q => absurd q c_2) (fun _ => (h_isSpeaker s_1 (a1) v_3 s_3 _ hr_3 (And.intro (fun q => absurd q c_4) (fun _ => (And.intro (fun q => absurd q c_5) (fun _ => (And.intro (mm_vi rfl) (And.intro (fun _ => g) (fun q => absurd c_6 q)))))))))))) ?_
          refine mm_re (l' := [(0, .ref 0), (1, .int a0), (2, .int a1)]) (c := [(0, .ref 0), (1, .int a0), (2, .int a1)]) ?_ rfl rfl
          exact mb_hire_j25 h_isSpeaker h_copies h_setsRow h_wagesOf h_records s_3 (a0) (a1) _ _ hf hK
def mk_hire (C : mm_C) : Prop := ∀ (s : ms_S) (a0 : Int32) (a1 : Int32) (v : Int32) (s2 : ms_S) (Q : mm_R), mf_hire s a0 a1 = some (v, s2) → Q (some (.int v)) (ms_H s2) → C 75 [.ref 0, .int a0, .int a1] (ms_H s) Q
set_option maxRecDepth 100000 in
theorem mt_hire (B : mm_C) (d : Nat) : mk_hire (mm_ct B mm_Mk mm_Fk mm_PC (d + 4)) := fun s a0 a1 v s2 Q hf hK => Or.inr (mb_hire (mt_isSpeaker B (d + 1)) (mt_copies B (d + 2)) (mt_setsRow B (d + 2)) (mt_wagesOf B (d + 0)) (mt_records B (d + 1)) s a0 a1 v s2 hf hK)
-- X12_set
noncomputable def mf_set_j23 (s : ms_S)  : Option (Int32 × ms_S) :=
((mf_copies s ).bind fun s_5 =>
((mf_setsRow s_5 ).bind fun s_6 =>
((mf_records s_6 ).bind fun s_7 =>
some ((1 : Int32), s_7))))
set_option maxHeartbeats 4000000 in
theorem mb_set_j23 {C : mm_C} {Q : mm_R} (h_copies : mk_copies C) (h_setsRow : mk_setsRow C) (h_records : mk_records C) (s : ms_S)  (v : Int32) (s2 : ms_S) (hf : mf_set_j23 s = some (v, s2)) (hK : Q (some (.int v)) (ms_H s2)) : mm_go C mm_Mk mm_Fk P_X12_set Q (P_X12_set.drop 23) [(0, .ref 0)] [] (ms_H s) 0 0 := by
  unfold mf_set_j23 at hf
  obtain ⟨s_5, hr_5, hf⟩ := mo_bind hf
  obtain ⟨s_6, hr_6, hf⟩ := mo_bind hf
  obtain ⟨s_7, hr_7, hf⟩ := mo_bind hf
  obtain ⟨rfl, rfl⟩ := mo_pair hf
  exact ⟨8, (h_copies s  s_5 _ hr_5 (h_setsRow s_5  s_6 _ hr_6 (h_records s_6  s_7 _ hr_7 (And.intro rfl hK))))⟩
noncomputable def mf_set (s : ms_S)  : Option (Int32 × ms_S) :=
((mo_ag 2 (s.2.1 29) (s.1 18)).bind fun x_1 =>
(if (s.2.1 47 0) = x_1 then
(if (s.2.1 47 1) = (0 : Int32) then
(if (s.2.1 47 2) = (6 : Int32) then
some ((0 : Int32), s)
else
(mf_set_j23 (s)))
else
(mf_set_j23 (s)))
else
(mf_set_j23 (s))))
set_option maxHeartbeats 4000000 in
theorem mb_set {C : mm_C} {Q : mm_R} (h_copies : mk_copies C) (h_setsRow : mk_setsRow C) (h_records : mk_records C) (s : ms_S)  (v : Int32) (s2 : ms_S) (hf : mf_set s = some (v, s2)) (hK : Q (some (.int v)) (ms_H s2)) : mm_go C mm_Mk mm_Fk P_X12_set Q P_X12_set [(0, .ref 0)] [] (ms_H s) 0 0 := by
  unfold mf_set at hf
  obtain ⟨x_1, hx_1, hf⟩ := mo_bind hf
  obtain ⟨hi_1, rfl⟩ := mo_ag_inv hx_1
  by_cases c_2 : (s.2.1 47 0) = ((s.2.1 29) ((s.1 18)).toNatClampNeg)
  · have hf := mo_pos hf c_2
    by_cases c_3 : (s.2.1 47 1) = (0 : Int32)
    · have hf := mo_pos hf c_3
      by_cases c_4 : (s.2.1 47 2) = (6 : Int32)
      · have hf := mo_pos hf c_4
        obtain ⟨rfl, rfl⟩ := mo_pair hf
        exact ⟨23, (And.intro (mm_vi rfl) (And.intro hi_1 (And.intro (fun q => absurd c_2 q) (fun _ => (And.intro (mm_vi rfl) (And.intro (fun q => absurd c_3 q) (fun _ => (And.intro (mm_vi rfl) (And.intro (fun q => absurd c_4 q) (fun _ => (And.intro rfl hK)))))))))))⟩
      · have hf := mo_neg hf c_4
        refine mm_adv 21 (cs' := P_X12_set.drop 23) (l' := [(0, .ref 0)]) (st' := []) (h' := ms_H s) (bc' := 0) (bs' := 0) (fun n g => (And.intro (mm_vi rfl) (And.intro hi_1 (And.intro (fun q => absurd c_2 q) (fun _ => (And.intro (mm_vi rfl) (And.intro (fun q => absurd c_3 q) (fun _ => (And.intro (mm_vi rfl) (And.intro (fun _ => g) (fun q => absurd c_4 q))))))))))) ?_
        refine mm_re (l' := [(0, .ref 0)]) (c := [(0, .ref 0)]) ?_ rfl rfl
        exact mb_set_j23 h_copies h_setsRow h_records s _ _ hf hK
    · have hf := mo_neg hf c_3
      refine mm_adv 15 (cs' := P_X12_set.drop 23) (l' := [(0, .ref 0)]) (st' := []) (h' := ms_H s) (bc' := 0) (bs' := 0) (fun n g => (And.intro (mm_vi rfl) (And.intro hi_1 (And.intro (fun q => absurd c_2 q) (fun _ => (And.intro (mm_vi rfl) (And.intro (fun _ => g) (fun q => absurd c_3 q)))))))) ?_
      refine mm_re (l' := [(0, .ref 0)]) (c := [(0, .ref 0)]) ?_ rfl rfl
      exact mb_set_j23 h_copies h_setsRow h_records s _ _ hf hK
  · have hf := mo_neg hf c_2
    refine mm_adv 10 (cs' := P_X12_set.drop 23) (l' := [(0, .ref 0)]) (st' := []) (h' := ms_H s) (bc' := 0) (bs' := 0) (fun n g => (And.intro (mm_vi rfl) (And.intro hi_1 (And.intro (fun _ => g) (fun q => absurd c_2 q))))) ?_
    refine mm_re (l' := [(0, .ref 0)]) (c := [(0, .ref 0)]) ?_ rfl rfl
    exact mb_set_j23 h_copies h_setsRow h_records s _ _ hf hK
def mk_set (C : mm_C) : Prop := ∀ (s : ms_S)  (v : Int32) (s2 : ms_S) (Q : mm_R), mf_set s = some (v, s2) → Q (some (.int v)) (ms_H s2) → C 76 [.ref 0] (ms_H s) Q
set_option maxRecDepth 100000 in
theorem mt_set (B : mm_C) (d : Nat) : mk_set (mm_ct B mm_Mk mm_Fk mm_PC (d + 3)) := fun s v s2 Q hf hK => Or.inr (mb_set (mt_copies B (d + 1)) (mt_setsRow B (d + 1)) (mt_records B (d + 0)) s v s2 hf hK)
-- X12_isLong
noncomputable def mf_isLong (a0 : Int32) : Option (Int32) :=
((mf_in (a0) ((0 : Int32)) ((200 : Int32))).bind fun v_1 =>
(if v_1 &&& 1 = v_1 then some (v_1) else none))
set_option maxHeartbeats 4000000 in
theorem mb_isLong {C : mm_C} {Q : mm_R} (h_in : mk_in C) {h : mm_H} (a0 : Int32) (v : Int32) (hf : mf_isLong a0 = some v) (hK : Q (some (.int v)) h) : mm_go C mm_Mk mm_Fk P_X12_isLong Q P_X12_isLong [(0, .int a0)] [] h 0 0 := by
  unfold mf_isLong at hf
  obtain ⟨v_1, hr_1, hf⟩ := mo_bind hf
  obtain ⟨hb_2, hf⟩ := mo_ite hf
  obtain rfl := Option.some.inj hf
  exact ⟨5, (h_in _ (a0) ((0 : Int32)) ((200 : Int32)) v_1 _ hr_1 (And.intro hb_2 hK))⟩
def mk_isLong (C : mm_C) : Prop := ∀ (h : mm_H) (a0 : Int32) (v : Int32) (Q : mm_R), mf_isLong a0 = some v → Q (some (.int v)) h → C 77 [.int a0] h Q
set_option maxRecDepth 100000 in
theorem mt_isLong (B : mm_C) (d : Nat) : mk_isLong (mm_ct B mm_Mk mm_Fk mm_PC (d + 2)) := fun h a0 v Q hf hK => Or.inr (mb_isLong (mt_in B (d + 0)) a0 v hf hK)
-- X12_minutes
noncomputable def mf_minutes (s : ms_S) (a0 : Int32) : Option (Int32 × ms_S) :=
((mf_isLong (a0)).bind fun v_1 =>
(if v_1 = (0 : Int32) then
some ((-1 : Int32), s)
else
(if a0 = (0 : Int32) then
some ((s.2.1 47 5), s)
else
((mf_copies s ).bind fun s_4 =>
((mf_goes s_4 (a0)).bind fun s_5 =>
((mf_records s_5 ).bind fun s_6 =>
some ((s_6.2.1 47 5), s_6)))))))
set_option maxHeartbeats 4000000 in
theorem mb_minutes {C : mm_C} {Q : mm_R} (h_isLong : mk_isLong C) (h_copies : mk_copies C) (h_goes : mk_goes C) (h_records : mk_records C) (s : ms_S) (a0 : Int32) (v : Int32) (s2 : ms_S) (hf : mf_minutes s a0 = some (v, s2)) (hK : Q (some (.int v)) (ms_H s2)) : mm_go C mm_Mk mm_Fk P_X12_minutes Q P_X12_minutes [(0, .ref 0), (1, .int a0)] [] (ms_H s) 0 0 := by
  unfold mf_minutes at hf
  obtain ⟨v_1, hr_1, hf⟩ := mo_bind hf
  by_cases c_2 : v_1 = (0 : Int32)
  · have hf := mo_pos hf c_2
    obtain ⟨rfl, rfl⟩ := mo_pair hf
    exact ⟨5, (h_isLong _ (a0) v_1 _ hr_1 (And.intro (fun q => absurd c_2 q) (fun _ => hK)))⟩
  · have hf := mo_neg hf c_2
    by_cases c_3 : a0 = (0 : Int32)
    · have hf := mo_pos hf c_3
      obtain ⟨rfl, rfl⟩ := mo_pair hf
      exact ⟨10, (h_isLong _ (a0) v_1 _ hr_1 (And.intro (fun _ => (And.intro (fun q => absurd c_3 q) (fun _ => (And.intro (mm_vi rfl) hK)))) (fun q => absurd c_2 q)))⟩
    · have hf := mo_neg hf c_3
      obtain ⟨s_4, hr_4, hf⟩ := mo_bind hf
      obtain ⟨s_5, hr_5, hf⟩ := mo_bind hf
      obtain ⟨s_6, hr_6, hf⟩ := mo_bind hf
      obtain ⟨rfl, rfl⟩ := mo_pair hf
      exact ⟨17, (h_isLong _ (a0) v_1 _ hr_1 (And.intro (fun _ => (And.intro (fun _ => (h_copies s  s_4 _ hr_4 (h_goes s_4 (a0) s_5 _ hr_5 (h_records s_5  s_6 _ hr_6 (And.intro (mm_vi rfl) hK))))) (fun q => absurd c_3 q))) (fun q => absurd c_2 q)))⟩
def mk_minutes (C : mm_C) : Prop := ∀ (s : ms_S) (a0 : Int32) (v : Int32) (s2 : ms_S) (Q : mm_R), mf_minutes s a0 = some (v, s2) → Q (some (.int v)) (ms_H s2) → C 78 [.ref 0, .int a0] (ms_H s) Q
set_option maxRecDepth 100000 in
theorem mt_minutes (B : mm_C) (d : Nat) : mk_minutes (mm_ct B mm_Mk mm_Fk mm_PC (d + 8)) := fun s a0 v s2 Q hf hK => Or.inr (mb_minutes (mt_isLong B (d + 5)) (mt_copies B (d + 6)) (mt_goes B (d + 0)) (mt_records B (d + 5)) s a0 v s2 hf hK)
-- X12_undo
noncomputable def mf_undo_l13  : (Int32 × ms_S) → Option ((Int32 × ms_S) ⊕ ((ms_S))) := fun (w1, s) =>
(if (12 : Int32) ≤ w1 then
some (.inr (s))
else
((mo_ag 480 (s.2.1 55) (((12 : Int32) * (s.1 54)) + w1)).bind fun x_3 =>
(bif mo_in w1 12 then some (.inl ((w1 + (1 : Int32)), (ms_sA s 47 (upd (s.2.1 47) (w1).toNatClampNeg (x_3))))) else none)))
set_option maxHeartbeats 4000000 in
theorem mb_undo_l13 {C : mm_C} {Q : mm_R}   (t : Int32 × ms_S) (x : (ms_S)) (hl : mo_loop (mf_undo_l13 ) t = some x) (hK : (fun sy => mm_go C mm_Mk mm_Fk P_X12_undo Q (P_X12_undo.drop 31) [] [] (ms_H sy) 0 0) x) : (mo_c2 (fun y1 sy => mm_go C mm_Mk mm_Fk P_X12_undo Q (P_X12_undo.drop 13) [(0, .ref 0), (1, .int y1)] [] (ms_H sy) 0 0)) t := by
  refine mo_loop_go (G := (mo_c2 (fun y1 sy => mm_go C mm_Mk mm_Fk P_X12_undo Q (P_X12_undo.drop 13) [(0, .ref 0), (1, .int y1)] [] (ms_H sy) 0 0)) ) (K := (fun sy => mm_go C mm_Mk mm_Fk P_X12_undo Q (P_X12_undo.drop 31) [] [] (ms_H sy) 0 0) ) ?_ t x hl hK
  intro t r hf hK
  obtain ⟨w1, s⟩ := t
  unfold mf_undo_l13 at hf
  by_cases c_2 : (12 : Int32) ≤ w1
  · have hf := mo_pos hf c_2
    obtain rfl := Option.some.inj hf
    refine mm_adv 3 (cs' := P_X12_undo.drop 31) (l' := [(0, .ref 0), (1, .int w1)]) (st' := []) (h' := ms_H s) (bc' := 0) (bs' := 0) (fun n g => (And.intro (fun _ => g) (fun q => absurd c_2 q))) ?_
    exact mm_re (c := []) hK rfl rfl
  · have hf := mo_neg hf c_2
    obtain ⟨x_3, hx_3, hf⟩ := mo_bind hf
    obtain ⟨hi_3, rfl⟩ := mo_ag_inv hx_3
    obtain ⟨hi_4, hf⟩ := mo_if hf
    obtain rfl := Option.some.inj hf
    refine mm_adv 18 (cs' := P_X12_undo.drop 13) (l' := [(1, .int (w1 + (1 : Int32))), (0, .ref 0)]) (st' := []) (h' := ms_H (ms_sA s 47 (upd (s.2.1 47) (w1).toNatClampNeg (((s.2.1 55) ((((12 : Int32) * (s.1 54)) + w1)).toNatClampNeg))))) (bc' := 0) (bs' := 0) (fun n g => (And.intro (fun q => absurd q c_2) (fun _ => (And.intro hi_3 (And.intro hi_4 g))))) ?_
    exact mm_re (c := [(0, .ref 0), (1, .int (w1 + (1 : Int32)))]) hK rfl rfl
noncomputable def mf_undo (s : ms_S)  : Option (Int32 × ms_S) :=
(if (s.1 54) = (0 : Int32) then
some ((0 : Int32), s)
else
((mo_loop (mf_undo_l13 ) ((0 : Int32), (ms_sI s 54 (((s.1 54) - (1 : Int32)))))).bind fun s_5 =>
some ((1 : Int32), s_5)))
set_option maxHeartbeats 4000000 in
theorem mb_undo {C : mm_C} {Q : mm_R}  (s : ms_S)  (v : Int32) (s2 : ms_S) (hf : mf_undo s = some (v, s2)) (hK : Q (some (.int v)) (ms_H s2)) : mm_go C mm_Mk mm_Fk P_X12_undo Q P_X12_undo [(0, .ref 0)] [] (ms_H s) 0 0 := by
  unfold mf_undo at hf
  by_cases c_1 : (s.1 54) = (0 : Int32)
  · have hf := mo_pos hf c_1
    obtain ⟨rfl, rfl⟩ := mo_pair hf
    exact ⟨5, (And.intro (fun q => absurd c_1 q) (fun _ => (And.intro rfl hK)))⟩
  · have hf := mo_neg hf c_1
    obtain ⟨x_5, hl_5, hf⟩ := mo_bind hf
    refine mm_adv 11 (cs' := P_X12_undo.drop 13) (l' := [(1, .int (0 : Int32)), (0, .ref 0)]) (st' := []) (h' := ms_H (ms_sI s 54 (((s.1 54) - (1 : Int32))))) (bc' := 0) (bs' := 0) (fun n g => (And.intro (fun _ => (And.intro trivial g)) (fun q => absurd c_1 q))) ?_
    refine mm_re (l' := [(0, .ref 0), (1, .int (0 : Int32))]) (c := [(0, .ref 0), (1, .int (0 : Int32))]) ?_ rfl rfl
    refine mb_undo_l13   ((0 : Int32), (ms_sI s 54 (((s.1 54) - (1 : Int32))))) x_5 hl_5 ?_
    obtain ⟨s_5, rfl⟩ : ∃ q, q = x_5 := ⟨_, rfl⟩
    obtain ⟨rfl, rfl⟩ := mo_pair hf
    exact ⟨2, (And.intro rfl hK)⟩
def mk_undo (C : mm_C) : Prop := ∀ (s : ms_S)  (v : Int32) (s2 : ms_S) (Q : mm_R), mf_undo s = some (v, s2) → Q (some (.int v)) (ms_H s2) → C 79 [.ref 0] (ms_H s) Q
set_option maxRecDepth 100000 in
theorem mt_undo (B : mm_C) (d : Nat) : mk_undo (mm_ct B mm_Mk mm_Fk mm_PC (d + 1)) := fun s v s2 Q hf hK => Or.inr (mb_undo  s v s2 hf hK)
-- X12_who
noncomputable def mf_who (s : ms_S)  : Option (Int32 × ms_S) :=
((mf_copies s ).bind fun s_1 =>
((mf_fillsWho s_1 ).bind fun s_2 =>
((mf_numberNow s_2 ).bind fun (v_3, s_3) =>
((mo_ag 294 (s_3.2.1 52) v_3).bind fun x_4 =>
some (x_4, s_3)))))
set_option maxHeartbeats 4000000 in
theorem mb_who {C : mm_C} {Q : mm_R} (h_copies : mk_copies C) (h_fillsWho : mk_fillsWho C) (h_numberNow : mk_numberNow C) (s : ms_S)  (v : Int32) (s2 : ms_S) (hf : mf_who s = some (v, s2)) (hK : Q (some (.int v)) (ms_H s2)) : mm_go C mm_Mk mm_Fk P_X12_who Q P_X12_who [(0, .ref 0)] [] (ms_H s) 0 0 := by
  unfold mf_who at hf
  obtain ⟨s_1, hr_1, hf⟩ := mo_bind hf
  obtain ⟨s_2, hr_2, hf⟩ := mo_bind hf
  obtain ⟨r_3, hr_3, hf⟩ := mo_bind hf
  obtain ⟨v_3, s_3⟩ := r_3
  obtain ⟨x_4, hx_4, hf⟩ := mo_bind hf
  obtain ⟨hi_4, rfl⟩ := mo_ag_inv hx_4
  obtain ⟨rfl, rfl⟩ := mo_pair hf
  exact ⟨10, (h_copies s  s_1 _ hr_1 (h_fillsWho s_1  s_2 _ hr_2 (h_numberNow s_2  v_3 s_3 _ hr_3 (And.intro hi_4 hK))))⟩
def mk_who (C : mm_C) : Prop := ∀ (s : ms_S)  (v : Int32) (s2 : ms_S) (Q : mm_R), mf_who s = some (v, s2) → Q (some (.int v)) (ms_H s2) → C 80 [.ref 0] (ms_H s) Q
set_option maxRecDepth 100000 in
theorem mt_who (B : mm_C) (d : Nat) : mk_who (mm_ct B mm_Mk mm_Fk mm_PC (d + 9)) := fun s v s2 Q hf hK => Or.inr (mb_who (mt_copies B (d + 7)) (mt_fillsWho B (d + 0)) (mt_numberNow B (d + 6)) s v s2 hf hK)
-- X12_soon
noncomputable def mf_soon (s : ms_S)  : Option (Int32 × ms_S) :=
((mf_copies s ).bind fun s_1 =>
((mf_fillsWho s_1 ).bind fun s_2 =>
((mf_numberNow s_2 ).bind fun (v_3, s_3) =>
((mo_ag 294 (s_3.2.1 52) v_3).bind fun x_4 =>
(if x_4 = (0 : Int32) then
some ((-2 : Int32), s_3)
else
((mf_numberNow s_3 ).bind fun (v_6, s_6) =>
((mo_ag 294 (s_6.2.1 53) v_6).bind fun x_7 =>
some (x_7, s_6))))))))
set_option maxHeartbeats 4000000 in
theorem mb_soon {C : mm_C} {Q : mm_R} (h_copies : mk_copies C) (h_fillsWho : mk_fillsWho C) (h_numberNow : mk_numberNow C) (s : ms_S)  (v : Int32) (s2 : ms_S) (hf : mf_soon s = some (v, s2)) (hK : Q (some (.int v)) (ms_H s2)) : mm_go C mm_Mk mm_Fk P_X12_soon Q P_X12_soon [(0, .ref 0)] [] (ms_H s) 0 0 := by
  unfold mf_soon at hf
  obtain ⟨s_1, hr_1, hf⟩ := mo_bind hf
  obtain ⟨s_2, hr_2, hf⟩ := mo_bind hf
  obtain ⟨r_3, hr_3, hf⟩ := mo_bind hf
  obtain ⟨v_3, s_3⟩ := r_3
  obtain ⟨x_4, hx_4, hf⟩ := mo_bind hf
  obtain ⟨hi_4, rfl⟩ := mo_ag_inv hx_4
  by_cases c_5 : ((s_3.2.1 52) (v_3).toNatClampNeg) = (0 : Int32)
  · have hf := mo_pos hf c_5
    obtain ⟨rfl, rfl⟩ := mo_pair hf
    exact ⟨13, (h_copies s  s_1 _ hr_1 (h_fillsWho s_1  s_2 _ hr_2 (h_numberNow s_2  v_3 s_3 _ hr_3 (And.intro hi_4 (And.intro (fun q => absurd c_5 q) (fun _ => hK))))))⟩
  · have hf := mo_neg hf c_5
    obtain ⟨r_6, hr_6, hf⟩ := mo_bind hf
    obtain ⟨v_6, s_6⟩ := r_6
    obtain ⟨x_7, hx_7, hf⟩ := mo_bind hf
    obtain ⟨hi_7, rfl⟩ := mo_ag_inv hx_7
    obtain ⟨rfl, rfl⟩ := mo_pair hf
    exact ⟨16, (h_copies s  s_1 _ hr_1 (h_fillsWho s_1  s_2 _ hr_2 (h_numberNow s_2  v_3 s_3 _ hr_3 (And.intro hi_4 (And.intro (fun _ => (h_numberNow s_3  v_6 s_6 _ hr_6 (And.intro hi_7 hK))) (fun q => absurd c_5 q))))))⟩
def mk_soon (C : mm_C) : Prop := ∀ (s : ms_S)  (v : Int32) (s2 : ms_S) (Q : mm_R), mf_soon s = some (v, s2) → Q (some (.int v)) (ms_H s2) → C 81 [.ref 0] (ms_H s) Q
set_option maxRecDepth 100000 in
theorem mt_soon (B : mm_C) (d : Nat) : mk_soon (mm_ct B mm_Mk mm_Fk mm_PC (d + 9)) := fun s v s2 Q hf hK => Or.inr (mb_soon (mt_copies B (d + 7)) (mt_fillsWho B (d + 0)) (mt_numberNow B (d + 6)) s v s2 hf hK)
-- X12_worthOf
noncomputable def mf_worthOf (s : ms_S) (a0 : Int32) : Option (Int32 × ms_S) :=
((mo_ag 294 (s.2.1 52) a0).bind fun x_1 =>
(if x_1 = ((1 : Int32) + (s.2.1 48 1)) then
((mo_ag 294 (s.2.1 53) a0).bind fun x_3 =>
some (((100000 : Int32) - x_3), s))
else
((mo_ag 294 (s.2.1 52) a0).bind fun x_4 =>
(if x_4 = (0 : Int32) then
some ((50000 : Int32), s)
else
((mo_ag 294 (s.2.1 53) a0).bind fun x_6 =>
some (x_6, s))))))
set_option maxHeartbeats 4000000 in
theorem mb_worthOf {C : mm_C} {Q : mm_R}  (s : ms_S) (a0 : Int32) (v : Int32) (s2 : ms_S) (hf : mf_worthOf s a0 = some (v, s2)) (hK : Q (some (.int v)) (ms_H s2)) : mm_go C mm_Mk mm_Fk P_X12_worthOf Q P_X12_worthOf [(0, .ref 0), (1, .int a0)] [] (ms_H s) 0 0 := by
  unfold mf_worthOf at hf
  obtain ⟨x_1, hx_1, hf⟩ := mo_bind hf
  obtain ⟨hi_1, rfl⟩ := mo_ag_inv hx_1
  by_cases c_2 : ((s.2.1 52) (a0).toNatClampNeg) = ((1 : Int32) + (s.2.1 48 1))
  · have hf := mo_pos hf c_2
    obtain ⟨x_3, hx_3, hf⟩ := mo_bind hf
    obtain ⟨hi_3, rfl⟩ := mo_ag_inv hx_3
    obtain ⟨rfl, rfl⟩ := mo_pair hf
    exact ⟨21, (And.intro (mm_vi rfl) (And.intro hi_1 (And.intro (fun q => absurd c_2 q) (fun _ => (And.intro hi_3 hK)))))⟩
  · have hf := mo_neg hf c_2
    obtain ⟨x_4, hx_4, hf⟩ := mo_bind hf
    obtain ⟨hi_4, rfl⟩ := mo_ag_inv hx_4
    by_cases c_5 : ((s.2.1 52) (a0).toNatClampNeg) = (0 : Int32)
    · have hf := mo_pos hf c_5
      obtain ⟨rfl, rfl⟩ := mo_pair hf
      exact ⟨21, (And.intro (mm_vi rfl) (And.intro hi_1 (And.intro (fun _ => (And.intro hi_4 (And.intro (fun q => absurd c_5 q) (fun _ => hK)))) (fun q => absurd c_2 q))))⟩
    · have hf := mo_neg hf c_5
      obtain ⟨x_6, hx_6, hf⟩ := mo_bind hf
      obtain ⟨hi_6, rfl⟩ := mo_ag_inv hx_6
      obtain ⟨rfl, rfl⟩ := mo_pair hf
      exact ⟨23, (And.intro (mm_vi rfl) (And.intro hi_1 (And.intro (fun _ => (And.intro hi_4 (And.intro (fun _ => (And.intro hi_6 hK)) (fun q => absurd c_5 q)))) (fun q => absurd c_2 q))))⟩
def mk_worthOf (C : mm_C) : Prop := ∀ (s : ms_S) (a0 : Int32) (v : Int32) (s2 : ms_S) (Q : mm_R), mf_worthOf s a0 = some (v, s2) → Q (some (.int v)) (ms_H s2) → C 82 [.ref 0, .int a0] (ms_H s) Q
set_option maxRecDepth 100000 in
theorem mt_worthOf (B : mm_C) (d : Nat) : mk_worthOf (mm_ct B mm_Mk mm_Fk mm_PC (d + 1)) := fun s a0 v s2 Q hf hK => Or.inr (mb_worthOf  s a0 v s2 hf hK)
-- X12_best
noncomputable def mf_best_j37 (s : ms_S) (v1 : Int32) (v2 : Int32) (v3 : Int32) : Option ((Int32 × Int32 × Int32 × ms_S) ⊕ ((Int32 × ms_S))) :=
some (.inl (v1, v2, (v3 + (1 : Int32)), s))
set_option maxHeartbeats 4000000 in
theorem mb_best_j37 {C : mm_C} {Q : mm_R} (h_copies : mk_copies C) (h_fillsWho : mk_fillsWho C) (h_numberNow : mk_numberNow C) (h_worthOf : mk_worthOf C) (s : ms_S) (v1 : Int32) (v2 : Int32) (v3 : Int32) (r : (Int32 × Int32 × Int32 × ms_S) ⊕ ((Int32 × ms_S))) (hf : mf_best_j37 s v1 v2 v3 = some r) (hK : mo_sum (mo_c2 (fun y1 => (mo_c2 (fun y2 => (mo_c2 (fun y3 sy => mm_go C mm_Mk mm_Fk P_X12_best Q (P_X12_best.drop 10) [(0, .ref 0), (1, .int y1), (2, .int y2), (3, .int y3)] [] (ms_H sy) 0 0))))))  (mo_c2 (fun y1 sy => mm_go C mm_Mk mm_Fk P_X12_best Q (P_X12_best.drop 39) [(1, .int y1)] [] (ms_H sy) 0 0))  r) : mm_go C mm_Mk mm_Fk P_X12_best Q (P_X12_best.drop 37) [(0, .ref 0), (1, .int v1), (2, .int v2), (3, .int v3)] [] (ms_H s) 0 0 := by
  unfold mf_best_j37 at hf
  obtain rfl := Option.some.inj hf
  refine mm_adv 2 (cs' := P_X12_best.drop 10) (l' := [(3, .int (v3 + (1 : Int32))), (0, .ref 0), (1, .int v1), (2, .int v2)]) (st' := []) (h' := ms_H s) (bc' := 0) (bs' := 0) (fun n g => g) ?_
  exact mm_re (c := [(0, .ref 0), (1, .int v1), (2, .int v2), (3, .int (v3 + (1 : Int32)))]) hK rfl rfl
noncomputable def mf_best_l10  : (Int32 × Int32 × Int32 × ms_S) → Option ((Int32 × Int32 × Int32 × ms_S) ⊕ ((Int32 × ms_S))) := fun (w1, w2, w3, s) =>
(if (7 : Int32) ≤ w3 then
some (.inr (w1, s))
else
((mf_numberNow s ).bind fun (v_4, s_4) =>
((mo_ag 2058 (s_4.2.1 51) (((7 : Int32) * v_4) + w3)).bind fun x_5 =>
(if x_5 < (0 : Int32) then
(mf_best_j37 (s_4) (w1) (w2) (w3))
else
((mf_worthOf s_4 (x_5)).bind fun (v_7, s_7) =>
(if w2 < v_7 then
((mf_worthOf s_7 (x_5)).bind fun (v_9, s_9) =>
(mf_best_j37 (s_9) (w3) (v_9) (w3)))
else
(mf_best_j37 (s_7) (w1) (w2) (w3))))))))
set_option maxHeartbeats 4000000 in
theorem mb_best_l10 {C : mm_C} {Q : mm_R} (h_copies : mk_copies C) (h_fillsWho : mk_fillsWho C) (h_numberNow : mk_numberNow C) (h_worthOf : mk_worthOf C)  (t : Int32 × Int32 × Int32 × ms_S) (x : (Int32 × ms_S)) (hl : mo_loop (mf_best_l10 ) t = some x) (hK : (mo_c2 (fun y1 sy => mm_go C mm_Mk mm_Fk P_X12_best Q (P_X12_best.drop 39) [(1, .int y1)] [] (ms_H sy) 0 0)) x) : (mo_c2 (fun y1 => (mo_c2 (fun y2 => (mo_c2 (fun y3 sy => mm_go C mm_Mk mm_Fk P_X12_best Q (P_X12_best.drop 10) [(0, .ref 0), (1, .int y1), (2, .int y2), (3, .int y3)] [] (ms_H sy) 0 0)))))) t := by
  refine mo_loop_go (G := (mo_c2 (fun y1 => (mo_c2 (fun y2 => (mo_c2 (fun y3 sy => mm_go C mm_Mk mm_Fk P_X12_best Q (P_X12_best.drop 10) [(0, .ref 0), (1, .int y1), (2, .int y2), (3, .int y3)] [] (ms_H sy) 0 0)))))) ) (K := (mo_c2 (fun y1 sy => mm_go C mm_Mk mm_Fk P_X12_best Q (P_X12_best.drop 39) [(1, .int y1)] [] (ms_H sy) 0 0)) ) ?_ t x hl hK
  intro t r hf hK
  obtain ⟨w1, w2, w3, s⟩ := t
  unfold mf_best_l10 at hf
  by_cases c_3 : (7 : Int32) ≤ w3
  · have hf := mo_pos hf c_3
    obtain rfl := Option.some.inj hf
    refine mm_adv 3 (cs' := P_X12_best.drop 39) (l' := [(0, .ref 0), (1, .int w1), (2, .int w2), (3, .int w3)]) (st' := []) (h' := ms_H s) (bc' := 0) (bs' := 0) (fun n g => (And.intro (fun _ => g) (fun q => absurd c_3 q))) ?_
    exact mm_re (c := [(1, .int w1)]) hK rfl rfl
  · have hf := mo_neg hf c_3
    obtain ⟨r_4, hr_4, hf⟩ := mo_bind hf
    obtain ⟨v_4, s_4⟩ := r_4
    obtain ⟨x_5, hx_5, hf⟩ := mo_bind hf
    obtain ⟨hi_5, rfl⟩ := mo_ag_inv hx_5
    by_cases c_6 : ((s_4.2.1 51) ((((7 : Int32) * v_4) + w3)).toNatClampNeg) < (0 : Int32)
    · have hf := mo_pos hf c_6
      refine mm_adv 15 (cs' := P_X12_best.drop 37) (l' := [(4, .int ((s_4.2.1 51) ((((7 : Int32) * v_4) + w3)).toNatClampNeg)), (0, .ref 0), (1, .int w1), (2, .int w2), (3, .int w3)]) (st' := []) (h' := ms_H s_4) (bc' := 0) (bs' := 0) (fun n g => (And.intro (fun q => absurd q c_3) (fun _ => (h_numberNow s  v_4 s_4 _ hr_4 (And.intro hi_5 (And.intro (fun _ => g) (fun q => absurd c_6 q))))))) ?_
      refine mm_re (l' := [(0, .ref 0), (1, .int w1), (2, .int w2), (3, .int w3)]) (c := [(0, .ref 0), (1, .int w1), (2, .int w2), (3, .int w3)]) ?_ rfl rfl
      exact mb_best_j37 h_copies h_fillsWho h_numberNow h_worthOf s_4 (w1) (w2) (w3) _ hf hK
    · have hf := mo_neg hf c_6
      obtain ⟨r_7, hr_7, hf⟩ := mo_bind hf
      obtain ⟨v_7, s_7⟩ := r_7
      by_cases c_8 : w2 < v_7
      · have hf := mo_pos hf c_8
        obtain ⟨r_9, hr_9, hf⟩ := mo_bind hf
        obtain ⟨v_9, s_9⟩ := r_9
        refine mm_adv 26 (cs' := P_X12_best.drop 37) (l' := [(2, .int v_9), (1, .int w3), (4, .int ((s_4.2.1 51) ((((7 : Int32) * v_4) + w3)).toNatClampNeg)), (0, .ref 0), (3, .int w3)]) (st' := []) (h' := ms_H s_9) (bc' := 0) (bs' := 0) (fun n g => (And.intro (fun q => absurd q c_3) (fun _ => (h_numberNow s  v_4 s_4 _ hr_4 (And.intro hi_5 (And.intro (fun q => absurd q c_6) (fun _ => (h_worthOf s_4 (((s_4.2.1 51) ((((7 : Int32) * v_4) + w3)).toNatClampNeg)) v_7 s_7 _ hr_7 (And.intro (fun _ => (h_worthOf s_7 (((s_4.2.1 51) ((((7 : Int32) * v_4) + w3)).toNatClampNeg)) v_9 s_9 _ hr_9 g)) (fun q => absurd c_8 q)))))))))) ?_
        refine mm_re (l' := [(0, .ref 0), (1, .int w3), (2, .int v_9), (3, .int w3)]) (c := [(0, .ref 0), (1, .int w3), (2, .int v_9), (3, .int w3)]) ?_ rfl rfl
        exact mb_best_j37 h_copies h_fillsWho h_numberNow h_worthOf s_9 (w3) (v_9) (w3) _ hf hK
      · have hf := mo_neg hf c_8
        refine mm_adv 21 (cs' := P_X12_best.drop 37) (l' := [(4, .int ((s_4.2.1 51) ((((7 : Int32) * v_4) + w3)).toNatClampNeg)), (0, .ref 0), (1, .int w1), (2, .int w2), (3, .int w3)]) (st' := []) (h' := ms_H s_7) (bc' := 0) (bs' := 0) (fun n g => (And.intro (fun q => absurd q c_3) (fun _ => (h_numberNow s  v_4 s_4 _ hr_4 (And.intro hi_5 (And.intro (fun q => absurd q c_6) (fun _ => (h_worthOf s_4 (((s_4.2.1 51) ((((7 : Int32) * v_4) + w3)).toNatClampNeg)) v_7 s_7 _ hr_7 (And.intro (fun q => absurd q c_8) (fun _ => g)))))))))) ?_
        refine mm_re (l' := [(0, .ref 0), (1, .int w1), (2, .int w2), (3, .int w3)]) (c := [(0, .ref 0), (1, .int w1), (2, .int w2), (3, .int w3)]) ?_ rfl rfl
        exact mb_best_j37 h_copies h_fillsWho h_numberNow h_worthOf s_7 (w1) (w2) (w3) _ hf hK
noncomputable def mf_best (s : ms_S)  : Option (Int32 × ms_S) :=
((mf_copies s ).bind fun s_1 =>
((mf_fillsWho s_1 ).bind fun s_2 =>
((mo_loop (mf_best_l10 ) ((-2 : Int32), (-1 : Int32), (0 : Int32), s_2)).bind fun (e1_10, s_10) =>
some (e1_10, s_10))))
set_option maxHeartbeats 4000000 in
theorem mb_best {C : mm_C} {Q : mm_R} (h_copies : mk_copies C) (h_fillsWho : mk_fillsWho C) (h_numberNow : mk_numberNow C) (h_worthOf : mk_worthOf C) (s : ms_S)  (v : Int32) (s2 : ms_S) (hf : mf_best s = some (v, s2)) (hK : Q (some (.int v)) (ms_H s2)) : mm_go C mm_Mk mm_Fk P_X12_best Q P_X12_best [(0, .ref 0)] [] (ms_H s) 0 0 := by
  unfold mf_best at hf
  obtain ⟨s_1, hr_1, hf⟩ := mo_bind hf
  obtain ⟨s_2, hr_2, hf⟩ := mo_bind hf
  obtain ⟨x_10, hl_10, hf⟩ := mo_bind hf
  refine mm_adv 10 (cs' := P_X12_best.drop 10) (l' := [(3, .int (0 : Int32)), (2, .int (-1 : Int32)), (1, .int (-2 : Int32)), (0, .ref 0)]) (st' := []) (h' := ms_H s_2) (bc' := 0) (bs' := 0) (fun n g => (h_copies s  s_1 _ hr_1 (h_fillsWho s_1  s_2 _ hr_2 g))) ?_
  refine mm_re (l' := [(0, .ref 0), (1, .int (-2 : Int32)), (2, .int (-1 : Int32)), (3, .int (0 : Int32))]) (c := [(0, .ref 0), (1, .int (-2 : Int32)), (2, .int (-1 : Int32)), (3, .int (0 : Int32))]) ?_ rfl rfl
  refine mb_best_l10 h_copies h_fillsWho h_numberNow h_worthOf  ((-2 : Int32), (-1 : Int32), (0 : Int32), s_2) x_10 hl_10 ?_
  obtain ⟨e1_10, s_10⟩ := x_10
  obtain ⟨rfl, rfl⟩ := mo_pair hf
  exact ⟨2, hK⟩
def mk_best (C : mm_C) : Prop := ∀ (s : ms_S)  (v : Int32) (s2 : ms_S) (Q : mm_R), mf_best s = some (v, s2) → Q (some (.int v)) (ms_H s2) → C 83 [.ref 0] (ms_H s) Q
set_option maxRecDepth 100000 in
theorem mt_best (B : mm_C) (d : Nat) : mk_best (mm_ct B mm_Mk mm_Fk mm_PC (d + 9)) := fun s v s2 Q hf hK => Or.inr (mb_best (mt_copies B (d + 7)) (mt_fillsWho B (d + 0)) (mt_numberNow B (d + 6)) (mt_worthOf B (d + 7)) s v s2 hf hK)
-- X12_hangs
noncomputable def mf_hangs_j41 (s : ms_S) (v1 : Int32) (v2 : Int32) (v3 : Int32) : Option ((Int32 × Int32 × ms_S) ⊕ ((Int32 × ms_S))) :=
some (.inl (v2, (v3 + (1 : Int32)), s))
set_option maxHeartbeats 4000000 in
theorem mb_hangs_j41 {C : mm_C} {Q : mm_R} (h_copies : mk_copies C) (h_fillsWho : mk_fillsWho C) (h_numberNow : mk_numberNow C) (s : ms_S) (v1 : Int32) (v2 : Int32) (v3 : Int32) (r : (Int32 × Int32 × ms_S) ⊕ ((Int32 × ms_S))) (hf : mf_hangs_j41 s v1 v2 v3 = some r) (hK : mo_sum (mo_c2 (fun y2 => (mo_c2 (fun y3 sy => mm_go C mm_Mk mm_Fk P_X12_hangs Q (P_X12_hangs.drop 14) [(0, .ref 0), (1, .int v1), (2, .int y2), (3, .int y3)] [] (ms_H sy) 0 0))))  (mo_c2 (fun y2 sy => mm_go C mm_Mk mm_Fk P_X12_hangs Q (P_X12_hangs.drop 43) [(2, .int y2)] [] (ms_H sy) 0 0))  r) : mm_go C mm_Mk mm_Fk P_X12_hangs Q (P_X12_hangs.drop 41) [(0, .ref 0), (1, .int v1), (2, .int v2), (3, .int v3)] [] (ms_H s) 0 0 := by
  unfold mf_hangs_j41 at hf
  obtain rfl := Option.some.inj hf
  refine mm_adv 2 (cs' := P_X12_hangs.drop 14) (l' := [(3, .int (v3 + (1 : Int32))), (0, .ref 0), (1, .int v1), (2, .int v2)]) (st' := []) (h' := ms_H s) (bc' := 0) (bs' := 0) (fun n g => g) ?_
  exact mm_re (c := [(0, .ref 0), (1, .int v1), (2, .int v2), (3, .int (v3 + (1 : Int32)))]) hK rfl rfl
noncomputable def mf_hangs_l14 (v1 : Int32) : (Int32 × Int32 × ms_S) → Option ((Int32 × Int32 × ms_S) ⊕ ((Int32 × ms_S))) := fun (w2, w3, s) =>
((mo_ag 2 (s.2.1 25) (s.1 18)).bind fun x_5 =>
(if x_5 ≤ w3 then
some (.inr (w2, s))
else
((mf_fillsWho (ms_sI s 50 (((1 : Int32) <<< (w3 &&& 31)))) ).bind fun s_7 =>
((mf_numberNow s_7 ).bind fun (v_8, s_8) =>
((mo_ag 294 (s_8.2.1 52) v_8).bind fun x_9 =>
(if x_9 = v1 then
(mf_hangs_j41 (s_8) (v1) (w2) (w3))
else
(mf_hangs_j41 (s_8) (v1) ((w2 ||| ((1 : Int32) <<< (w3 &&& 31)))) (w3))))))))
set_option maxHeartbeats 4000000 in
theorem mb_hangs_l14 {C : mm_C} {Q : mm_R} (h_copies : mk_copies C) (h_fillsWho : mk_fillsWho C) (h_numberNow : mk_numberNow C) (v1 : Int32) (t : Int32 × Int32 × ms_S) (x : (Int32 × ms_S)) (hl : mo_loop (mf_hangs_l14 v1) t = some x) (hK : (mo_c2 (fun y2 sy => mm_go C mm_Mk mm_Fk P_X12_hangs Q (P_X12_hangs.drop 43) [(2, .int y2)] [] (ms_H sy) 0 0)) x) : (mo_c2 (fun y2 => (mo_c2 (fun y3 sy => mm_go C mm_Mk mm_Fk P_X12_hangs Q (P_X12_hangs.drop 14) [(0, .ref 0), (1, .int v1), (2, .int y2), (3, .int y3)] [] (ms_H sy) 0 0)))) t := by
  refine mo_loop_go (G := (mo_c2 (fun y2 => (mo_c2 (fun y3 sy => mm_go C mm_Mk mm_Fk P_X12_hangs Q (P_X12_hangs.drop 14) [(0, .ref 0), (1, .int v1), (2, .int y2), (3, .int y3)] [] (ms_H sy) 0 0)))) ) (K := (mo_c2 (fun y2 sy => mm_go C mm_Mk mm_Fk P_X12_hangs Q (P_X12_hangs.drop 43) [(2, .int y2)] [] (ms_H sy) 0 0)) ) ?_ t x hl hK
  intro t r hf hK
  obtain ⟨w2, w3, s⟩ := t
  unfold mf_hangs_l14 at hf
  obtain ⟨x_5, hx_5, hf⟩ := mo_bind hf
  obtain ⟨hi_5, rfl⟩ := mo_ag_inv hx_5
  by_cases c_6 : ((s.2.1 25) ((s.1 18)).toNatClampNeg) ≤ w3
  · have hf := mo_pos hf c_6
    obtain rfl := Option.some.inj hf
    refine mm_adv 7 (cs' := P_X12_hangs.drop 43) (l' := [(0, .ref 0), (1, .int v1), (2, .int w2), (3, .int w3)]) (st' := []) (h' := ms_H s) (bc' := 0) (bs' := 0) (fun n g => (And.intro hi_5 (And.intro (fun _ => g) (fun q => absurd c_6 q)))) ?_
    exact mm_re (c := [(2, .int w2)]) hK rfl rfl
  · have hf := mo_neg hf c_6
    obtain ⟨s_7, hr_7, hf⟩ := mo_bind hf
    obtain ⟨r_8, hr_8, hf⟩ := mo_bind hf
    obtain ⟨v_8, s_8⟩ := r_8
    obtain ⟨x_9, hx_9, hf⟩ := mo_bind hf
    obtain ⟨hi_9, rfl⟩ := mo_ag_inv hx_9
    by_cases c_10 : ((s_8.2.1 52) (v_8).toNatClampNeg) = v1
    · have hf := mo_pos hf c_10
      refine mm_adv 21 (cs' := P_X12_hangs.drop 41) (l' := [(0, .ref 0), (1, .int v1), (2, .int w2), (3, .int w3)]) (st' := []) (h' := ms_H s_8) (bc' := 0) (bs' := 0) (fun n g => (And.intro hi_5 (And.intro (fun q => absurd q c_6) (fun _ => (And.intro trivial (h_fillsWho (ms_sI s 50 (((1 : Int32) <<< (w3 &&& 31))))  s_7 _ hr_7 (h_numberNow s_7  v_8 s_8 _ hr_8 (And.intro hi_9 (And.intro (fun _ => g) (fun q => absurd c_10 q)))))))))) ?_
      refine mm_re (l' := [(0, .ref 0), (1, .int v1), (2, .int w2), (3, .int w3)]) (c := [(0, .ref 0), (1, .int v1), (2, .int w2), (3, .int w3)]) ?_ rfl rfl
      exact mb_hangs_j41 h_copies h_fillsWho h_numberNow s_8 (v1) (w2) (w3) _ hf hK
    · have hf := mo_neg hf c_10
      refine mm_adv 27 (cs' := P_X12_hangs.drop 41) (l' := [(2, .int (w2 ||| ((1 : Int32) <<< (w3 &&& 31)))), (0, .ref 0), (1, .int v1), (3, .int w3)]) (st' := []) (h' := ms_H s_8) (bc' := 0) (bs' := 0) (fun n g => (And.intro hi_5 (And.intro (fun q => absurd q c_6) (fun _ => (And.intro trivial (h_fillsWho (ms_sI s 50 (((1 : Int32) <<< (w3 &&& 31))))  s_7 _ hr_7 (h_numberNow s_7  v_8 s_8 _ hr_8 (And.intro hi_9 (And.intro (fun q => absurd q c_10) (fun _ => g)))))))))) ?_
      refine mm_re (l' := [(0, .ref 0), (1, .int v1), (2, .int (w2 ||| ((1 : Int32) <<< (w3 &&& 31)))), (3, .int w3)]) (c := [(0, .ref 0), (1, .int v1), (2, .int (w2 ||| ((1 : Int32) <<< (w3 &&& 31)))), (3, .int w3)]) ?_ rfl rfl
      exact mb_hangs_j41 h_copies h_fillsWho h_numberNow s_8 (v1) ((w2 ||| ((1 : Int32) <<< (w3 &&& 31)))) (w3) _ hf hK
noncomputable def mf_hangs (s : ms_S)  : Option (Int32 × ms_S) :=
((mf_copies s ).bind fun s_1 =>
((mf_fillsWho s_1 ).bind fun s_2 =>
((mf_numberNow s_2 ).bind fun (v_3, s_3) =>
((mo_ag 294 (s_3.2.1 52) v_3).bind fun x_4 =>
((mo_loop (mf_hangs_l14 (x_4)) ((0 : Int32), (0 : Int32), s_3)).bind fun (e2_11, s_11) =>
some (e2_11, s_11))))))
set_option maxHeartbeats 4000000 in
theorem mb_hangs {C : mm_C} {Q : mm_R} (h_copies : mk_copies C) (h_fillsWho : mk_fillsWho C) (h_numberNow : mk_numberNow C) (s : ms_S)  (v : Int32) (s2 : ms_S) (hf : mf_hangs s = some (v, s2)) (hK : Q (some (.int v)) (ms_H s2)) : mm_go C mm_Mk mm_Fk P_X12_hangs Q P_X12_hangs [(0, .ref 0)] [] (ms_H s) 0 0 := by
  unfold mf_hangs at hf
  obtain ⟨s_1, hr_1, hf⟩ := mo_bind hf
  obtain ⟨s_2, hr_2, hf⟩ := mo_bind hf
  obtain ⟨r_3, hr_3, hf⟩ := mo_bind hf
  obtain ⟨v_3, s_3⟩ := r_3
  obtain ⟨x_4, hx_4, hf⟩ := mo_bind hf
  obtain ⟨hi_4, rfl⟩ := mo_ag_inv hx_4
  obtain ⟨x_11, hl_11, hf⟩ := mo_bind hf
  refine mm_adv 14 (cs' := P_X12_hangs.drop 14) (l' := [(3, .int (0 : Int32)), (2, .int (0 : Int32)), (1, .int ((s_3.2.1 52) (v_3).toNatClampNeg)), (0, .ref 0)]) (st' := []) (h' := ms_H s_3) (bc' := 0) (bs' := 0) (fun n g => (h_copies s  s_1 _ hr_1 (h_fillsWho s_1  s_2 _ hr_2 (h_numberNow s_2  v_3 s_3 _ hr_3 (And.intro hi_4 g))))) ?_
  refine mm_re (l' := [(0, .ref 0), (1, .int ((s_3.2.1 52) (v_3).toNatClampNeg)), (2, .int (0 : Int32)), (3, .int (0 : Int32))]) (c := [(0, .ref 0), (1, .int ((s_3.2.1 52) (v_3).toNatClampNeg)), (2, .int (0 : Int32)), (3, .int (0 : Int32))]) ?_ rfl rfl
  refine mb_hangs_l14 h_copies h_fillsWho h_numberNow (((s_3.2.1 52) (v_3).toNatClampNeg)) ((0 : Int32), (0 : Int32), s_3) x_11 hl_11 ?_
  obtain ⟨e2_11, s_11⟩ := x_11
  obtain ⟨rfl, rfl⟩ := mo_pair hf
  exact ⟨2, hK⟩
def mk_hangs (C : mm_C) : Prop := ∀ (s : ms_S)  (v : Int32) (s2 : ms_S) (Q : mm_R), mf_hangs s = some (v, s2) → Q (some (.int v)) (ms_H s2) → C 84 [.ref 0] (ms_H s) Q
set_option maxRecDepth 100000 in
theorem mt_hangs (B : mm_C) (d : Nat) : mk_hangs (mm_ct B mm_Mk mm_Fk mm_PC (d + 9)) := fun s v s2 Q hf hK => Or.inr (mb_hangs (mt_copies B (d + 7)) (mt_fillsWho B (d + 0)) (mt_numberNow B (d + 6)) s v s2 hf hK)
-- X12_scale
noncomputable def mf_scale (s : ms_S) (a0 : Int32) : Option (Int32 × ms_S) :=
((mf_isWord s (a0)).bind fun (v_1, s_1) =>
(if v_1 = (0 : Int32) then
some ((-1 : Int32), s_1)
else
((mf_copies s_1 ).bind fun s_3 =>
((mf_canSay s_3 (a0)).bind fun (v_4, s_4) =>
(if v_4 = (0 : Int32) then
some ((-2 : Int32), s_4)
else
((mf_fillsWho s_4 ).bind fun s_6 =>
((mf_numberNow s_6 ).bind fun (v_7, s_7) =>
((mo_ag 2058 (s_7.2.1 51) (((7 : Int32) * v_7) + a0)).bind fun x_8 =>
((mo_ag 294 (s_7.2.1 52) x_8).bind fun x_9 =>
some (x_9, s_7))))))))))
set_option maxHeartbeats 4000000 in
theorem mb_scale {C : mm_C} {Q : mm_R} (h_isWord : mk_isWord C) (h_copies : mk_copies C) (h_canSay : mk_canSay C) (h_fillsWho : mk_fillsWho C) (h_numberNow : mk_numberNow C) (s : ms_S) (a0 : Int32) (v : Int32) (s2 : ms_S) (hf : mf_scale s a0 = some (v, s2)) (hK : Q (some (.int v)) (ms_H s2)) : mm_go C mm_Mk mm_Fk P_X12_scale Q P_X12_scale [(0, .ref 0), (1, .int a0)] [] (ms_H s) 0 0 := by
  unfold mf_scale at hf
  obtain ⟨r_1, hr_1, hf⟩ := mo_bind hf
  obtain ⟨v_1, s_1⟩ := r_1
  by_cases c_2 : v_1 = (0 : Int32)
  · have hf := mo_pos hf c_2
    obtain ⟨rfl, rfl⟩ := mo_pair hf
    exact ⟨6, (h_isWord s (a0) v_1 s_1 _ hr_1 (And.intro (fun q => absurd c_2 q) (fun _ => hK)))⟩
  · have hf := mo_neg hf c_2
    obtain ⟨s_3, hr_3, hf⟩ := mo_bind hf
    obtain ⟨r_4, hr_4, hf⟩ := mo_bind hf
    obtain ⟨v_4, s_4⟩ := r_4
    by_cases c_5 : v_4 = (0 : Int32)
    · have hf := mo_pos hf c_5
      obtain ⟨rfl, rfl⟩ := mo_pair hf
      exact ⟨12, (h_isWord s (a0) v_1 s_1 _ hr_1 (And.intro (fun _ => (h_copies s_1  s_3 _ hr_3 (h_canSay s_3 (a0) v_4 s_4 _ hr_4 (And.intro (fun q => absurd c_5 q) (fun _ => hK))))) (fun q => absurd c_2 q)))⟩
    · have hf := mo_neg hf c_5
      obtain ⟨s_6, hr_6, hf⟩ := mo_bind hf
      obtain ⟨r_7, hr_7, hf⟩ := mo_bind hf
      obtain ⟨v_7, s_7⟩ := r_7
      obtain ⟨x_8, hx_8, hf⟩ := mo_bind hf
      obtain ⟨hi_8, rfl⟩ := mo_ag_inv hx_8
      obtain ⟨x_9, hx_9, hf⟩ := mo_bind hf
      obtain ⟨hi_9, rfl⟩ := mo_ag_inv hx_9
      obtain ⟨rfl, rfl⟩ := mo_pair hf
      exact ⟨25, (h_isWord s (a0) v_1 s_1 _ hr_1 (And.intro (fun _ => (h_copies s_1  s_3 _ hr_3 (h_canSay s_3 (a0) v_4 s_4 _ hr_4 (And.intro (fun _ => (h_fillsWho s_4  s_6 _ hr_6 (h_numberNow s_6  v_7 s_7 _ hr_7 (And.intro hi_8 (And.intro hi_9 hK))))) (fun q => absurd c_5 q))))) (fun q => absurd c_2 q)))⟩
def mk_scale (C : mm_C) : Prop := ∀ (s : ms_S) (a0 : Int32) (v : Int32) (s2 : ms_S) (Q : mm_R), mf_scale s a0 = some (v, s2) → Q (some (.int v)) (ms_H s2) → C 85 [.ref 0, .int a0] (ms_H s) Q
set_option maxRecDepth 100000 in
theorem mt_scale (B : mm_C) (d : Nat) : mk_scale (mm_ct B mm_Mk mm_Fk mm_PC (d + 9)) := fun s a0 v s2 Q hf hK => Or.inr (mb_scale (mt_isWord B (d + 6)) (mt_copies B (d + 7)) (mt_canSay B (d + 4)) (mt_fillsWho B (d + 0)) (mt_numberNow B (d + 6)) s a0 v s2 hf hK)
-- X12_isCalm
noncomputable def mf_isCalm (a0 : Int32) : Option (Int32) :=
(if (a0 / (14 : Int32)) ≤ (0 : Int32) then
some ((0 : Int32))
else
(if (20 : Int32) ≤ (a0 / (14 : Int32)) then
some ((0 : Int32))
else
some ((1 : Int32))))
set_option maxHeartbeats 4000000 in
theorem mb_isCalm {C : mm_C} {Q : mm_R}  {h : mm_H} (a0 : Int32) (v : Int32) (hf : mf_isCalm a0 = some v) (hK : Q (some (.int v)) h) : mm_go C mm_Mk mm_Fk P_X12_isCalm Q P_X12_isCalm [(0, .int a0)] [] h 0 0 := by
  unfold mf_isCalm at hf
  by_cases c_1 : (a0 / (14 : Int32)) ≤ (0 : Int32)
  · have hf := mo_pos hf c_1
    obtain rfl := Option.some.inj hf
    exact ⟨6, (And.intro (by decide) (And.intro (fun _ => (And.intro rfl hK)) (fun q => absurd c_1 q)))⟩
  · have hf := mo_neg hf c_1
    by_cases c_2 : (20 : Int32) ≤ (a0 / (14 : Int32))
    · have hf := mo_pos hf c_2
      obtain rfl := Option.some.inj hf
      exact ⟨11, (And.intro (by decide) (And.intro (fun q => absurd q c_1) (fun _ => (And.intro (by decide) (And.intro (fun _ => (And.intro rfl hK)) (fun q => absurd c_2 q))))))⟩
    · have hf := mo_neg hf c_2
      obtain rfl := Option.some.inj hf
      exact ⟨12, (And.intro (by decide) (And.intro (fun q => absurd q c_1) (fun _ => (And.intro (by decide) (And.intro (fun q => absurd q c_2) (fun _ => (And.intro rfl hK)))))))⟩
def mk_isCalm (C : mm_C) : Prop := ∀ (h : mm_H) (a0 : Int32) (v : Int32) (Q : mm_R), mf_isCalm a0 = some v → Q (some (.int v)) h → C 86 [.int a0] h Q
set_option maxRecDepth 100000 in
theorem mt_isCalm (B : mm_C) (d : Nat) : mk_isCalm (mm_ct B mm_Mk mm_Fk mm_PC (d + 1)) := fun h a0 v Q hf hK => Or.inr (mb_isCalm  a0 v hf hK)
-- X12_keepsMore
noncomputable def mf_keepsMore_l2  : (Int32 × ms_S) → Option ((Int32 × ms_S) ⊕ ((ms_S))) := fun (w1, s) =>
(if (294 : Int32) ≤ w1 then
some (.inr (s))
else
((mo_ag 294 (s.2.1 57) w1).bind fun x_2 =>
(bif mo_in w1 294 then some (.inl ((w1 + (1 : Int32)), (ms_sA s 56 (upd (s.2.1 56) (w1).toNatClampNeg (x_2))))) else none)))
set_option maxHeartbeats 4000000 in
theorem mb_keepsMore_l2 {C : mm_C} {Q : mm_R}   (t : Int32 × ms_S) (x : (ms_S)) (hl : mo_loop (mf_keepsMore_l2 ) t = some x) (hK : (fun sy => mm_go C mm_Mk mm_Fk P_X12_keepsMore Q (P_X12_keepsMore.drop 15) [] [] (ms_H sy) 0 0) x) : (mo_c2 (fun y1 sy => mm_go C mm_Mk mm_Fk P_X12_keepsMore Q (P_X12_keepsMore.drop 2) [(0, .ref 0), (1, .int y1)] [] (ms_H sy) 0 0)) t := by
  refine mo_loop_go (G := (mo_c2 (fun y1 sy => mm_go C mm_Mk mm_Fk P_X12_keepsMore Q (P_X12_keepsMore.drop 2) [(0, .ref 0), (1, .int y1)] [] (ms_H sy) 0 0)) ) (K := (fun sy => mm_go C mm_Mk mm_Fk P_X12_keepsMore Q (P_X12_keepsMore.drop 15) [] [] (ms_H sy) 0 0) ) ?_ t x hl hK
  intro t r hf hK
  obtain ⟨w1, s⟩ := t
  unfold mf_keepsMore_l2 at hf
  by_cases c_1 : (294 : Int32) ≤ w1
  · have hf := mo_pos hf c_1
    obtain rfl := Option.some.inj hf
    refine mm_adv 3 (cs' := P_X12_keepsMore.drop 15) (l' := [(0, .ref 0), (1, .int w1)]) (st' := []) (h' := ms_H s) (bc' := 0) (bs' := 0) (fun n g => (And.intro (fun _ => g) (fun q => absurd c_1 q))) ?_
    exact mm_re (c := []) hK rfl rfl
  · have hf := mo_neg hf c_1
    obtain ⟨x_2, hx_2, hf⟩ := mo_bind hf
    obtain ⟨hi_2, rfl⟩ := mo_ag_inv hx_2
    obtain ⟨hi_3, hf⟩ := mo_if hf
    obtain rfl := Option.some.inj hf
    refine mm_adv 13 (cs' := P_X12_keepsMore.drop 2) (l' := [(1, .int (w1 + (1 : Int32))), (0, .ref 0)]) (st' := []) (h' := ms_H (ms_sA s 56 (upd (s.2.1 56) (w1).toNatClampNeg (((s.2.1 57) (w1).toNatClampNeg))))) (bc' := 0) (bs' := 0) (fun n g => (And.intro (fun q => absurd q c_1) (fun _ => (And.intro hi_2 (And.intro hi_3 g))))) ?_
    exact mm_re (c := [(0, .ref 0), (1, .int (w1 + (1 : Int32)))]) hK rfl rfl
noncomputable def mf_keepsMore (s : ms_S)  : Option (ms_S) :=
((mo_loop (mf_keepsMore_l2 ) ((0 : Int32), s)).bind fun s_4 =>
some s_4)
set_option maxHeartbeats 4000000 in
theorem mb_keepsMore {C : mm_C} {Q : mm_R}  (s : ms_S)  (s2 : ms_S) (hf : mf_keepsMore s = some s2) (hK : Q (none) (ms_H s2)) : mm_go C mm_Mk mm_Fk P_X12_keepsMore Q P_X12_keepsMore [(0, .ref 0)] [] (ms_H s) 0 0 := by
  unfold mf_keepsMore at hf
  obtain ⟨x_4, hl_4, hf⟩ := mo_bind hf
  refine mm_adv 2 (cs' := P_X12_keepsMore.drop 2) (l' := [(1, .int (0 : Int32)), (0, .ref 0)]) (st' := []) (h' := ms_H s) (bc' := 0) (bs' := 0) (fun n g => g) ?_
  refine mm_re (l' := [(0, .ref 0), (1, .int (0 : Int32))]) (c := [(0, .ref 0), (1, .int (0 : Int32))]) ?_ rfl rfl
  refine mb_keepsMore_l2   ((0 : Int32), s) x_4 hl_4 ?_
  obtain ⟨s_4, rfl⟩ : ∃ q, q = x_4 := ⟨_, rfl⟩
  obtain rfl := Option.some.inj hf
  exact ⟨1, hK⟩
def mk_keepsMore (C : mm_C) : Prop := ∀ (s : ms_S)  (s2 : ms_S) (Q : mm_R), mf_keepsMore s = some s2 → Q (none) (ms_H s2) → C 87 [.ref 0] (ms_H s) Q
set_option maxRecDepth 100000 in
theorem mt_keepsMore (B : mm_C) (d : Nat) : mk_keepsMore (mm_ct B mm_Mk mm_Fk mm_PC (d + 1)) := fun s s2 Q hf hK => Or.inr (mb_keepsMore  s s2 hf hK)
-- X12_together
noncomputable def mf_together_j29 (s : ms_S) (v1 : Int32) (v2 : Int32) (k0 : Int32) (k1 : Int32) : Option ((Int32 × ms_S) ⊕ ((ms_S))) :=
(bif mo_in k1 294 then some (.inl ((v2 + (1 : Int32)), (ms_sA s 56 (upd (s.2.1 56) (k1).toNatClampNeg (k0))))) else none)
set_option maxHeartbeats 4000000 in
theorem mb_together_j29 {C : mm_C} {Q : mm_R} (h_copies : mk_copies C) (h_fillsThen : mk_fillsThen C) (h_numberNow : mk_numberNow C) (h_areThere : mk_areThere C) (h_isAsleep : mk_isAsleep C) (h_isCalm : mk_isCalm C) (h_isStanding : mk_isStanding C) (h_keepsMore : mk_keepsMore C) (s : ms_S) (v1 : Int32) (v2 : Int32) (k0 : Int32) (k1 : Int32) (r : (Int32 × ms_S) ⊕ ((ms_S))) (hf : mf_together_j29 s v1 v2 k0 k1 = some r) (hK : mo_sum (mo_c2 (fun y2 sy => mm_go C mm_Mk mm_Fk P_X12_together Q (P_X12_together.drop 17) [(0, .ref 0), (1, .int v1), (2, .int y2)] [] (ms_H sy) 0 0))  (fun sy => mm_go C mm_Mk mm_Fk P_X12_together Q (P_X12_together.drop 32) [(0, .ref 0), (1, .int v1)] [] (ms_H sy) 0 0)  r) : mm_go C mm_Mk mm_Fk P_X12_together Q (P_X12_together.drop 29) [(0, .ref 0), (1, .int v1), (2, .int v2)] [.int k0, .int k1, .ref 36] (ms_H s) 0 0 := by
  unfold mf_together_j29 at hf
  obtain ⟨hi_11, hf⟩ := mo_if hf
  obtain rfl := Option.some.inj hf
  refine mm_adv 3 (cs' := P_X12_together.drop 17) (l' := [(2, .int (v2 + (1 : Int32))), (0, .ref 0), (1, .int v1)]) (st' := []) (h' := ms_H (ms_sA s 56 (upd (s.2.1 56) (k1).toNatClampNeg (k0)))) (bc' := 0) (bs' := 0) (fun n g => (And.intro hi_11 g)) ?_
  exact mm_re (c := [(0, .ref 0), (1, .int v1), (2, .int (v2 + (1 : Int32)))]) hK rfl rfl
noncomputable def mf_together_l17 (v1 : Int32) : (Int32 × ms_S) → Option ((Int32 × ms_S) ⊕ ((ms_S))) := fun (w2, s) =>
(if (294 : Int32) ≤ w2 then
some (.inr (s))
else
((mf_isCalm (w2)).bind fun v_9 =>
(if v_9 = (0 : Int32) then
(mf_together_j29 (s) (v1) (w2) ((0 : Int32)) (w2))
else
(mf_together_j29 (s) (v1) (w2) ((1 : Int32)) (w2)))))
set_option maxHeartbeats 4000000 in
theorem mb_together_l17 {C : mm_C} {Q : mm_R} (h_copies : mk_copies C) (h_fillsThen : mk_fillsThen C) (h_numberNow : mk_numberNow C) (h_areThere : mk_areThere C) (h_isAsleep : mk_isAsleep C) (h_isCalm : mk_isCalm C) (h_isStanding : mk_isStanding C) (h_keepsMore : mk_keepsMore C) (v1 : Int32) (t : Int32 × ms_S) (x : (ms_S)) (hl : mo_loop (mf_together_l17 v1) t = some x) (hK : (fun sy => mm_go C mm_Mk mm_Fk P_X12_together Q (P_X12_together.drop 32) [(0, .ref 0), (1, .int v1)] [] (ms_H sy) 0 0) x) : (mo_c2 (fun y2 sy => mm_go C mm_Mk mm_Fk P_X12_together Q (P_X12_together.drop 17) [(0, .ref 0), (1, .int v1), (2, .int y2)] [] (ms_H sy) 0 0)) t := by
  refine mo_loop_go (G := (mo_c2 (fun y2 sy => mm_go C mm_Mk mm_Fk P_X12_together Q (P_X12_together.drop 17) [(0, .ref 0), (1, .int v1), (2, .int y2)] [] (ms_H sy) 0 0)) ) (K := (fun sy => mm_go C mm_Mk mm_Fk P_X12_together Q (P_X12_together.drop 32) [(0, .ref 0), (1, .int v1)] [] (ms_H sy) 0 0) ) ?_ t x hl hK
  intro t r hf hK
  obtain ⟨w2, s⟩ := t
  unfold mf_together_l17 at hf
  by_cases c_8 : (294 : Int32) ≤ w2
  · have hf := mo_pos hf c_8
    obtain rfl := Option.some.inj hf
    refine mm_adv 3 (cs' := P_X12_together.drop 32) (l' := [(0, .ref 0), (1, .int v1), (2, .int w2)]) (st' := []) (h' := ms_H s) (bc' := 0) (bs' := 0) (fun n g => (And.intro (fun _ => g) (fun q => absurd c_8 q))) ?_
    exact mm_re (c := [(0, .ref 0), (1, .int v1)]) hK rfl rfl
  · have hf := mo_neg hf c_8
    obtain ⟨v_9, hr_9, hf⟩ := mo_bind hf
    by_cases c_10 : v_9 = (0 : Int32)
    · have hf := mo_pos hf c_10
      refine mm_adv 10 (cs' := P_X12_together.drop 29) (l' := [(0, .ref 0), (1, .int v1), (2, .int w2)]) (st' := [.int (0 : Int32), .int w2, .ref 36]) (h' := ms_H s) (bc' := 0) (bs' := 0) (fun n g => (And.intro (fun q => absurd q c_8) (fun _ => (h_isCalm _ (w2) v_9 _ hr_9 (And.intro (fun _ => g) (fun q => absurd c_10 q)))))) ?_
      refine mm_re (l' := [(0, .ref 0), (1, .int v1), (2, .int w2)]) (c := [(0, .ref 0), (1, .int v1), (2, .int w2)]) ?_ rfl rfl
      exact mb_together_j29 h_copies h_fillsThen h_numberNow h_areThere h_isAsleep h_isCalm h_isStanding h_keepsMore s (v1) (w2) ((0 : Int32)) (w2) _ hf hK
    · have hf := mo_neg hf c_10
      refine mm_adv 11 (cs' := P_X12_together.drop 29) (l' := [(0, .ref 0), (1, .int v1), (2, .int w2)]) (st' := [.int (1 : Int32), .int w2, .ref 36]) (h' := ms_H s) (bc' := 0) (bs' := 0) (fun n g => (And.intro (fun q => absurd q c_8) (fun _ => (h_isCalm _ (w2) v_9 _ hr_9 (And.intro (fun q => absurd q c_10) (fun _ => g)))))) ?_
      refine mm_re (l' := [(0, .ref 0), (1, .int v1), (2, .int w2)]) (c := [(0, .ref 0), (1, .int v1), (2, .int w2)]) ?_ rfl rfl
      exact mb_together_j29 h_copies h_fillsThen h_numberNow h_areThere h_isAsleep h_isCalm h_isStanding h_keepsMore s (v1) (w2) ((1 : Int32)) (w2) _ hf hK
noncomputable def mf_together_j83 (s : ms_S) (v1 : Int32) (v2 : Int32) (v3 : Int32) (v4 : Int32) : Option ((Int32 × ms_S) ⊕ ((ms_S))) :=
some (.inl ((v4 + (1 : Int32)), s))
set_option maxHeartbeats 4000000 in
theorem mb_together_j83 {C : mm_C} {Q : mm_R} (h_copies : mk_copies C) (h_fillsThen : mk_fillsThen C) (h_numberNow : mk_numberNow C) (h_areThere : mk_areThere C) (h_isAsleep : mk_isAsleep C) (h_isCalm : mk_isCalm C) (h_isStanding : mk_isStanding C) (h_keepsMore : mk_keepsMore C) (s : ms_S) (v1 : Int32) (v2 : Int32) (v3 : Int32) (v4 : Int32) (r : (Int32 × ms_S) ⊕ ((ms_S))) (hf : mf_together_j83 s v1 v2 v3 v4 = some r) (hK : mo_sum (mo_c2 (fun y4 sy => mm_go C mm_Mk mm_Fk P_X12_together Q (P_X12_together.drop 49) [(0, .ref 0), (1, .int v1), (2, .int v2), (3, .int v3), (4, .int y4)] [] (ms_H sy) 0 0))  (fun sy => mm_go C mm_Mk mm_Fk P_X12_together Q (P_X12_together.drop 85) [(0, .ref 0), (1, .int v1), (2, .int v2), (3, .int v3)] [] (ms_H sy) 0 0)  r) : mm_go C mm_Mk mm_Fk P_X12_together Q (P_X12_together.drop 83) [(0, .ref 0), (1, .int v1), (2, .int v2), (3, .int v3), (4, .int v4)] [] (ms_H s) 0 0 := by
  unfold mf_together_j83 at hf
  obtain rfl := Option.some.inj hf
  refine mm_adv 2 (cs' := P_X12_together.drop 49) (l' := [(4, .int (v4 + (1 : Int32))), (0, .ref 0), (1, .int v1), (2, .int v2), (3, .int v3)]) (st' := []) (h' := ms_H s) (bc' := 0) (bs' := 0) (fun n g => g) ?_
  exact mm_re (c := [(0, .ref 0), (1, .int v1), (2, .int v2), (3, .int v3), (4, .int (v4 + (1 : Int32)))]) hK rfl rfl
noncomputable def mf_together_l49 (v1 : Int32) (v2 : Int32) (v3 : Int32) : (Int32 × ms_S) → Option ((Int32 × ms_S) ⊕ ((ms_S))) := fun (w4, s) =>
(if (7 : Int32) ≤ w4 then
some (.inr (s))
else
((mf_isStanding s (v3)).bind fun (v_17, s_17) =>
(if v_17 = (0 : Int32) then
some (.inr (s_17))
else
((mo_ag 2058 (s_17.2.1 51) (((7 : Int32) * v3) + w4)).bind fun x_19 =>
(if x_19 < (0 : Int32) then
(mf_together_j83 (s_17) (v1) (v2) (v3) (w4))
else
((mo_ag 2058 (s_17.2.1 51) (((7 : Int32) * v3) + w4)).bind fun x_21 =>
((mo_ag 294 (s_17.2.1 56) x_21).bind fun x_22 =>
(if x_22 = (1 : Int32) then
(bif mo_in v3 294 then (mf_together_j83 ((ms_sA s_17 57 (upd (s_17.2.1 57) (v3).toNatClampNeg ((1 : Int32))))) (v1) (v2) (v3) (w4)) else none)
else
(mf_together_j83 (s_17) (v1) (v2) (v3) (w4))))))))))
set_option maxHeartbeats 4000000 in
theorem mb_together_l49 {C : mm_C} {Q : mm_R} (h_copies : mk_copies C) (h_fillsThen : mk_fillsThen C) (h_numberNow : mk_numberNow C) (h_areThere : mk_areThere C) (h_isAsleep : mk_isAsleep C) (h_isCalm : mk_isCalm C) (h_isStanding : mk_isStanding C) (h_keepsMore : mk_keepsMore C) (v1 : Int32) (v2 : Int32) (v3 : Int32) (t : Int32 × ms_S) (x : (ms_S)) (hl : mo_loop (mf_together_l49 v1 v2 v3) t = some x) (hK : (fun sy => mm_go C mm_Mk mm_Fk P_X12_together Q (P_X12_together.drop 85) [(0, .ref 0), (1, .int v1), (2, .int v2), (3, .int v3)] [] (ms_H sy) 0 0) x) : (mo_c2 (fun y4 sy => mm_go C mm_Mk mm_Fk P_X12_together Q (P_X12_together.drop 49) [(0, .ref 0), (1, .int v1), (2, .int v2), (3, .int v3), (4, .int y4)] [] (ms_H sy) 0 0)) t := by
  refine mo_loop_go (G := (mo_c2 (fun y4 sy => mm_go C mm_Mk mm_Fk P_X12_together Q (P_X12_together.drop 49) [(0, .ref 0), (1, .int v1), (2, .int v2), (3, .int v3), (4, .int y4)] [] (ms_H sy) 0 0)) ) (K := (fun sy => mm_go C mm_Mk mm_Fk P_X12_together Q (P_X12_together.drop 85) [(0, .ref 0), (1, .int v1), (2, .int v2), (3, .int v3)] [] (ms_H sy) 0 0) ) ?_ t x hl hK
  intro t r hf hK
  obtain ⟨w4, s⟩ := t
  unfold mf_together_l49 at hf
  by_cases c_16 : (7 : Int32) ≤ w4
  · have hf := mo_pos hf c_16
    obtain rfl := Option.some.inj hf
    refine mm_adv 3 (cs' := P_X12_together.drop 85) (l' := [(0, .ref 0), (1, .int v1), (2, .int v2), (3, .int v3), (4, .int w4)]) (st' := []) (h' := ms_H s) (bc' := 0) (bs' := 0) (fun n g => (And.intro (fun _ => g) (fun q => absurd c_16 q))) ?_
    exact mm_re (c := [(0, .ref 0), (1, .int v1), (2, .int v2), (3, .int v3)]) hK rfl rfl
  · have hf := mo_neg hf c_16
    obtain ⟨r_17, hr_17, hf⟩ := mo_bind hf
    obtain ⟨v_17, s_17⟩ := r_17
    by_cases c_18 : v_17 = (0 : Int32)
    · have hf := mo_pos hf c_18
      obtain rfl := Option.some.inj hf
      refine mm_adv 7 (cs' := P_X12_together.drop 85) (l' := [(0, .ref 0), (1, .int v1), (2, .int v2), (3, .int v3), (4, .int w4)]) (st' := []) (h' := ms_H s_17) (bc' := 0) (bs' := 0) (fun n g => (And.intro (fun q => absurd q c_16) (fun _ => (h_isStanding s (v3) v_17 s_17 _ hr_17 (And.intro (fun _ => g) (fun q => absurd c_18 q)))))) ?_
      exact mm_re (c := [(0, .ref 0), (1, .int v1), (2, .int v2), (3, .int v3)]) hK rfl rfl
    · have hf := mo_neg hf c_18
      obtain ⟨x_19, hx_19, hf⟩ := mo_bind hf
      obtain ⟨hi_19, rfl⟩ := mo_ag_inv hx_19
      by_cases c_20 : ((s_17.2.1 51) ((((7 : Int32) * v3) + w4)).toNatClampNeg) < (0 : Int32)
      · have hf := mo_pos hf c_20
        refine mm_adv 16 (cs' := P_X12_together.drop 83) (l' := [(0, .ref 0), (1, .int v1), (2, .int v2), (3, .int v3), (4, .int w4)]) (st' := []) (h' := ms_H s_17) (bc' := 0) (bs' := 0) (fun n g => (And.intro (fun q => absurd q c_16) (fun _ => (h_isStanding s (v3) v_17 s_17 _ hr_17 (And.intro (fun q => absurd q c_18) (fun _ => (And.intro hi_19 (And.intro (fun _ => g) (fun q => absurd c_20 q))))))))) ?_
        refine mm_re (l' := [(0, .ref 0), (1, .int v1), (2, .int v2), (3, .int v3), (4, .int w4)]) (c := [(0, .ref 0), (1, .int v1), (2, .int v2), (3, .int v3), (4, .int w4)]) ?_ rfl rfl
        exact mb_together_j83 h_copies h_fillsThen h_numberNow h_areThere h_isAsleep h_isCalm h_isStanding h_keepsMore s_17 (v1) (v2) (v3) (w4) _ hf hK
      · have hf := mo_neg hf c_20
        obtain ⟨x_21, hx_21, hf⟩ := mo_bind hf
        obtain ⟨hi_21, rfl⟩ := mo_ag_inv hx_21
        obtain ⟨x_22, hx_22, hf⟩ := mo_bind hf
        obtain ⟨hi_22, rfl⟩ := mo_ag_inv hx_22
        by_cases c_23 : ((s_17.2.1 56) (((s_17.2.1 51) ((((7 : Int32) * v3) + w4)).toNatClampNeg)).toNatClampNeg) = (1 : Int32)
        · have hf := mo_pos hf c_23
          obtain ⟨hi_24, hf⟩ := mo_if hf
          refine mm_adv 34 (cs' := P_X12_together.drop 83) (l' := [(0, .ref 0), (1, .int v1), (2, .int v2), (3, .int v3), (4, .int w4)]) (st' := []) (h' := ms_H (ms_sA s_17 57 (upd (s_17.2.1 57) (v3).toNatClampNeg ((1 : Int32))))) (bc' := 0) (bs' := 0) (fun n g => (And.intro (fun q => absurd q c_16) (fun _ => (h_isStanding s (v3) v_17 s_17 _ hr_17 (And.intro (fun q => absurd q c_18) (fun _ => (And.intro hi_19 (And.intro (fun q => absurd q c_20) (fun _ => (And.intro hi_21 (And.intro hi_22 (And.intro (fun q => absurd c_23 q) (fun _ => (And.intro hi_24 g)))))))))))))) ?_
          refine mm_re (l' := [(0, .ref 0), (1, .int v1), (2, .int v2), (3, .int v3), (4, .int w4)]) (c := [(0, .ref 0), (1, .int v1), (2, .int v2), (3, .int v3), (4, .int w4)]) ?_ rfl rfl
          exact mb_together_j83 h_copies h_fillsThen h_numberNow h_areThere h_isAsleep h_isCalm h_isStanding h_keepsMore (ms_sA s_17 57 (upd (s_17.2.1 57) (v3).toNatClampNeg ((1 : Int32)))) (v1) (v2) (v3) (w4) _ hf hK
        · have hf := mo_neg hf c_23
          refine mm_adv 29 (cs' := P_X12_together.drop 83) (l' := [(0, .ref 0), (1, .int v1), (2, .int v2), (3, .int v3), (4, .int w4)]) (st' := []) (h' := ms_H s_17) (bc' := 0) (bs' := 0) (fun n g => (And.intro (fun q => absurd q c_16) (fun _ => (h_isStanding s (v3) v_17 s_17 _ hr_17 (And.intro (fun q => absurd q c_18) (fun _ => (And.intro hi_19 (And.intro (fun q => absurd q c_20) (fun _ => (And.intro hi_21 (And.intro hi_22 (And.intro (fun _ => g) (fun q => absurd c_23 q))))))))))))) ?_
          refine mm_re (l' := [(0, .ref 0), (1, .int v1), (2, .int v2), (3, .int v3), (4, .int w4)]) (c := [(0, .ref 0), (1, .int v1), (2, .int v2), (3, .int v3), (4, .int w4)]) ?_ rfl rfl
          exact mb_together_j83 h_copies h_fillsThen h_numberNow h_areThere h_isAsleep h_isCalm h_isStanding h_keepsMore s_17 (v1) (v2) (v3) (w4) _ hf hK
noncomputable def mf_together_j85 (s : ms_S) (v1 : Int32) (v2 : Int32) (v3 : Int32) : Option ((Int32 × ms_S) ⊕ ((ms_S))) :=
some (.inl ((v3 + (1 : Int32)), s))
set_option maxHeartbeats 4000000 in
theorem mb_together_j85 {C : mm_C} {Q : mm_R} (h_copies : mk_copies C) (h_fillsThen : mk_fillsThen C) (h_numberNow : mk_numberNow C) (h_areThere : mk_areThere C) (h_isAsleep : mk_isAsleep C) (h_isCalm : mk_isCalm C) (h_isStanding : mk_isStanding C) (h_keepsMore : mk_keepsMore C) (s : ms_S) (v1 : Int32) (v2 : Int32) (v3 : Int32) (r : (Int32 × ms_S) ⊕ ((ms_S))) (hf : mf_together_j85 s v1 v2 v3 = some r) (hK : mo_sum (mo_c2 (fun y3 sy => mm_go C mm_Mk mm_Fk P_X12_together Q (P_X12_together.drop 39) [(0, .ref 0), (1, .int v1), (2, .int v2), (3, .int y3)] [] (ms_H sy) 0 0))  (fun sy => mm_go C mm_Mk mm_Fk P_X12_together Q (P_X12_together.drop 87) [(0, .ref 0), (1, .int v1), (2, .int v2)] [] (ms_H sy) 0 0)  r) : mm_go C mm_Mk mm_Fk P_X12_together Q (P_X12_together.drop 85) [(0, .ref 0), (1, .int v1), (2, .int v2), (3, .int v3)] [] (ms_H s) 0 0 := by
  unfold mf_together_j85 at hf
  obtain rfl := Option.some.inj hf
  refine mm_adv 2 (cs' := P_X12_together.drop 39) (l' := [(3, .int (v3 + (1 : Int32))), (0, .ref 0), (1, .int v1), (2, .int v2)]) (st' := []) (h' := ms_H s) (bc' := 0) (bs' := 0) (fun n g => g) ?_
  exact mm_re (c := [(0, .ref 0), (1, .int v1), (2, .int v2), (3, .int (v3 + (1 : Int32)))]) hK rfl rfl
noncomputable def mf_together_l39 (v1 : Int32) (v2 : Int32) : (Int32 × ms_S) → Option ((Int32 × ms_S) ⊕ ((ms_S))) := fun (w3, s) =>
(if (294 : Int32) ≤ w3 then
some (.inr (s))
else
(bif mo_in w3 294 then ((mo_loop (mf_together_l49 (v1) (v2) (w3)) ((0 : Int32), (ms_sA s 57 (upd (s.2.1 57) (w3).toNatClampNeg ((0 : Int32)))))).bind fun s_25 =>
(mf_together_j85 (s_25) (v1) (v2) (w3))) else none))
set_option maxHeartbeats 4000000 in
theorem mb_together_l39 {C : mm_C} {Q : mm_R} (h_copies : mk_copies C) (h_fillsThen : mk_fillsThen C) (h_numberNow : mk_numberNow C) (h_areThere : mk_areThere C) (h_isAsleep : mk_isAsleep C) (h_isCalm : mk_isCalm C) (h_isStanding : mk_isStanding C) (h_keepsMore : mk_keepsMore C) (v1 : Int32) (v2 : Int32) (t : Int32 × ms_S) (x : (ms_S)) (hl : mo_loop (mf_together_l39 v1 v2) t = some x) (hK : (fun sy => mm_go C mm_Mk mm_Fk P_X12_together Q (P_X12_together.drop 87) [(0, .ref 0), (1, .int v1), (2, .int v2)] [] (ms_H sy) 0 0) x) : (mo_c2 (fun y3 sy => mm_go C mm_Mk mm_Fk P_X12_together Q (P_X12_together.drop 39) [(0, .ref 0), (1, .int v1), (2, .int v2), (3, .int y3)] [] (ms_H sy) 0 0)) t := by
  refine mo_loop_go (G := (mo_c2 (fun y3 sy => mm_go C mm_Mk mm_Fk P_X12_together Q (P_X12_together.drop 39) [(0, .ref 0), (1, .int v1), (2, .int v2), (3, .int y3)] [] (ms_H sy) 0 0)) ) (K := (fun sy => mm_go C mm_Mk mm_Fk P_X12_together Q (P_X12_together.drop 87) [(0, .ref 0), (1, .int v1), (2, .int v2)] [] (ms_H sy) 0 0) ) ?_ t x hl hK
  intro t r hf hK
  obtain ⟨w3, s⟩ := t
  unfold mf_together_l39 at hf
  by_cases c_14 : (294 : Int32) ≤ w3
  · have hf := mo_pos hf c_14
    obtain rfl := Option.some.inj hf
    refine mm_adv 3 (cs' := P_X12_together.drop 87) (l' := [(0, .ref 0), (1, .int v1), (2, .int v2), (3, .int w3)]) (st' := []) (h' := ms_H s) (bc' := 0) (bs' := 0) (fun n g => (And.intro (fun _ => g) (fun q => absurd c_14 q))) ?_
    exact mm_re (c := [(0, .ref 0), (1, .int v1), (2, .int v2)]) hK rfl rfl
  · have hf := mo_neg hf c_14
    obtain ⟨hi_15, hf⟩ := mo_if hf
    obtain ⟨x_25, hl_25, hf⟩ := mo_bind hf
    refine mm_adv 10 (cs' := P_X12_together.drop 49) (l' := [(4, .int (0 : Int32)), (0, .ref 0), (1, .int v1), (2, .int v2), (3, .int w3)]) (st' := []) (h' := ms_H (ms_sA s 57 (upd (s.2.1 57) (w3).toNatClampNeg ((0 : Int32))))) (bc' := 0) (bs' := 0) (fun n g => (And.intro (fun q => absurd q c_14) (fun _ => (And.intro hi_15 g)))) ?_
    refine mm_re (l' := [(0, .ref 0), (1, .int v1), (2, .int v2), (3, .int w3), (4, .int (0 : Int32))]) (c := [(0, .ref 0), (1, .int v1), (2, .int v2), (3, .int w3), (4, .int (0 : Int32))]) ?_ rfl rfl
    refine mb_together_l49 h_copies h_fillsThen h_numberNow h_areThere h_isAsleep h_isCalm h_isStanding h_keepsMore (v1) (v2) (w3) ((0 : Int32), (ms_sA s 57 (upd (s.2.1 57) (w3).toNatClampNeg ((0 : Int32))))) x_25 hl_25 ?_
    obtain ⟨s_25, rfl⟩ : ∃ q, q = x_25 := ⟨_, rfl⟩
    refine mm_re (l' := [(0, .ref 0), (1, .int v1), (2, .int v2), (3, .int w3)]) (c := [(0, .ref 0), (1, .int v1), (2, .int v2), (3, .int w3)]) ?_ rfl rfl
    exact mb_together_j85 h_copies h_fillsThen h_numberNow h_areThere h_isAsleep h_isCalm h_isStanding h_keepsMore s_25 (v1) (v2) (w3) _ hf hK
noncomputable def mf_together_l34 (v1 : Int32) : (Int32 × ms_S) → Option ((Int32 × ms_S) ⊕ ((Int32 × ms_S) ⊕ (ms_S))) := fun (w2, s) =>
(if (200 : Int32) < w2 then
some (.inr (.inr (s)))
else
((mo_loop (mf_together_l39 (v1) (w2)) ((0 : Int32), s)).bind fun s_26 =>
((mo_ag 294 (s_26.2.1 57) v1).bind fun x_27 =>
(if x_27 = (0 : Int32) then
some (.inr (.inl (w2, s_26)))
else
((mf_keepsMore s_26 ).bind fun s_29 =>
some (.inl ((w2 + (1 : Int32)), s_29)))))))
set_option maxHeartbeats 4000000 in
theorem mb_together_l34 {C : mm_C} {Q : mm_R} (h_copies : mk_copies C) (h_fillsThen : mk_fillsThen C) (h_numberNow : mk_numberNow C) (h_areThere : mk_areThere C) (h_isAsleep : mk_isAsleep C) (h_isCalm : mk_isCalm C) (h_isStanding : mk_isStanding C) (h_keepsMore : mk_keepsMore C) (v1 : Int32) (t : Int32 × ms_S) (x : (Int32 × ms_S) ⊕ (ms_S)) (hl : mo_loop (mf_together_l34 v1) t = some x) (hK : (mo_sum (mo_c2 (fun y2 sy => mm_go C mm_Mk mm_Fk P_X12_together Q (P_X12_together.drop 92) [(2, .int y2)] [] (ms_H sy) 0 0)) (fun sy => mm_go C mm_Mk mm_Fk P_X12_together Q (P_X12_together.drop 100) [] [] (ms_H sy) 0 0)) x) : (mo_c2 (fun y2 sy => mm_go C mm_Mk mm_Fk P_X12_together Q (P_X12_together.drop 34) [(0, .ref 0), (1, .int v1), (2, .int y2)] [] (ms_H sy) 0 0)) t := by
  refine mo_loop_go (G := (mo_c2 (fun y2 sy => mm_go C mm_Mk mm_Fk P_X12_together Q (P_X12_together.drop 34) [(0, .ref 0), (1, .int v1), (2, .int y2)] [] (ms_H sy) 0 0)) ) (K := (mo_sum (mo_c2 (fun y2 sy => mm_go C mm_Mk mm_Fk P_X12_together Q (P_X12_together.drop 92) [(2, .int y2)] [] (ms_H sy) 0 0)) (fun sy => mm_go C mm_Mk mm_Fk P_X12_together Q (P_X12_together.drop 100) [] [] (ms_H sy) 0 0)) ) ?_ t x hl hK
  intro t r hf hK
  obtain ⟨w2, s⟩ := t
  unfold mf_together_l34 at hf
  by_cases c_13 : (200 : Int32) < w2
  · have hf := mo_pos hf c_13
    obtain rfl := Option.some.inj hf
    refine mm_adv 3 (cs' := P_X12_together.drop 100) (l' := [(0, .ref 0), (1, .int v1), (2, .int w2)]) (st' := []) (h' := ms_H s) (bc' := 0) (bs' := 0) (fun n g => (And.intro (fun _ => g) (fun q => absurd c_13 q))) ?_
    exact mm_re (c := []) hK rfl rfl
  · have hf := mo_neg hf c_13
    obtain ⟨x_26, hl_26, hf⟩ := mo_bind hf
    refine mm_adv 5 (cs' := P_X12_together.drop 39) (l' := [(3, .int (0 : Int32)), (0, .ref 0), (1, .int v1), (2, .int w2)]) (st' := []) (h' := ms_H s) (bc' := 0) (bs' := 0) (fun n g => (And.intro (fun q => absurd q c_13) (fun _ => g))) ?_
    refine mm_re (l' := [(0, .ref 0), (1, .int v1), (2, .int w2), (3, .int (0 : Int32))]) (c := [(0, .ref 0), (1, .int v1), (2, .int w2), (3, .int (0 : Int32))]) ?_ rfl rfl
    refine mb_together_l39 h_copies h_fillsThen h_numberNow h_areThere h_isAsleep h_isCalm h_isStanding h_keepsMore (v1) (w2) ((0 : Int32), s) x_26 hl_26 ?_
    obtain ⟨s_26, rfl⟩ : ∃ q, q = x_26 := ⟨_, rfl⟩
    obtain ⟨x_27, hx_27, hf⟩ := mo_bind hf
    obtain ⟨hi_27, rfl⟩ := mo_ag_inv hx_27
    by_cases c_28 : ((s_26.2.1 57) (v1).toNatClampNeg) = (0 : Int32)
    · have hf := mo_pos hf c_28
      obtain rfl := Option.some.inj hf
      refine mm_adv 5 (cs' := P_X12_together.drop 92) (l' := [(0, .ref 0), (1, .int v1), (2, .int w2)]) (st' := []) (h' := ms_H s_26) (bc' := 0) (bs' := 0) (fun n g => (And.intro hi_27 (And.intro (fun q => absurd c_28 q) (fun _ => g)))) ?_
      exact mm_re (c := [(2, .int w2)]) hK rfl rfl
    · have hf := mo_neg hf c_28
      obtain ⟨s_29, hr_29, hf⟩ := mo_bind hf
      obtain rfl := Option.some.inj hf
      refine mm_adv 9 (cs' := P_X12_together.drop 34) (l' := [(2, .int (w2 + (1 : Int32))), (0, .ref 0), (1, .int v1)]) (st' := []) (h' := ms_H s_29) (bc' := 0) (bs' := 0) (fun n g => (And.intro hi_27 (And.intro (fun _ => (h_keepsMore s_26  s_29 _ hr_29 g)) (fun q => absurd c_28 q)))) ?_
      exact mm_re (c := [(0, .ref 0), (1, .int v1), (2, .int (w2 + (1 : Int32)))]) hK rfl rfl
noncomputable def mf_together (s : ms_S)  : Option (Int32 × ms_S) :=
((mf_copies s ).bind fun s_1 =>
((mf_fillsThen s_1 ).bind fun s_2 =>
((mf_numberNow s_2 ).bind fun (v_3, s_3) =>
((mf_areThere s_3 ).bind fun (v_4, s_4) =>
(if v_4 = (0 : Int32) then
some ((0 : Int32), s_4)
else
((mf_isAsleep s_4 ).bind fun (v_6, s_6) =>
(if v_6 = (0 : Int32) then
some ((0 : Int32), s_6)
else
((mo_loop (mf_together_l17 (v_3)) ((0 : Int32), s_6)).bind fun s_12 =>
((mo_loop (mf_together_l34 (v_3)) ((1 : Int32), s_12)).bind fun x_30 =>
match x_30 with
| (.inl (e2_30, s_30)) => some ((e2_30 - (1 : Int32)), s_30)
| (.inr s_30) => some ((200 : Int32), s_30)
)))))))))
set_option maxHeartbeats 4000000 in
theorem mb_together {C : mm_C} {Q : mm_R} (h_copies : mk_copies C) (h_fillsThen : mk_fillsThen C) (h_numberNow : mk_numberNow C) (h_areThere : mk_areThere C) (h_isAsleep : mk_isAsleep C) (h_isCalm : mk_isCalm C) (h_isStanding : mk_isStanding C) (h_keepsMore : mk_keepsMore C) (s : ms_S)  (v : Int32) (s2 : ms_S) (hf : mf_together s = some (v, s2)) (hK : Q (some (.int v)) (ms_H s2)) : mm_go C mm_Mk mm_Fk P_X12_together Q P_X12_together [(0, .ref 0)] [] (ms_H s) 0 0 := by
  unfold mf_together at hf
  obtain ⟨s_1, hr_1, hf⟩ := mo_bind hf
  obtain ⟨s_2, hr_2, hf⟩ := mo_bind hf
  obtain ⟨r_3, hr_3, hf⟩ := mo_bind hf
  obtain ⟨v_3, s_3⟩ := r_3
  obtain ⟨r_4, hr_4, hf⟩ := mo_bind hf
  obtain ⟨v_4, s_4⟩ := r_4
  by_cases c_5 : v_4 = (0 : Int32)
  · have hf := mo_pos hf c_5
    obtain ⟨rfl, rfl⟩ := mo_pair hf
    exact ⟨12, (h_copies s  s_1 _ hr_1 (h_fillsThen s_1  s_2 _ hr_2 (h_numberNow s_2  v_3 s_3 _ hr_3 (h_areThere s_3  v_4 s_4 _ hr_4 (And.intro (fun _ => hK) (fun q => absurd c_5 q))))))⟩
  · have hf := mo_neg hf c_5
    obtain ⟨r_6, hr_6, hf⟩ := mo_bind hf
    obtain ⟨v_6, s_6⟩ := r_6
    by_cases c_7 : v_6 = (0 : Int32)
    · have hf := mo_pos hf c_7
      obtain ⟨rfl, rfl⟩ := mo_pair hf
      exact ⟨15, (h_copies s  s_1 _ hr_1 (h_fillsThen s_1  s_2 _ hr_2 (h_numberNow s_2  v_3 s_3 _ hr_3 (h_areThere s_3  v_4 s_4 _ hr_4 (And.intro (fun q => absurd q c_5) (fun _ => (h_isAsleep s_4  v_6 s_6 _ hr_6 (And.intro (fun q => absurd c_7 q) (fun _ => hK)))))))))⟩
    · have hf := mo_neg hf c_7
      obtain ⟨x_12, hl_12, hf⟩ := mo_bind hf
      refine mm_adv 15 (cs' := P_X12_together.drop 17) (l' := [(2, .int (0 : Int32)), (1, .int v_3), (0, .ref 0)]) (st' := []) (h' := ms_H s_6) (bc' := 0) (bs' := 0) (fun n g => (h_copies s  s_1 _ hr_1 (h_fillsThen s_1  s_2 _ hr_2 (h_numberNow s_2  v_3 s_3 _ hr_3 (h_areThere s_3  v_4 s_4 _ hr_4 (And.intro (fun q => absurd q c_5) (fun _ => (h_isAsleep s_4  v_6 s_6 _ hr_6 (And.intro (fun _ => g) (fun q => absurd c_7 q)))))))))) ?_
      refine mm_re (l' := [(0, .ref 0), (1, .int v_3), (2, .int (0 : Int32))]) (c := [(0, .ref 0), (1, .int v_3), (2, .int (0 : Int32))]) ?_ rfl rfl
      refine mb_together_l17 h_copies h_fillsThen h_numberNow h_areThere h_isAsleep h_isCalm h_isStanding h_keepsMore (v_3) ((0 : Int32), s_6) x_12 hl_12 ?_
      obtain ⟨s_12, rfl⟩ : ∃ q, q = x_12 := ⟨_, rfl⟩
      obtain ⟨x_30, hl_30, hf⟩ := mo_bind hf
      refine mm_adv 2 (cs' := P_X12_together.drop 34) (l' := [(2, .int (1 : Int32)), (0, .ref 0), (1, .int v_3)]) (st' := []) (h' := ms_H s_12) (bc' := 0) (bs' := 0) (fun n g => g) ?_
      refine mm_re (l' := [(0, .ref 0), (1, .int v_3), (2, .int (1 : Int32))]) (c := [(0, .ref 0), (1, .int v_3), (2, .int (1 : Int32))]) ?_ rfl rfl
      refine mb_together_l34 h_copies h_fillsThen h_numberNow h_areThere h_isAsleep h_isCalm h_isStanding h_keepsMore (v_3) ((1 : Int32), s_12) x_30 hl_30 ?_
      cases x_30 with
      | inl y_30 =>
        obtain ⟨e2_30, s_30⟩ := y_30
        obtain ⟨rfl, rfl⟩ := mo_pair hf
        exact ⟨4, hK⟩
      | inr z_30_0 =>
        obtain ⟨s_30, rfl⟩ : ∃ q, q = z_30_0 := ⟨_, rfl⟩
        obtain ⟨rfl, rfl⟩ := mo_pair hf
        exact ⟨2, hK⟩
def mk_together (C : mm_C) : Prop := ∀ (s : ms_S)  (v : Int32) (s2 : ms_S) (Q : mm_R), mf_together s = some (v, s2) → Q (some (.int v)) (ms_H s2) → C 88 [.ref 0] (ms_H s) Q
set_option maxRecDepth 100000 in
theorem mt_together (B : mm_C) (d : Nat) : mk_together (mm_ct B mm_Mk mm_Fk mm_PC (d + 8)) := fun s v s2 Q hf hK => Or.inr (mb_together (mt_copies B (d + 6)) (mt_fillsThen B (d + 0)) (mt_numberNow B (d + 5)) (mt_areThere B (d + 6)) (mt_isAsleep B (d + 6)) (mt_isCalm B (d + 6)) (mt_isStanding B (d + 6)) (mt_keepsMore B (d + 6)) s v s2 hf hK)
