/-! the reference, method by method, 0 -/
-- X12_lays
noncomputable def mf_lays_l2 (v1 : Int32) : (Int32 × ms_S) → Option ((Int32 × ms_S) ⊕ ((ms_S))) := fun (w2, s) =>
(if w2 < (0 : Int32) then
some (.inr (s))
else
(bif mo_in (s.1 2) 2000 then some (.inl ((w2 + (-8 : Int32)), (ms_sA (ms_sI s 2 (((s.1 2) + (1 : Int32)))) 1 (upd (s.2.1 1) ((s.1 2)).toNatClampNeg ((vp_nar .byte ((v1 >>> (w2 &&& 31))).toInt8.toInt32)))))) else none))
set_option maxHeartbeats 4000000 in
theorem mb_lays_l2 {C : mm_C} {Q : mm_R}  (v1 : Int32) (t : Int32 × ms_S) (x : (ms_S)) (hl : mo_loop (mf_lays_l2 v1) t = some x) (hK : (fun sy => mm_go C mm_Mk mm_Fk P_X12_lays Q (P_X12_lays.drop 21) [] [] (ms_H sy) 0 0) x) : (mo_c2 (fun y2 sy => mm_go C mm_Mk mm_Fk P_X12_lays Q (P_X12_lays.drop 2) [(0, .ref 0), (1, .int v1), (2, .int y2)] [] (ms_H sy) 0 0)) t := by
  refine mo_loop_go (G := (mo_c2 (fun y2 sy => mm_go C mm_Mk mm_Fk P_X12_lays Q (P_X12_lays.drop 2) [(0, .ref 0), (1, .int v1), (2, .int y2)] [] (ms_H sy) 0 0)) ) (K := (fun sy => mm_go C mm_Mk mm_Fk P_X12_lays Q (P_X12_lays.drop 21) [] [] (ms_H sy) 0 0) ) ?_ t x hl hK
  intro t r hf hK
  obtain ⟨w2, s⟩ := t
  unfold mf_lays_l2 at hf
  by_cases c_1 : w2 < (0 : Int32)
  · have hf := mo_pos hf c_1
    obtain rfl := Option.some.inj hf
    refine mm_adv 2 (cs' := P_X12_lays.drop 21) (l' := [(0, .ref 0), (1, .int v1), (2, .int w2)]) (st' := []) (h' := ms_H s) (bc' := 0) (bs' := 0) (fun n g => (And.intro (fun _ => g) (fun q => absurd c_1 q))) ?_
    exact mm_re (c := []) hK rfl rfl
  · have hf := mo_neg hf c_1
    obtain ⟨hi_2, hf⟩ := mo_if hf
    obtain rfl := Option.some.inj hf
    refine mm_adv 19 (cs' := P_X12_lays.drop 2) (l' := [(2, .int (w2 + (-8 : Int32))), (0, .ref 0), (1, .int v1)]) (st' := []) (h' := ms_H (ms_sA (ms_sI s 2 (((s.1 2) + (1 : Int32)))) 1 (upd (s.2.1 1) ((s.1 2)).toNatClampNeg ((vp_nar .byte ((v1 >>> (w2 &&& 31))).toInt8.toInt32))))) (bc' := 0) (bs' := 0) (fun n g => (And.intro (fun q => absurd q c_1) (fun _ => (And.intro hi_2 (And.intro trivial g))))) ?_
    exact mm_re (c := [(0, .ref 0), (1, .int v1), (2, .int (w2 + (-8 : Int32)))]) hK rfl rfl
noncomputable def mf_lays (s : ms_S) (a0 : Int32) : Option (ms_S) :=
((mo_loop (mf_lays_l2 (a0)) ((24 : Int32), s)).bind fun s_3 =>
some s_3)
set_option maxHeartbeats 4000000 in
theorem mb_lays {C : mm_C} {Q : mm_R}  (s : ms_S) (a0 : Int32) (s2 : ms_S) (hf : mf_lays s a0 = some s2) (hK : Q (none) (ms_H s2)) : mm_go C mm_Mk mm_Fk P_X12_lays Q P_X12_lays [(0, .ref 0), (1, .int a0)] [] (ms_H s) 0 0 := by
  unfold mf_lays at hf
  obtain ⟨x_3, hl_3, hf⟩ := mo_bind hf
  refine mm_adv 2 (cs' := P_X12_lays.drop 2) (l' := [(2, .int (24 : Int32)), (0, .ref 0), (1, .int a0)]) (st' := []) (h' := ms_H s) (bc' := 0) (bs' := 0) (fun n g => g) ?_
  refine mm_re (l' := [(0, .ref 0), (1, .int a0), (2, .int (24 : Int32))]) (c := [(0, .ref 0), (1, .int a0), (2, .int (24 : Int32))]) ?_ rfl rfl
  refine mb_lays_l2  (a0) ((24 : Int32), s) x_3 hl_3 ?_
  obtain ⟨s_3, rfl⟩ : ∃ q, q = x_3 := ⟨_, rfl⟩
  obtain rfl := Option.some.inj hf
  exact ⟨1, hK⟩
def mk_lays (C : mm_C) : Prop := ∀ (s : ms_S) (a0 : Int32) (s2 : ms_S) (Q : mm_R), mf_lays s a0 = some s2 → Q (none) (ms_H s2) → C 2 [.ref 0, .int a0] (ms_H s) Q
set_option maxRecDepth 100000 in
theorem mt_lays (B : mm_C) (d : Nat) : mk_lays (mm_ct B mm_Mk mm_Fk mm_PC (d + 1)) := fun s a0 s2 Q hf hK => Or.inr (mb_lays  s a0 s2 hf hK)
-- X12_feed
noncomputable def mf_feed (s : ms_S) (a0 : Int32) (a1 : Int32) (a2 : Int32) (a3 : Int32) (a4 : Int32) : Option (Int32 × ms_S) :=
(if ((s.1 2) + (20 : Int32)) ≤ (2000 : Int32) then
((mf_lays s (a0)).bind fun s_2 =>
((mf_lays s_2 (a1)).bind fun s_3 =>
((mf_lays s_3 (a2)).bind fun s_4 =>
((mf_lays s_4 (a3)).bind fun s_5 =>
((mf_lays s_5 (a4)).bind fun s_6 =>
some ((s_6.1 2), s_6))))))
else
some ((-1 : Int32), s))
set_option maxHeartbeats 4000000 in
theorem mb_feed {C : mm_C} {Q : mm_R} (h_lays : mk_lays C) (s : ms_S) (a0 : Int32) (a1 : Int32) (a2 : Int32) (a3 : Int32) (a4 : Int32) (v : Int32) (s2 : ms_S) (hf : mf_feed s a0 a1 a2 a3 a4 = some (v, s2)) (hK : Q (some (.int v)) (ms_H s2)) : mm_go C mm_Mk mm_Fk P_X12_feed Q P_X12_feed [(0, .ref 0), (1, .int a0), (2, .int a1), (3, .int a2), (4, .int a3), (5, .int a4)] [] (ms_H s) 0 0 := by
  unfold mf_feed at hf
  by_cases c_1 : ((s.1 2) + (20 : Int32)) ≤ (2000 : Int32)
  · have hf := mo_pos hf c_1
    obtain ⟨s_2, hr_2, hf⟩ := mo_bind hf
    obtain ⟨s_3, hr_3, hf⟩ := mo_bind hf
    obtain ⟨s_4, hr_4, hf⟩ := mo_bind hf
    obtain ⟨s_5, hr_5, hf⟩ := mo_bind hf
    obtain ⟨s_6, hr_6, hf⟩ := mo_bind hf
    obtain ⟨rfl, rfl⟩ := mo_pair hf
    exact ⟨24, (And.intro (fun _ => (h_lays s (a0) s_2 _ hr_2 (h_lays s_2 (a1) s_3 _ hr_3 (h_lays s_3 (a2) s_4 _ hr_4 (h_lays s_4 (a3) s_5 _ hr_5 (h_lays s_5 (a4) s_6 _ hr_6 hK)))))) (fun q => absurd c_1 q))⟩
  · have hf := mo_neg hf c_1
    obtain ⟨rfl, rfl⟩ := mo_pair hf
    exact ⟨8, (And.intro (fun q => absurd q c_1) (fun _ => hK))⟩
def mk_feed (C : mm_C) : Prop := ∀ (s : ms_S) (a0 : Int32) (a1 : Int32) (a2 : Int32) (a3 : Int32) (a4 : Int32) (v : Int32) (s2 : ms_S) (Q : mm_R), mf_feed s a0 a1 a2 a3 a4 = some (v, s2) → Q (some (.int v)) (ms_H s2) → C 1 [.ref 0, .int a0, .int a1, .int a2, .int a3, .int a4] (ms_H s) Q
set_option maxRecDepth 100000 in
theorem mt_feed (B : mm_C) (d : Nat) : mk_feed (mm_ct B mm_Mk mm_Fk mm_PC (d + 2)) := fun s a0 a1 a2 a3 a4 v s2 Q hf hK => Or.inr (mb_feed (mt_lays B (d + 0)) s a0 a1 a2 a3 a4 v s2 hf hK)
-- X12_back
noncomputable def mf_back (s : ms_S) (a0 : Int32) : Option (Int32 × ms_S) :=
(if a0 < (0 : Int32) then
some ((-1 : Int32), s)
else
(if a0 ≤ (s.1 2) then
some (((s.1 2) - a0), (ms_sI s 2 (((s.1 2) - a0))))
else
some ((-1 : Int32), s)))
set_option maxHeartbeats 4000000 in
theorem mb_back {C : mm_C} {Q : mm_R}  (s : ms_S) (a0 : Int32) (v : Int32) (s2 : ms_S) (hf : mf_back s a0 = some (v, s2)) (hK : Q (some (.int v)) (ms_H s2)) : mm_go C mm_Mk mm_Fk P_X12_back Q P_X12_back [(0, .ref 0), (1, .int a0)] [] (ms_H s) 0 0 := by
  unfold mf_back at hf
  by_cases c_1 : a0 < (0 : Int32)
  · have hf := mo_pos hf c_1
    obtain ⟨rfl, rfl⟩ := mo_pair hf
    exact ⟨4, (And.intro (fun _ => hK) (fun q => absurd c_1 q))⟩
  · have hf := mo_neg hf c_1
    by_cases c_2 : a0 ≤ (s.1 2)
    · have hf := mo_pos hf c_2
      obtain ⟨rfl, rfl⟩ := mo_pair hf
      exact ⟨15, (And.intro (fun q => absurd q c_1) (fun _ => (And.intro (fun _ => (And.intro trivial hK)) (fun q => absurd c_2 q))))⟩
    · have hf := mo_neg hf c_2
      obtain ⟨rfl, rfl⟩ := mo_pair hf
      exact ⟨8, (And.intro (fun q => absurd q c_1) (fun _ => (And.intro (fun q => absurd q c_2) (fun _ => hK))))⟩
def mk_back (C : mm_C) : Prop := ∀ (s : ms_S) (a0 : Int32) (v : Int32) (s2 : ms_S) (Q : mm_R), mf_back s a0 = some (v, s2) → Q (some (.int v)) (ms_H s2) → C 3 [.ref 0, .int a0] (ms_H s) Q
set_option maxRecDepth 100000 in
theorem mt_back (B : mm_C) (d : Nat) : mk_back (mm_ct B mm_Mk mm_Fk mm_PC (d + 1)) := fun s a0 v s2 Q hf hK => Or.inr (mb_back  s a0 v s2 hf hK)
-- X12_byteAt
noncomputable def mf_byteAt (s : ms_S) (a0 : Int32) : Option (Int32 × ms_S) :=
(if (s.1 4) ≤ a0 then
some ((0 : Int32), s)
else
((mo_ag 2000 (s.2.1 3) a0).bind fun x_2 =>
some ((x_2 &&& (255 : Int32)), s)))
set_option maxHeartbeats 4000000 in
theorem mb_byteAt {C : mm_C} {Q : mm_R}  (s : ms_S) (a0 : Int32) (v : Int32) (s2 : ms_S) (hf : mf_byteAt s a0 = some (v, s2)) (hK : Q (some (.int v)) (ms_H s2)) : mm_go C mm_Mk mm_Fk P_X12_byteAt Q P_X12_byteAt [(0, .ref 0), (1, .int a0)] [] (ms_H s) 0 0 := by
  unfold mf_byteAt at hf
  by_cases c_1 : (s.1 4) ≤ a0
  · have hf := mo_pos hf c_1
    obtain ⟨rfl, rfl⟩ := mo_pair hf
    exact ⟨6, (And.intro (fun _ => hK) (fun q => absurd c_1 q))⟩
  · have hf := mo_neg hf c_1
    obtain ⟨x_2, hx_2, hf⟩ := mo_bind hf
    obtain ⟨hi_2, rfl⟩ := mo_ag_inv hx_2
    obtain ⟨rfl, rfl⟩ := mo_pair hf
    exact ⟨12, (And.intro (fun q => absurd q c_1) (fun _ => (And.intro hi_2 hK)))⟩
def mk_byteAt (C : mm_C) : Prop := ∀ (s : ms_S) (a0 : Int32) (v : Int32) (s2 : ms_S) (Q : mm_R), mf_byteAt s a0 = some (v, s2) → Q (some (.int v)) (ms_H s2) → C 4 [.ref 0, .int a0] (ms_H s) Q
set_option maxRecDepth 100000 in
theorem mt_byteAt (B : mm_C) (d : Nat) : mk_byteAt (mm_ct B mm_Mk mm_Fk mm_PC (d + 1)) := fun s a0 v s2 Q hf hK => Or.inr (mb_byteAt  s a0 v s2 hf hK)
-- X12_isDigit
noncomputable def mf_isDigit (a0 : Int32) : Option (Int32) :=
(if a0 < (48 : Int32) then
some ((0 : Int32))
else
(if (57 : Int32) < a0 then
some ((0 : Int32))
else
some ((1 : Int32))))
set_option maxHeartbeats 4000000 in
theorem mb_isDigit {C : mm_C} {Q : mm_R}  {h : mm_H} (a0 : Int32) (v : Int32) (hf : mf_isDigit a0 = some v) (hK : Q (some (.int v)) h) : mm_go C mm_Mk mm_Fk P_X12_isDigit Q P_X12_isDigit [(0, .int a0)] [] h 0 0 := by
  unfold mf_isDigit at hf
  by_cases c_1 : a0 < (48 : Int32)
  · have hf := mo_pos hf c_1
    obtain rfl := Option.some.inj hf
    exact ⟨5, (And.intro (fun _ => (And.intro rfl hK)) (fun q => absurd c_1 q))⟩
  · have hf := mo_neg hf c_1
    by_cases c_2 : (57 : Int32) < a0
    · have hf := mo_pos hf c_2
      obtain rfl := Option.some.inj hf
      exact ⟨8, (And.intro (fun q => absurd q c_1) (fun _ => (And.intro (fun _ => (And.intro rfl hK)) (fun q => absurd c_2 q))))⟩
    · have hf := mo_neg hf c_2
      obtain rfl := Option.some.inj hf
      exact ⟨9, (And.intro (fun q => absurd q c_1) (fun _ => (And.intro (fun q => absurd q c_2) (fun _ => (And.intro rfl hK)))))⟩
def mk_isDigit (C : mm_C) : Prop := ∀ (h : mm_H) (a0 : Int32) (v : Int32) (Q : mm_R), mf_isDigit a0 = some v → Q (some (.int v)) h → C 5 [.int a0] h Q
set_option maxRecDepth 100000 in
theorem mt_isDigit (B : mm_C) (d : Nat) : mk_isDigit (mm_ct B mm_Mk mm_Fk mm_PC (d + 1)) := fun h a0 v Q hf hK => Or.inr (mb_isDigit  a0 v hf hK)
-- X12_isLetter
noncomputable def mf_isLetter (a0 : Int32) : Option (Int32) :=
(if a0 < (97 : Int32) then
some ((0 : Int32))
else
(if (122 : Int32) < a0 then
some ((0 : Int32))
else
some ((1 : Int32))))
set_option maxHeartbeats 4000000 in
theorem mb_isLetter {C : mm_C} {Q : mm_R}  {h : mm_H} (a0 : Int32) (v : Int32) (hf : mf_isLetter a0 = some v) (hK : Q (some (.int v)) h) : mm_go C mm_Mk mm_Fk P_X12_isLetter Q P_X12_isLetter [(0, .int a0)] [] h 0 0 := by
  unfold mf_isLetter at hf
  by_cases c_1 : a0 < (97 : Int32)
  · have hf := mo_pos hf c_1
    obtain rfl := Option.some.inj hf
    exact ⟨5, (And.intro (fun _ => (And.intro rfl hK)) (fun q => absurd c_1 q))⟩
  · have hf := mo_neg hf c_1
    by_cases c_2 : (122 : Int32) < a0
    · have hf := mo_pos hf c_2
      obtain rfl := Option.some.inj hf
      exact ⟨8, (And.intro (fun q => absurd q c_1) (fun _ => (And.intro (fun _ => (And.intro rfl hK)) (fun q => absurd c_2 q))))⟩
    · have hf := mo_neg hf c_2
      obtain rfl := Option.some.inj hf
      exact ⟨9, (And.intro (fun q => absurd q c_1) (fun _ => (And.intro (fun q => absurd q c_2) (fun _ => (And.intro rfl hK)))))⟩
def mk_isLetter (C : mm_C) : Prop := ∀ (h : mm_H) (a0 : Int32) (v : Int32) (Q : mm_R), mf_isLetter a0 = some v → Q (some (.int v)) h → C 6 [.int a0] h Q
set_option maxRecDepth 100000 in
theorem mt_isLetter (B : mm_C) (d : Nat) : mk_isLetter (mm_ct B mm_Mk mm_Fk mm_PC (d + 1)) := fun h a0 v Q hf hK => Or.inr (mb_isLetter  a0 v hf hK)
-- X12_appends
noncomputable def mf_appends (a0 : Int64) (a1 : Int32) : Option (Int64) :=
(if a1 = (0 : Int32) then
some (a0)
else
some ((((27 : Int64) * a0) + (((a1 - (97 : Int32)) + (1 : Int32))).toInt64)))
set_option maxHeartbeats 4000000 in
theorem mb_appends {C : mm_C} {Q : mm_R}  {h : mm_H} (a0 : Int64) (a1 : Int32) (v : Int64) (hf : mf_appends a0 a1 = some v) (hK : Q (some (.long v)) h) : mm_go C mm_Mk mm_Fk P_X12_appends Q P_X12_appends [(0, .long a0), (2, .int a1)] [] h 0 0 := by
  unfold mf_appends at hf
  by_cases c_1 : a1 = (0 : Int32)
  · have hf := mo_pos hf c_1
    obtain rfl := Option.some.inj hf
    exact ⟨5, (And.intro (fun q => absurd c_1 q) (fun _ => hK))⟩
  · have hf := mo_neg hf c_1
    obtain rfl := Option.some.inj hf
    exact ⟨13, (And.intro (fun _ => hK) (fun q => absurd c_1 q))⟩
def mk_appends (C : mm_C) : Prop := ∀ (h : mm_H) (a0 : Int64) (a1 : Int32) (v : Int64) (Q : mm_R), mf_appends a0 a1 = some v → Q (some (.long v)) h → C 7 [.long a0, .int a1] h Q
set_option maxRecDepth 100000 in
theorem mt_appends (B : mm_C) (d : Nat) : mk_appends (mm_ct B mm_Mk mm_Fk mm_PC (d + 1)) := fun h a0 a1 v Q hf hK => Or.inr (mb_appends  a0 a1 v hf hK)
-- X12_letters
noncomputable def mf_letters (a0 : Int32) (a1 : Int32) (a2 : Int32) (a3 : Int32) (a4 : Int32) (a5 : Int32) (a6 : Int32) : Option (Int64) :=
((mf_appends ((0 : Int64)) (a0)).bind fun v_1 =>
((mf_appends (v_1) (a1)).bind fun v_2 =>
((mf_appends (v_2) (a2)).bind fun v_3 =>
((mf_appends (v_3) (a3)).bind fun v_4 =>
((mf_appends (v_4) (a4)).bind fun v_5 =>
((mf_appends (v_5) (a5)).bind fun v_6 =>
((mf_appends (v_6) (a6)).bind fun v_7 =>
some (v_7))))))))
set_option maxHeartbeats 4000000 in
theorem mb_letters {C : mm_C} {Q : mm_R} (h_appends : mk_appends C) {h : mm_H} (a0 : Int32) (a1 : Int32) (a2 : Int32) (a3 : Int32) (a4 : Int32) (a5 : Int32) (a6 : Int32) (v : Int64) (hf : mf_letters a0 a1 a2 a3 a4 a5 a6 = some v) (hK : Q (some (.long v)) h) : mm_go C mm_Mk mm_Fk P_X12_letters Q P_X12_letters [(0, .int a0), (1, .int a1), (2, .int a2), (3, .int a3), (4, .int a4), (5, .int a5), (6, .int a6)] [] h 0 0 := by
  unfold mf_letters at hf
  obtain ⟨v_1, hr_1, hf⟩ := mo_bind hf
  obtain ⟨v_2, hr_2, hf⟩ := mo_bind hf
  obtain ⟨v_3, hr_3, hf⟩ := mo_bind hf
  obtain ⟨v_4, hr_4, hf⟩ := mo_bind hf
  obtain ⟨v_5, hr_5, hf⟩ := mo_bind hf
  obtain ⟨v_6, hr_6, hf⟩ := mo_bind hf
  obtain ⟨v_7, hr_7, hf⟩ := mo_bind hf
  obtain rfl := Option.some.inj hf
  exact ⟨16, (h_appends _ ((0 : Int64)) (a0) v_1 _ hr_1 (h_appends _ (v_1) (a1) v_2 _ hr_2 (h_appends _ (v_2) (a2) v_3 _ hr_3 (h_appends _ (v_3) (a3) v_4 _ hr_4 (h_appends _ (v_4) (a4) v_5 _ hr_5 (h_appends _ (v_5) (a5) v_6 _ hr_6 (h_appends _ (v_6) (a6) v_7 _ hr_7 hK)))))))⟩
def mk_letters (C : mm_C) : Prop := ∀ (h : mm_H) (a0 : Int32) (a1 : Int32) (a2 : Int32) (a3 : Int32) (a4 : Int32) (a5 : Int32) (a6 : Int32) (v : Int64) (Q : mm_R), mf_letters a0 a1 a2 a3 a4 a5 a6 = some v → Q (some (.long v)) h → C 8 [.int a0, .int a1, .int a2, .int a3, .int a4, .int a5, .int a6] h Q
set_option maxRecDepth 100000 in
theorem mt_letters (B : mm_C) (d : Nat) : mk_letters (mm_ct B mm_Mk mm_Fk mm_PC (d + 2)) := fun h a0 a1 a2 a3 a4 a5 a6 v Q hf hK => Or.inr (mb_letters (mt_appends B (d + 0)) a0 a1 a2 a3 a4 a5 a6 v hf hK)
-- X12_token
noncomputable def mf_token (s : ms_S) (a0 : Int32) (a1 : Int32) (a2 : Int32) (a3 : Int64) : Option (ms_S) :=
(bif mo_in (s.1 10) 403 then (bif mo_in (s.1 10) 403 then (bif mo_in (s.1 10) 403 then (bif mo_in (s.1 10) 403 then some (ms_sL (ms_sA (ms_sA (ms_sA (ms_sI s 10 (((s.1 10) + (1 : Int32)))) 5 (upd (s.2.1 5) ((s.1 10)).toNatClampNeg (a0))) 6 (upd (s.2.1 6) ((s.1 10)).toNatClampNeg (a1))) 7 (upd (s.2.1 7) ((s.1 10)).toNatClampNeg (a2))) 8 (vp_updL (s.2.2 8) ((s.1 10)).toNatClampNeg (a3))) else none) else none) else none) else none)
set_option maxHeartbeats 4000000 in
theorem mb_token {C : mm_C} {Q : mm_R}  (s : ms_S) (a0 : Int32) (a1 : Int32) (a2 : Int32) (a3 : Int64) (s2 : ms_S) (hf : mf_token s a0 a1 a2 a3 = some s2) (hK : Q (none) (ms_H s2)) : mm_go C mm_Mk mm_Fk P_X12_token Q P_X12_token [(0, .ref 0), (1, .int a0), (2, .int a1), (3, .int a2), (4, .long a3)] [] (ms_H s) 0 0 := by
  unfold mf_token at hf
  obtain ⟨hi_1, hf⟩ := mo_if hf
  obtain ⟨hi_2, hf⟩ := mo_if hf
  obtain ⟨hi_3, hf⟩ := mo_if hf
  obtain ⟨hi_4, hf⟩ := mo_if hf
  obtain rfl := Option.some.inj hf
  exact ⟨31, (And.intro hi_1 (And.intro hi_2 (And.intro hi_3 (And.intro hi_4 (And.intro trivial hK)))))⟩
def mk_token (C : mm_C) : Prop := ∀ (s : ms_S) (a0 : Int32) (a1 : Int32) (a2 : Int32) (a3 : Int64) (s2 : ms_S) (Q : mm_R), mf_token s a0 a1 a2 a3 = some s2 → Q (none) (ms_H s2) → C 9 [.ref 0, .int a0, .int a1, .int a2, .long a3] (ms_H s) Q
set_option maxRecDepth 100000 in
theorem mt_token (B : mm_C) (d : Nat) : mk_token (mm_ct B mm_Mk mm_Fk mm_PC (d + 1)) := fun s a0 a1 a2 a3 s2 Q hf hK => Or.inr (mb_token  s a0 a1 a2 a3 s2 hf hK)
-- X12_sign
noncomputable def mf_sign_j47 (s : ms_S) (v1 : Int32) (v4 : Int32) : Option (Int32 × ms_S) :=
((mf_token s (v4) (v1) ((0 : Int32)) ((0 : Int64))).bind fun s_7 =>
some ((1 : Int32), s_7))
set_option maxHeartbeats 4000000 in
theorem mb_sign_j47 {C : mm_C} {Q : mm_R} (h_token : mk_token C) (s : ms_S) (v1 : Int32) (v4 : Int32) (v : Int32) (s2 : ms_S) (hf : mf_sign_j47 s v1 v4 = some (v, s2)) (hK : Q (some (.int v)) (ms_H s2)) : mm_go C mm_Mk mm_Fk P_X12_sign Q (P_X12_sign.drop 47) [(0, .ref 0), (1, .int v1), (4, .int v4)] [] (ms_H s) 0 0 := by
  unfold mf_sign_j47 at hf
  obtain ⟨s_7, hr_7, hf⟩ := mo_bind hf
  obtain ⟨rfl, rfl⟩ := mo_pair hf
  exact ⟨8, (h_token s (v4) (v1) ((0 : Int32)) ((0 : Int64)) s_7 _ hr_7 hK)⟩
noncomputable def mf_sign_j42 (s : ms_S) (v1 : Int32) (v2 : Int32) (v4 : Int32) : Option (Int32 × ms_S) :=
(if v2 = (60 : Int32) then
(mf_sign_j47 (s) (v1) ((13 : Int32)))
else
(mf_sign_j47 (s) (v1) (v4)))
set_option maxHeartbeats 4000000 in
theorem mb_sign_j42 {C : mm_C} {Q : mm_R} (h_token : mk_token C) (s : ms_S) (v1 : Int32) (v2 : Int32) (v4 : Int32) (v : Int32) (s2 : ms_S) (hf : mf_sign_j42 s v1 v2 v4 = some (v, s2)) (hK : Q (some (.int v)) (ms_H s2)) : mm_go C mm_Mk mm_Fk P_X12_sign Q (P_X12_sign.drop 42) [(0, .ref 0), (1, .int v1), (2, .int v2), (4, .int v4)] [] (ms_H s) 0 0 := by
  unfold mf_sign_j42 at hf
  by_cases c_6 : v2 = (60 : Int32)
  · have hf := mo_pos hf c_6
    refine mm_adv 5 (cs' := P_X12_sign.drop 47) (l' := [(4, .int (13 : Int32)), (0, .ref 0), (1, .int v1), (2, .int v2)]) (st' := []) (h' := ms_H s) (bc' := 0) (bs' := 0) (fun n g => (And.intro (fun q => absurd c_6 q) (fun _ => g))) ?_
    refine mm_re (l' := [(0, .ref 0), (1, .int v1), (4, .int (13 : Int32))]) (c := [(0, .ref 0), (1, .int v1), (4, .int (13 : Int32))]) ?_ rfl rfl
    exact mb_sign_j47 h_token s (v1) ((13 : Int32)) _ _ hf hK
  · have hf := mo_neg hf c_6
    refine mm_adv 3 (cs' := P_X12_sign.drop 47) (l' := [(0, .ref 0), (1, .int v1), (2, .int v2), (4, .int v4)]) (st' := []) (h' := ms_H s) (bc' := 0) (bs' := 0) (fun n g => (And.intro (fun _ => g) (fun q => absurd c_6 q))) ?_
    refine mm_re (l' := [(0, .ref 0), (1, .int v1), (4, .int v4)]) (c := [(0, .ref 0), (1, .int v1), (4, .int v4)]) ?_ rfl rfl
    exact mb_sign_j47 h_token s (v1) (v4) _ _ hf hK
noncomputable def mf_sign_j37 (s : ms_S) (v1 : Int32) (v2 : Int32) (v4 : Int32) : Option (Int32 × ms_S) :=
(if v2 = (47 : Int32) then
(mf_sign_j42 (s) (v1) (v2) ((15 : Int32)))
else
(mf_sign_j42 (s) (v1) (v2) (v4)))
set_option maxHeartbeats 4000000 in
theorem mb_sign_j37 {C : mm_C} {Q : mm_R} (h_token : mk_token C) (s : ms_S) (v1 : Int32) (v2 : Int32) (v4 : Int32) (v : Int32) (s2 : ms_S) (hf : mf_sign_j37 s v1 v2 v4 = some (v, s2)) (hK : Q (some (.int v)) (ms_H s2)) : mm_go C mm_Mk mm_Fk P_X12_sign Q (P_X12_sign.drop 37) [(0, .ref 0), (1, .int v1), (2, .int v2), (4, .int v4)] [] (ms_H s) 0 0 := by
  unfold mf_sign_j37 at hf
  by_cases c_5 : v2 = (47 : Int32)
  · have hf := mo_pos hf c_5
    refine mm_adv 5 (cs' := P_X12_sign.drop 42) (l' := [(4, .int (15 : Int32)), (0, .ref 0), (1, .int v1), (2, .int v2)]) (st' := []) (h' := ms_H s) (bc' := 0) (bs' := 0) (fun n g => (And.intro (fun q => absurd c_5 q) (fun _ => g))) ?_
    refine mm_re (l' := [(0, .ref 0), (1, .int v1), (2, .int v2), (4, .int (15 : Int32))]) (c := [(0, .ref 0), (1, .int v1), (2, .int v2), (4, .int (15 : Int32))]) ?_ rfl rfl
    exact mb_sign_j42 h_token s (v1) (v2) ((15 : Int32)) _ _ hf hK
  · have hf := mo_neg hf c_5
    refine mm_adv 3 (cs' := P_X12_sign.drop 42) (l' := [(0, .ref 0), (1, .int v1), (2, .int v2), (4, .int v4)]) (st' := []) (h' := ms_H s) (bc' := 0) (bs' := 0) (fun n g => (And.intro (fun _ => g) (fun q => absurd c_5 q))) ?_
    refine mm_re (l' := [(0, .ref 0), (1, .int v1), (2, .int v2), (4, .int v4)]) (c := [(0, .ref 0), (1, .int v1), (2, .int v2), (4, .int v4)]) ?_ rfl rfl
    exact mb_sign_j42 h_token s (v1) (v2) (v4) _ _ hf hK
noncomputable def mf_sign_j32 (s : ms_S) (v1 : Int32) (v2 : Int32) (v4 : Int32) : Option (Int32 × ms_S) :=
(if v2 = (42 : Int32) then
(mf_sign_j37 (s) (v1) (v2) ((10 : Int32)))
else
(mf_sign_j37 (s) (v1) (v2) (v4)))
set_option maxHeartbeats 4000000 in
theorem mb_sign_j32 {C : mm_C} {Q : mm_R} (h_token : mk_token C) (s : ms_S) (v1 : Int32) (v2 : Int32) (v4 : Int32) (v : Int32) (s2 : ms_S) (hf : mf_sign_j32 s v1 v2 v4 = some (v, s2)) (hK : Q (some (.int v)) (ms_H s2)) : mm_go C mm_Mk mm_Fk P_X12_sign Q (P_X12_sign.drop 32) [(0, .ref 0), (1, .int v1), (2, .int v2), (4, .int v4)] [] (ms_H s) 0 0 := by
  unfold mf_sign_j32 at hf
  by_cases c_4 : v2 = (42 : Int32)
  · have hf := mo_pos hf c_4
    refine mm_adv 5 (cs' := P_X12_sign.drop 37) (l' := [(4, .int (10 : Int32)), (0, .ref 0), (1, .int v1), (2, .int v2)]) (st' := []) (h' := ms_H s) (bc' := 0) (bs' := 0) (fun n g => (And.intro (fun q => absurd c_4 q) (fun _ => g))) ?_
    refine mm_re (l' := [(0, .ref 0), (1, .int v1), (2, .int v2), (4, .int (10 : Int32))]) (c := [(0, .ref 0), (1, .int v1), (2, .int v2), (4, .int (10 : Int32))]) ?_ rfl rfl
    exact mb_sign_j37 h_token s (v1) (v2) ((10 : Int32)) _ _ hf hK
  · have hf := mo_neg hf c_4
    refine mm_adv 3 (cs' := P_X12_sign.drop 37) (l' := [(0, .ref 0), (1, .int v1), (2, .int v2), (4, .int v4)]) (st' := []) (h' := ms_H s) (bc' := 0) (bs' := 0) (fun n g => (And.intro (fun _ => g) (fun q => absurd c_4 q))) ?_
    refine mm_re (l' := [(0, .ref 0), (1, .int v1), (2, .int v2), (4, .int v4)]) (c := [(0, .ref 0), (1, .int v1), (2, .int v2), (4, .int v4)]) ?_ rfl rfl
    exact mb_sign_j37 h_token s (v1) (v2) (v4) _ _ hf hK
noncomputable def mf_sign_j27 (s : ms_S) (v1 : Int32) (v2 : Int32) (v4 : Int32) : Option (Int32 × ms_S) :=
(if v2 = (45 : Int32) then
(mf_sign_j32 (s) (v1) (v2) ((9 : Int32)))
else
(mf_sign_j32 (s) (v1) (v2) (v4)))
set_option maxHeartbeats 4000000 in
theorem mb_sign_j27 {C : mm_C} {Q : mm_R} (h_token : mk_token C) (s : ms_S) (v1 : Int32) (v2 : Int32) (v4 : Int32) (v : Int32) (s2 : ms_S) (hf : mf_sign_j27 s v1 v2 v4 = some (v, s2)) (hK : Q (some (.int v)) (ms_H s2)) : mm_go C mm_Mk mm_Fk P_X12_sign Q (P_X12_sign.drop 27) [(0, .ref 0), (1, .int v1), (2, .int v2), (4, .int v4)] [] (ms_H s) 0 0 := by
  unfold mf_sign_j27 at hf
  by_cases c_3 : v2 = (45 : Int32)
  · have hf := mo_pos hf c_3
    refine mm_adv 5 (cs' := P_X12_sign.drop 32) (l' := [(4, .int (9 : Int32)), (0, .ref 0), (1, .int v1), (2, .int v2)]) (st' := []) (h' := ms_H s) (bc' := 0) (bs' := 0) (fun n g => (And.intro (fun q => absurd c_3 q) (fun _ => g))) ?_
    refine mm_re (l' := [(0, .ref 0), (1, .int v1), (2, .int v2), (4, .int (9 : Int32))]) (c := [(0, .ref 0), (1, .int v1), (2, .int v2), (4, .int (9 : Int32))]) ?_ rfl rfl
    exact mb_sign_j32 h_token s (v1) (v2) ((9 : Int32)) _ _ hf hK
  · have hf := mo_neg hf c_3
    refine mm_adv 3 (cs' := P_X12_sign.drop 32) (l' := [(0, .ref 0), (1, .int v1), (2, .int v2), (4, .int v4)]) (st' := []) (h' := ms_H s) (bc' := 0) (bs' := 0) (fun n g => (And.intro (fun _ => g) (fun q => absurd c_3 q))) ?_
    refine mm_re (l' := [(0, .ref 0), (1, .int v1), (2, .int v2), (4, .int v4)]) (c := [(0, .ref 0), (1, .int v1), (2, .int v2), (4, .int v4)]) ?_ rfl rfl
    exact mb_sign_j32 h_token s (v1) (v2) (v4) _ _ hf hK
noncomputable def mf_sign_j21 (s : ms_S) (v1 : Int32) (v2 : Int32) (k0 : Int32) : Option (Int32 × ms_S) :=
(if v2 = (43 : Int32) then
(mf_sign_j27 (s) (v1) (v2) ((8 : Int32)))
else
(mf_sign_j27 (s) (v1) (v2) (k0)))
set_option maxHeartbeats 4000000 in
theorem mb_sign_j21 {C : mm_C} {Q : mm_R} (h_token : mk_token C) (s : ms_S) (v1 : Int32) (v2 : Int32) (k0 : Int32) (v : Int32) (s2 : ms_S) (hf : mf_sign_j21 s v1 v2 k0 = some (v, s2)) (hK : Q (some (.int v)) (ms_H s2)) : mm_go C mm_Mk mm_Fk P_X12_sign Q (P_X12_sign.drop 21) [(0, .ref 0), (1, .int v1), (2, .int v2)] [.int k0] (ms_H s) 0 0 := by
  unfold mf_sign_j21 at hf
  by_cases c_2 : v2 = (43 : Int32)
  · have hf := mo_pos hf c_2
    refine mm_adv 6 (cs' := P_X12_sign.drop 27) (l' := [(4, .int (8 : Int32)), (0, .ref 0), (1, .int v1), (2, .int v2)]) (st' := []) (h' := ms_H s) (bc' := 0) (bs' := 0) (fun n g => (And.intro (fun q => absurd c_2 q) (fun _ => g))) ?_
    refine mm_re (l' := [(0, .ref 0), (1, .int v1), (2, .int v2), (4, .int (8 : Int32))]) (c := [(0, .ref 0), (1, .int v1), (2, .int v2), (4, .int (8 : Int32))]) ?_ rfl rfl
    exact mb_sign_j27 h_token s (v1) (v2) ((8 : Int32)) _ _ hf hK
  · have hf := mo_neg hf c_2
    refine mm_adv 4 (cs' := P_X12_sign.drop 27) (l' := [(4, .int k0), (0, .ref 0), (1, .int v1), (2, .int v2)]) (st' := []) (h' := ms_H s) (bc' := 0) (bs' := 0) (fun n g => (And.intro (fun _ => g) (fun q => absurd c_2 q))) ?_
    refine mm_re (l' := [(0, .ref 0), (1, .int v1), (2, .int v2), (4, .int k0)]) (c := [(0, .ref 0), (1, .int v1), (2, .int v2), (4, .int k0)]) ?_ rfl rfl
    exact mb_sign_j27 h_token s (v1) (v2) (k0) _ _ hf hK
noncomputable def mf_sign (s : ms_S) (a0 : Int32) (a1 : Int32) (a2 : Int32) : Option (Int32 × ms_S) :=
(if a1 = (59 : Int32) then
(mf_sign_j21 (s) (a0) (a1) ((4 : Int32)))
else
(if a1 = (61 : Int32) then
(mf_sign_j21 (s) (a0) (a1) ((5 : Int32)))
else
(if a1 = (40 : Int32) then
(mf_sign_j21 (s) (a0) (a1) ((6 : Int32)))
else
(if a1 = (41 : Int32) then
(mf_sign_j21 (s) (a0) (a1) ((7 : Int32)))
else
(mf_sign_j21 (s) (a0) (a1) ((3 : Int32)))))))
set_option maxHeartbeats 4000000 in
theorem mb_sign {C : mm_C} {Q : mm_R} (h_token : mk_token C) (s : ms_S) (a0 : Int32) (a1 : Int32) (a2 : Int32) (v : Int32) (s2 : ms_S) (hf : mf_sign s a0 a1 a2 = some (v, s2)) (hK : Q (some (.int v)) (ms_H s2)) : mm_go C mm_Mk mm_Fk P_X12_sign Q P_X12_sign [(0, .ref 0), (1, .int a0), (2, .int a1), (3, .int a2)] [] (ms_H s) 0 0 := by
  unfold mf_sign at hf
  by_cases c_1 : a1 = (59 : Int32)
  · have hf := mo_pos hf c_1
    refine mm_adv 5 (cs' := P_X12_sign.drop 21) (l' := [(0, .ref 0), (1, .int a0), (2, .int a1), (3, .int a2)]) (st' := [.int (4 : Int32)]) (h' := ms_H s) (bc' := 0) (bs' := 0) (fun n g => (And.intro (fun q => absurd c_1 q) (fun _ => g))) ?_
    refine mm_re (l' := [(0, .ref 0), (1, .int a0), (2, .int a1)]) (c := [(0, .ref 0), (1, .int a0), (2, .int a1)]) ?_ rfl rfl
    exact mb_sign_j21 h_token s (a0) (a1) ((4 : Int32)) _ _ hf hK
  · have hf := mo_neg hf c_1
    by_cases c_8 : a1 = (61 : Int32)
    · have hf := mo_pos hf c_8
      refine mm_adv 8 (cs' := P_X12_sign.drop 21) (l' := [(0, .ref 0), (1, .int a0), (2, .int a1), (3, .int a2)]) (st' := [.int (5 : Int32)]) (h' := ms_H s) (bc' := 0) (bs' := 0) (fun n g => (And.intro (fun _ => (And.intro (fun q => absurd c_8 q) (fun _ => g))) (fun q => absurd c_1 q))) ?_
      refine mm_re (l' := [(0, .ref 0), (1, .int a0), (2, .int a1)]) (c := [(0, .ref 0), (1, .int a0), (2, .int a1)]) ?_ rfl rfl
      exact mb_sign_j21 h_token s (a0) (a1) ((5 : Int32)) _ _ hf hK
    · have hf := mo_neg hf c_8
      by_cases c_9 : a1 = (40 : Int32)
      · have hf := mo_pos hf c_9
        refine mm_adv 11 (cs' := P_X12_sign.drop 21) (l' := [(0, .ref 0), (1, .int a0), (2, .int a1), (3, .int a2)]) (st' := [.int (6 : Int32)]) (h' := ms_H s) (bc' := 0) (bs' := 0) (fun n g => (And.intro (fun _ => (And.intro (fun _ => (And.intro (fun q => absurd c_9 q) (fun _ => g))) (fun q => absurd c_8 q))) (fun q => absurd c_1 q))) ?_
        refine mm_re (l' := [(0, .ref 0), (1, .int a0), (2, .int a1)]) (c := [(0, .ref 0), (1, .int a0), (2, .int a1)]) ?_ rfl rfl
        exact mb_sign_j21 h_token s (a0) (a1) ((6 : Int32)) _ _ hf hK
      · have hf := mo_neg hf c_9
        by_cases c_10 : a1 = (41 : Int32)
        · have hf := mo_pos hf c_10
          refine mm_adv 14 (cs' := P_X12_sign.drop 21) (l' := [(0, .ref 0), (1, .int a0), (2, .int a1), (3, .int a2)]) (st' := [.int (7 : Int32)]) (h' := ms_H s) (bc' := 0) (bs' := 0) (fun n g => (And.intro (fun _ => (And.intro (fun _ => (And.intro (fun _ => (And.intro (fun q => absurd c_10 q) (fun _ => g))) (fun q => absurd c_9 q))) (fun q => absurd c_8 q))) (fun q => absurd c_1 q))) ?_
          refine mm_re (l' := [(0, .ref 0), (1, .int a0), (2, .int a1)]) (c := [(0, .ref 0), (1, .int a0), (2, .int a1)]) ?_ rfl rfl
          exact mb_sign_j21 h_token s (a0) (a1) ((7 : Int32)) _ _ hf hK
        · have hf := mo_neg hf c_10
          refine mm_adv 13 (cs' := P_X12_sign.drop 21) (l' := [(0, .ref 0), (1, .int a0), (2, .int a1), (3, .int a2)]) (st' := [.int (3 : Int32)]) (h' := ms_H s) (bc' := 0) (bs' := 0) (fun n g => (And.intro (fun _ => (And.intro (fun _ => (And.intro (fun _ => (And.intro (fun _ => g) (fun q => absurd c_10 q))) (fun q => absurd c_9 q))) (fun q => absurd c_8 q))) (fun q => absurd c_1 q))) ?_
          refine mm_re (l' := [(0, .ref 0), (1, .int a0), (2, .int a1)]) (c := [(0, .ref 0), (1, .int a0), (2, .int a1)]) ?_ rfl rfl
          exact mb_sign_j21 h_token s (a0) (a1) ((3 : Int32)) _ _ hf hK
def mk_sign (C : mm_C) : Prop := ∀ (s : ms_S) (a0 : Int32) (a1 : Int32) (a2 : Int32) (v : Int32) (s2 : ms_S) (Q : mm_R), mf_sign s a0 a1 a2 = some (v, s2) → Q (some (.int v)) (ms_H s2) → C 11 [.ref 0, .int a0, .int a1, .int a2] (ms_H s) Q
set_option maxRecDepth 100000 in
theorem mt_sign (B : mm_C) (d : Nat) : mk_sign (mm_ct B mm_Mk mm_Fk mm_PC (d + 2)) := fun s a0 a1 a2 v s2 Q hf hK => Or.inr (mb_sign (mt_token B (d + 0)) s a0 a1 a2 v s2 hf hK)
-- X12_cut
noncomputable def mf_cut_j164 (s : ms_S) (v1 : Int32) : Option ((Int32 × ms_S) ⊕ ((ms_S) ⊕ (ms_S))) :=
some (.inl (v1, s))
set_option maxHeartbeats 4000000 in
theorem mb_cut_j164 {C : mm_C} {Q : mm_R} (h_byteAt : mk_byteAt C) (h_token : mk_token C) (h_isLetter : mk_isLetter C) (h_appends : mk_appends C) (h_isDigit : mk_isDigit C) (h_sign : mk_sign C) (s : ms_S) (v1 : Int32) (r : (Int32 × ms_S) ⊕ ((ms_S) ⊕ (ms_S))) (hf : mf_cut_j164 s v1 = some r) (hK : mo_sum (mo_c2 (fun y1 sy => mm_go C mm_Mk mm_Fk P_X12_cut Q (P_X12_cut.drop 5) [(0, .ref 0), (1, .int y1)] [] (ms_H sy) 0 0))  (mo_sum (fun sy => mm_go C mm_Mk mm_Fk P_X12_cut Q (P_X12_cut.drop 17) [(0, .ref 0)] [] (ms_H sy) 0 0) (fun sy => mm_go C mm_Mk mm_Fk P_X12_cut Q (P_X12_cut.drop 165) [] [] (ms_H sy) 0 0))  r) : mm_go C mm_Mk mm_Fk P_X12_cut Q (P_X12_cut.drop 164) [(0, .ref 0), (1, .int v1)] [] (ms_H s) 0 0 := by
  unfold mf_cut_j164 at hf
  obtain rfl := Option.some.inj hf
  refine mm_adv 1 (cs' := P_X12_cut.drop 5) (l' := [(0, .ref 0), (1, .int v1)]) (st' := []) (h' := ms_H s) (bc' := 0) (bs' := 0) (fun n g => g) ?_
  exact mm_re (c := [(0, .ref 0), (1, .int v1)]) hK rfl rfl
noncomputable def mf_cut_j37 (s : ms_S) (v1 : Int32) : Option ((Int32 × ms_S) ⊕ ((ms_S) ⊕ (ms_S))) :=
(mf_cut_j164 (s) ((v1 + (1 : Int32))))
set_option maxHeartbeats 4000000 in
theorem mb_cut_j37 {C : mm_C} {Q : mm_R} (h_byteAt : mk_byteAt C) (h_token : mk_token C) (h_isLetter : mk_isLetter C) (h_appends : mk_appends C) (h_isDigit : mk_isDigit C) (h_sign : mk_sign C) (s : ms_S) (v1 : Int32) (r : (Int32 × ms_S) ⊕ ((ms_S) ⊕ (ms_S))) (hf : mf_cut_j37 s v1 = some r) (hK : mo_sum (mo_c2 (fun y1 sy => mm_go C mm_Mk mm_Fk P_X12_cut Q (P_X12_cut.drop 5) [(0, .ref 0), (1, .int y1)] [] (ms_H sy) 0 0))  (mo_sum (fun sy => mm_go C mm_Mk mm_Fk P_X12_cut Q (P_X12_cut.drop 17) [(0, .ref 0)] [] (ms_H sy) 0 0) (fun sy => mm_go C mm_Mk mm_Fk P_X12_cut Q (P_X12_cut.drop 165) [] [] (ms_H sy) 0 0))  r) : mm_go C mm_Mk mm_Fk P_X12_cut Q (P_X12_cut.drop 37) [(0, .ref 0), (1, .int v1)] [] (ms_H s) 0 0 := by
  unfold mf_cut_j37 at hf
  refine mm_adv 2 (cs' := P_X12_cut.drop 164) (l' := [(1, .int (v1 + (1 : Int32))), (0, .ref 0)]) (st' := []) (h' := ms_H s) (bc' := 0) (bs' := 0) (fun n g => g) ?_
  refine mm_re (l' := [(0, .ref 0), (1, .int (v1 + (1 : Int32)))]) (c := [(0, .ref 0), (1, .int (v1 + (1 : Int32)))]) ?_ rfl rfl
  exact mb_cut_j164 h_byteAt h_token h_isLetter h_appends h_isDigit h_sign s ((v1 + (1 : Int32))) _ hf hK
noncomputable def mf_cut_j134 (s : ms_S) (v1 : Int32) (v3 : Int32) (v4 : Int32) : Option ((Int32 × Int32 × ms_S) ⊕ ((Int32 × Int32 × ms_S))) :=
some (.inl ((v3 + (1 : Int32)), v4, s))
set_option maxHeartbeats 4000000 in
theorem mb_cut_j134 {C : mm_C} {Q : mm_R} (h_byteAt : mk_byteAt C) (h_token : mk_token C) (h_isLetter : mk_isLetter C) (h_appends : mk_appends C) (h_isDigit : mk_isDigit C) (h_sign : mk_sign C) (s : ms_S) (v1 : Int32) (v3 : Int32) (v4 : Int32) (r : (Int32 × Int32 × ms_S) ⊕ ((Int32 × Int32 × ms_S))) (hf : mf_cut_j134 s v1 v3 v4 = some r) (hK : mo_sum (mo_c2 (fun y3 => (mo_c2 (fun y4 sy => mm_go C mm_Mk mm_Fk P_X12_cut Q (P_X12_cut.drop 112) [(0, .ref 0), (1, .int v1), (3, .int y3), (4, .int y4)] [] (ms_H sy) 0 0))))  (mo_c2 (fun y3 => (mo_c2 (fun y4 sy => mm_go C mm_Mk mm_Fk P_X12_cut Q (P_X12_cut.drop 136) [(0, .ref 0), (1, .int v1), (3, .int y3), (4, .int y4)] [] (ms_H sy) 0 0))))  r) : mm_go C mm_Mk mm_Fk P_X12_cut Q (P_X12_cut.drop 134) [(0, .ref 0), (1, .int v1), (3, .int v3), (4, .int v4)] [] (ms_H s) 0 0 := by
  unfold mf_cut_j134 at hf
  obtain rfl := Option.some.inj hf
  refine mm_adv 2 (cs' := P_X12_cut.drop 112) (l' := [(3, .int (v3 + (1 : Int32))), (0, .ref 0), (1, .int v1), (4, .int v4)]) (st' := []) (h' := ms_H s) (bc' := 0) (bs' := 0) (fun n g => g) ?_
  exact mm_re (c := [(0, .ref 0), (1, .int v1), (3, .int (v3 + (1 : Int32))), (4, .int v4)]) hK rfl rfl
noncomputable def mf_cut_l112 (v1 : Int32) : (Int32 × Int32 × ms_S) → Option ((Int32 × Int32 × ms_S) ⊕ ((Int32 × Int32 × ms_S))) := fun (w3, w4, s) =>
((mf_byteAt s ((v1 + w3))).bind fun (v_14, s_14) =>
((mf_isDigit (v_14)).bind fun v_15 =>
(if v_15 = (0 : Int32) then
some (.inr (w3, w4, s_14))
else
(if (4 : Int32) ≤ w3 then
(mf_cut_j134 (s_14) (v1) (w3) (w4))
else
((mf_byteAt s_14 ((v1 + w3))).bind fun (v_18, s_18) =>
(mf_cut_j134 (s_18) (v1) (w3) (((((10 : Int32) * w4) + v_18) - (48 : Int32)))))))))
set_option maxHeartbeats 4000000 in
theorem mb_cut_l112 {C : mm_C} {Q : mm_R} (h_byteAt : mk_byteAt C) (h_token : mk_token C) (h_isLetter : mk_isLetter C) (h_appends : mk_appends C) (h_isDigit : mk_isDigit C) (h_sign : mk_sign C) (v1 : Int32) (t : Int32 × Int32 × ms_S) (x : (Int32 × Int32 × ms_S)) (hl : mo_loop (mf_cut_l112 v1) t = some x) (hK : (mo_c2 (fun y3 => (mo_c2 (fun y4 sy => mm_go C mm_Mk mm_Fk P_X12_cut Q (P_X12_cut.drop 136) [(0, .ref 0), (1, .int v1), (3, .int y3), (4, .int y4)] [] (ms_H sy) 0 0)))) x) : (mo_c2 (fun y3 => (mo_c2 (fun y4 sy => mm_go C mm_Mk mm_Fk P_X12_cut Q (P_X12_cut.drop 112) [(0, .ref 0), (1, .int v1), (3, .int y3), (4, .int y4)] [] (ms_H sy) 0 0)))) t := by
  refine mo_loop_go (G := (mo_c2 (fun y3 => (mo_c2 (fun y4 sy => mm_go C mm_Mk mm_Fk P_X12_cut Q (P_X12_cut.drop 112) [(0, .ref 0), (1, .int v1), (3, .int y3), (4, .int y4)] [] (ms_H sy) 0 0)))) ) (K := (mo_c2 (fun y3 => (mo_c2 (fun y4 sy => mm_go C mm_Mk mm_Fk P_X12_cut Q (P_X12_cut.drop 136) [(0, .ref 0), (1, .int v1), (3, .int y3), (4, .int y4)] [] (ms_H sy) 0 0)))) ) ?_ t x hl hK
  intro t r hf hK
  obtain ⟨w3, w4, s⟩ := t
  unfold mf_cut_l112 at hf
  obtain ⟨r_14, hr_14, hf⟩ := mo_bind hf
  obtain ⟨v_14, s_14⟩ := r_14
  obtain ⟨v_15, hr_15, hf⟩ := mo_bind hf
  by_cases c_16 : v_15 = (0 : Int32)
  · have hf := mo_pos hf c_16
    obtain rfl := Option.some.inj hf
    refine mm_adv 7 (cs' := P_X12_cut.drop 136) (l' := [(0, .ref 0), (1, .int v1), (3, .int w3), (4, .int w4)]) (st' := []) (h' := ms_H s_14) (bc' := 0) (bs' := 0) (fun n g => (h_byteAt s ((v1 + w3)) v_14 s_14 _ hr_14 (h_isDigit _ (v_14) v_15 _ hr_15 (And.intro (fun _ => g) (fun q => absurd c_16 q))))) ?_
    exact mm_re (c := [(0, .ref 0), (1, .int v1), (3, .int w3), (4, .int w4)]) hK rfl rfl
  · have hf := mo_neg hf c_16
    by_cases c_17 : (4 : Int32) ≤ w3
    · have hf := mo_pos hf c_17
      refine mm_adv 10 (cs' := P_X12_cut.drop 134) (l' := [(0, .ref 0), (1, .int v1), (3, .int w3), (4, .int w4)]) (st' := []) (h' := ms_H s_14) (bc' := 0) (bs' := 0) (fun n g => (h_byteAt s ((v1 + w3)) v_14 s_14 _ hr_14 (h_isDigit _ (v_14) v_15 _ hr_15 (And.intro (fun q => absurd q c_16) (fun _ => (And.intro (fun _ => g) (fun q => absurd c_17 q))))))) ?_
      refine mm_re (l' := [(0, .ref 0), (1, .int v1), (3, .int w3), (4, .int w4)]) (c := [(0, .ref 0), (1, .int v1), (3, .int w3), (4, .int w4)]) ?_ rfl rfl
      exact mb_cut_j134 h_byteAt h_token h_isLetter h_appends h_isDigit h_sign s_14 (v1) (w3) (w4) _ hf hK
    · have hf := mo_neg hf c_17
      obtain ⟨r_18, hr_18, hf⟩ := mo_bind hf
      obtain ⟨v_18, s_18⟩ := r_18
      refine mm_adv 22 (cs' := P_X12_cut.drop 134) (l' := [(4, .int ((((10 : Int32) * w4) + v_18) - (48 : Int32))), (0, .ref 0), (1, .int v1), (3, .int w3)]) (st' := []) (h' := ms_H s_18) (bc' := 0) (bs' := 0) (fun n g => (h_byteAt s ((v1 + w3)) v_14 s_14 _ hr_14 (h_isDigit _ (v_14) v_15 _ hr_15 (And.intro (fun q => absurd q c_16) (fun _ => (And.intro (fun q => absurd q c_17) (fun _ => (h_byteAt s_14 ((v1 + w3)) v_18 s_18 _ hr_18 g)))))))) ?_
      refine mm_re (l' := [(0, .ref 0), (1, .int v1), (3, .int w3), (4, .int ((((10 : Int32) * w4) + v_18) - (48 : Int32)))]) (c := [(0, .ref 0), (1, .int v1), (3, .int w3), (4, .int ((((10 : Int32) * w4) + v_18) - (48 : Int32)))]) ?_ rfl rfl
      exact mb_cut_j134 h_byteAt h_token h_isLetter h_appends h_isDigit h_sign s_18 (v1) (w3) (((((10 : Int32) * w4) + v_18) - (48 : Int32))) _ hf hK
noncomputable def mf_cut_j143 (s : ms_S) (v1 : Int32) (v3 : Int32) (v4 : Int32) (k0 : Int32) : Option ((Int32 × ms_S) ⊕ ((ms_S) ⊕ (ms_S))) :=
((mf_token s (k0) (v1) (v4) ((0 : Int64))).bind fun s_21 =>
(mf_cut_j164 (s_21) ((v1 + v3))))
set_option maxHeartbeats 4000000 in
theorem mb_cut_j143 {C : mm_C} {Q : mm_R} (h_byteAt : mk_byteAt C) (h_token : mk_token C) (h_isLetter : mk_isLetter C) (h_appends : mk_appends C) (h_isDigit : mk_isDigit C) (h_sign : mk_sign C) (s : ms_S) (v1 : Int32) (v3 : Int32) (v4 : Int32) (k0 : Int32) (r : (Int32 × ms_S) ⊕ ((ms_S) ⊕ (ms_S))) (hf : mf_cut_j143 s v1 v3 v4 k0 = some r) (hK : mo_sum (mo_c2 (fun y1 sy => mm_go C mm_Mk mm_Fk P_X12_cut Q (P_X12_cut.drop 5) [(0, .ref 0), (1, .int y1)] [] (ms_H sy) 0 0))  (mo_sum (fun sy => mm_go C mm_Mk mm_Fk P_X12_cut Q (P_X12_cut.drop 17) [(0, .ref 0)] [] (ms_H sy) 0 0) (fun sy => mm_go C mm_Mk mm_Fk P_X12_cut Q (P_X12_cut.drop 165) [] [] (ms_H sy) 0 0))  r) : mm_go C mm_Mk mm_Fk P_X12_cut Q (P_X12_cut.drop 143) [(0, .ref 0), (1, .int v1), (3, .int v3), (4, .int v4)] [.int k0, .ref 0] (ms_H s) 0 0 := by
  unfold mf_cut_j143 at hf
  obtain ⟨s_21, hr_21, hf⟩ := mo_bind hf
  refine mm_adv 9 (cs' := P_X12_cut.drop 164) (l' := [(1, .int (v1 + v3)), (0, .ref 0), (3, .int v3), (4, .int v4)]) (st' := []) (h' := ms_H s_21) (bc' := 0) (bs' := 0) (fun n g => (h_token s (k0) (v1) (v4) ((0 : Int64)) s_21 _ hr_21 g)) ?_
  refine mm_re (l' := [(0, .ref 0), (1, .int (v1 + v3))]) (c := [(0, .ref 0), (1, .int (v1 + v3))]) ?_ rfl rfl
  exact mb_cut_j164 h_byteAt h_token h_isLetter h_appends h_isDigit h_sign s_21 ((v1 + v3)) _ hf hK
noncomputable def mf_cut_j64 (s : ms_S) (v1 : Int32) (v3 : Int32) (v4 : Int64) : Option ((Int32 × Int64 × ms_S) ⊕ ((Int32 × Int64 × ms_S))) :=
some (.inl ((v3 + (1 : Int32)), v4, s))
set_option maxHeartbeats 4000000 in
theorem mb_cut_j64 {C : mm_C} {Q : mm_R} (h_byteAt : mk_byteAt C) (h_token : mk_token C) (h_isLetter : mk_isLetter C) (h_appends : mk_appends C) (h_isDigit : mk_isDigit C) (h_sign : mk_sign C) (s : ms_S) (v1 : Int32) (v3 : Int32) (v4 : Int64) (r : (Int32 × Int64 × ms_S) ⊕ ((Int32 × Int64 × ms_S))) (hf : mf_cut_j64 s v1 v3 v4 = some r) (hK : mo_sum (mo_c2 (fun y3 => (mo_c2 (fun y4 sy => mm_go C mm_Mk mm_Fk P_X12_cut Q (P_X12_cut.drop 46) [(0, .ref 0), (1, .int v1), (3, .int y3), (4, .long y4)] [] (ms_H sy) 0 0))))  (mo_c2 (fun y3 => (mo_c2 (fun y4 sy => mm_go C mm_Mk mm_Fk P_X12_cut Q (P_X12_cut.drop 66) [(0, .ref 0), (1, .int v1), (3, .int y3), (4, .long y4)] [] (ms_H sy) 0 0))))  r) : mm_go C mm_Mk mm_Fk P_X12_cut Q (P_X12_cut.drop 64) [(0, .ref 0), (1, .int v1), (3, .int v3), (4, .long v4)] [] (ms_H s) 0 0 := by
  unfold mf_cut_j64 at hf
  obtain rfl := Option.some.inj hf
  refine mm_adv 2 (cs' := P_X12_cut.drop 46) (l' := [(3, .int (v3 + (1 : Int32))), (0, .ref 0), (1, .int v1), (4, .long v4)]) (st' := []) (h' := ms_H s) (bc' := 0) (bs' := 0) (fun n g => g) ?_
  exact mm_re (c := [(0, .ref 0), (1, .int v1), (3, .int (v3 + (1 : Int32))), (4, .long v4)]) hK rfl rfl
noncomputable def mf_cut_l46 (v1 : Int32) : (Int32 × Int64 × ms_S) → Option ((Int32 × Int64 × ms_S) ⊕ ((Int32 × Int64 × ms_S))) := fun (w3, w4, s) =>
((mf_byteAt s ((v1 + w3))).bind fun (v_22, s_22) =>
((mf_isLetter (v_22)).bind fun v_23 =>
(if v_23 = (0 : Int32) then
some (.inr (w3, w4, s_22))
else
(if (8 : Int32) ≤ w3 then
(mf_cut_j64 (s_22) (v1) (w3) (w4))
else
((mf_byteAt s_22 ((v1 + w3))).bind fun (v_26, s_26) =>
((mf_appends (w4) (v_26)).bind fun v_27 =>
(mf_cut_j64 (s_26) (v1) (w3) (v_27))))))))
set_option maxHeartbeats 4000000 in
theorem mb_cut_l46 {C : mm_C} {Q : mm_R} (h_byteAt : mk_byteAt C) (h_token : mk_token C) (h_isLetter : mk_isLetter C) (h_appends : mk_appends C) (h_isDigit : mk_isDigit C) (h_sign : mk_sign C) (v1 : Int32) (t : Int32 × Int64 × ms_S) (x : (Int32 × Int64 × ms_S)) (hl : mo_loop (mf_cut_l46 v1) t = some x) (hK : (mo_c2 (fun y3 => (mo_c2 (fun y4 sy => mm_go C mm_Mk mm_Fk P_X12_cut Q (P_X12_cut.drop 66) [(0, .ref 0), (1, .int v1), (3, .int y3), (4, .long y4)] [] (ms_H sy) 0 0)))) x) : (mo_c2 (fun y3 => (mo_c2 (fun y4 sy => mm_go C mm_Mk mm_Fk P_X12_cut Q (P_X12_cut.drop 46) [(0, .ref 0), (1, .int v1), (3, .int y3), (4, .long y4)] [] (ms_H sy) 0 0)))) t := by
  refine mo_loop_go (G := (mo_c2 (fun y3 => (mo_c2 (fun y4 sy => mm_go C mm_Mk mm_Fk P_X12_cut Q (P_X12_cut.drop 46) [(0, .ref 0), (1, .int v1), (3, .int y3), (4, .long y4)] [] (ms_H sy) 0 0)))) ) (K := (mo_c2 (fun y3 => (mo_c2 (fun y4 sy => mm_go C mm_Mk mm_Fk P_X12_cut Q (P_X12_cut.drop 66) [(0, .ref 0), (1, .int v1), (3, .int y3), (4, .long y4)] [] (ms_H sy) 0 0)))) ) ?_ t x hl hK
  intro t r hf hK
  obtain ⟨w3, w4, s⟩ := t
  unfold mf_cut_l46 at hf
  obtain ⟨r_22, hr_22, hf⟩ := mo_bind hf
  obtain ⟨v_22, s_22⟩ := r_22
  obtain ⟨v_23, hr_23, hf⟩ := mo_bind hf
  by_cases c_24 : v_23 = (0 : Int32)
  · have hf := mo_pos hf c_24
    obtain rfl := Option.some.inj hf
    refine mm_adv 7 (cs' := P_X12_cut.drop 66) (l' := [(0, .ref 0), (1, .int v1), (3, .int w3), (4, .long w4)]) (st' := []) (h' := ms_H s_22) (bc' := 0) (bs' := 0) (fun n g => (h_byteAt s ((v1 + w3)) v_22 s_22 _ hr_22 (h_isLetter _ (v_22) v_23 _ hr_23 (And.intro (fun _ => g) (fun q => absurd c_24 q))))) ?_
    exact mm_re (c := [(0, .ref 0), (1, .int v1), (3, .int w3), (4, .long w4)]) hK rfl rfl
  · have hf := mo_neg hf c_24
    by_cases c_25 : (8 : Int32) ≤ w3
    · have hf := mo_pos hf c_25
      refine mm_adv 10 (cs' := P_X12_cut.drop 64) (l' := [(0, .ref 0), (1, .int v1), (3, .int w3), (4, .long w4)]) (st' := []) (h' := ms_H s_22) (bc' := 0) (bs' := 0) (fun n g => (h_byteAt s ((v1 + w3)) v_22 s_22 _ hr_22 (h_isLetter _ (v_22) v_23 _ hr_23 (And.intro (fun q => absurd q c_24) (fun _ => (And.intro (fun _ => g) (fun q => absurd c_25 q))))))) ?_
      refine mm_re (l' := [(0, .ref 0), (1, .int v1), (3, .int w3), (4, .long w4)]) (c := [(0, .ref 0), (1, .int v1), (3, .int w3), (4, .long w4)]) ?_ rfl rfl
      exact mb_cut_j64 h_byteAt h_token h_isLetter h_appends h_isDigit h_sign s_22 (v1) (w3) (w4) _ hf hK
    · have hf := mo_neg hf c_25
      obtain ⟨r_26, hr_26, hf⟩ := mo_bind hf
      obtain ⟨v_26, s_26⟩ := r_26
      obtain ⟨v_27, hr_27, hf⟩ := mo_bind hf
      refine mm_adv 18 (cs' := P_X12_cut.drop 64) (l' := [(4, .long v_27), (0, .ref 0), (1, .int v1), (3, .int w3)]) (st' := []) (h' := ms_H s_26) (bc' := 0) (bs' := 0) (fun n g => (h_byteAt s ((v1 + w3)) v_22 s_22 _ hr_22 (h_isLetter _ (v_22) v_23 _ hr_23 (And.intro (fun q => absurd q c_24) (fun _ => (And.intro (fun q => absurd q c_25) (fun _ => (h_byteAt s_22 ((v1 + w3)) v_26 s_26 _ hr_26 (h_appends _ (w4) (v_26) v_27 _ hr_27 g))))))))) ?_
      refine mm_re (l' := [(0, .ref 0), (1, .int v1), (3, .int w3), (4, .long v_27)]) (c := [(0, .ref 0), (1, .int v1), (3, .int w3), (4, .long v_27)]) ?_ rfl rfl
      exact mb_cut_j64 h_byteAt h_token h_isLetter h_appends h_isDigit h_sign s_26 (v1) (w3) (v_27) _ hf hK
noncomputable def mf_cut_j94 (s : ms_S) (v1 : Int32) (v3 : Int32) (v4 : Int64) (v6 : Int32) : Option ((Int32 × ms_S) ⊕ ((ms_S) ⊕ (ms_S))) :=
((mf_token s (v6) (v1) ((0 : Int32)) (v4)).bind fun s_31 =>
(mf_cut_j164 (s_31) ((v1 + v3))))
set_option maxHeartbeats 4000000 in
theorem mb_cut_j94 {C : mm_C} {Q : mm_R} (h_byteAt : mk_byteAt C) (h_token : mk_token C) (h_isLetter : mk_isLetter C) (h_appends : mk_appends C) (h_isDigit : mk_isDigit C) (h_sign : mk_sign C) (s : ms_S) (v1 : Int32) (v3 : Int32) (v4 : Int64) (v6 : Int32) (r : (Int32 × ms_S) ⊕ ((ms_S) ⊕ (ms_S))) (hf : mf_cut_j94 s v1 v3 v4 v6 = some r) (hK : mo_sum (mo_c2 (fun y1 sy => mm_go C mm_Mk mm_Fk P_X12_cut Q (P_X12_cut.drop 5) [(0, .ref 0), (1, .int y1)] [] (ms_H sy) 0 0))  (mo_sum (fun sy => mm_go C mm_Mk mm_Fk P_X12_cut Q (P_X12_cut.drop 17) [(0, .ref 0)] [] (ms_H sy) 0 0) (fun sy => mm_go C mm_Mk mm_Fk P_X12_cut Q (P_X12_cut.drop 165) [] [] (ms_H sy) 0 0))  r) : mm_go C mm_Mk mm_Fk P_X12_cut Q (P_X12_cut.drop 94) [(0, .ref 0), (1, .int v1), (3, .int v3), (4, .long v4), (6, .int v6)] [] (ms_H s) 0 0 := by
  unfold mf_cut_j94 at hf
  obtain ⟨s_31, hr_31, hf⟩ := mo_bind hf
  refine mm_adv 11 (cs' := P_X12_cut.drop 164) (l' := [(1, .int (v1 + v3)), (0, .ref 0), (3, .int v3), (4, .long v4), (6, .int v6)]) (st' := []) (h' := ms_H s_31) (bc' := 0) (bs' := 0) (fun n g => (h_token s (v6) (v1) ((0 : Int32)) (v4) s_31 _ hr_31 g)) ?_
  refine mm_re (l' := [(0, .ref 0), (1, .int (v1 + v3))]) (c := [(0, .ref 0), (1, .int (v1 + v3))]) ?_ rfl rfl
  exact mb_cut_j164 h_byteAt h_token h_isLetter h_appends h_isDigit h_sign s_31 ((v1 + v3)) _ hf hK
noncomputable def mf_cut_j92 (s : ms_S) (v1 : Int32) (v3 : Int32) (v4 : Int64) (v6 : Int32) (v7 : Int32) : Option ((Int32 × Int32 × ms_S) ⊕ ((Int32 × ms_S))) :=
some (.inl (v6, (v7 + (1 : Int32)), s))
set_option maxHeartbeats 4000000 in
theorem mb_cut_j92 {C : mm_C} {Q : mm_R} (h_byteAt : mk_byteAt C) (h_token : mk_token C) (h_isLetter : mk_isLetter C) (h_appends : mk_appends C) (h_isDigit : mk_isDigit C) (h_sign : mk_sign C) (s : ms_S) (v1 : Int32) (v3 : Int32) (v4 : Int64) (v6 : Int32) (v7 : Int32) (r : (Int32 × Int32 × ms_S) ⊕ ((Int32 × ms_S))) (hf : mf_cut_j92 s v1 v3 v4 v6 v7 = some r) (hK : mo_sum (mo_c2 (fun y6 => (mo_c2 (fun y7 sy => mm_go C mm_Mk mm_Fk P_X12_cut Q (P_X12_cut.drop 78) [(0, .ref 0), (1, .int v1), (3, .int v3), (4, .long v4), (6, .int y6), (7, .int y7)] [] (ms_H sy) 0 0))))  (mo_c2 (fun y6 sy => mm_go C mm_Mk mm_Fk P_X12_cut Q (P_X12_cut.drop 94) [(0, .ref 0), (1, .int v1), (3, .int v3), (4, .long v4), (6, .int y6)] [] (ms_H sy) 0 0))  r) : mm_go C mm_Mk mm_Fk P_X12_cut Q (P_X12_cut.drop 92) [(0, .ref 0), (1, .int v1), (3, .int v3), (4, .long v4), (6, .int v6), (7, .int v7)] [] (ms_H s) 0 0 := by
  unfold mf_cut_j92 at hf
  obtain rfl := Option.some.inj hf
  refine mm_adv 2 (cs' := P_X12_cut.drop 78) (l' := [(7, .int (v7 + (1 : Int32))), (0, .ref 0), (1, .int v1), (3, .int v3), (4, .long v4), (6, .int v6)]) (st' := []) (h' := ms_H s) (bc' := 0) (bs' := 0) (fun n g => g) ?_
  exact mm_re (c := [(0, .ref 0), (1, .int v1), (3, .int v3), (4, .long v4), (6, .int v6), (7, .int (v7 + (1 : Int32)))]) hK rfl rfl
noncomputable def mf_cut_l78 (v1 : Int32) (v3 : Int32) (v4 : Int64) : (Int32 × Int32 × ms_S) → Option ((Int32 × Int32 × ms_S) ⊕ ((Int32 × ms_S))) := fun (w6, w7, s) =>
(if (21 : Int32) ≤ w7 then
some (.inr (w6, s))
else
((mo_al 21 (s.2.2 9) w7).bind fun x_33 =>
(if (lg_cmp x_33 v4) = (0 : Int32) then
(mf_cut_j92 (s) (v1) (v3) (v4) (((20 : Int32) + w7)) (w7))
else
(mf_cut_j92 (s) (v1) (v3) (v4) (w6) (w7)))))
set_option maxHeartbeats 4000000 in
theorem mb_cut_l78 {C : mm_C} {Q : mm_R} (h_byteAt : mk_byteAt C) (h_token : mk_token C) (h_isLetter : mk_isLetter C) (h_appends : mk_appends C) (h_isDigit : mk_isDigit C) (h_sign : mk_sign C) (v1 : Int32) (v3 : Int32) (v4 : Int64) (t : Int32 × Int32 × ms_S) (x : (Int32 × ms_S)) (hl : mo_loop (mf_cut_l78 v1 v3 v4) t = some x) (hK : (mo_c2 (fun y6 sy => mm_go C mm_Mk mm_Fk P_X12_cut Q (P_X12_cut.drop 94) [(0, .ref 0), (1, .int v1), (3, .int v3), (4, .long v4), (6, .int y6)] [] (ms_H sy) 0 0)) x) : (mo_c2 (fun y6 => (mo_c2 (fun y7 sy => mm_go C mm_Mk mm_Fk P_X12_cut Q (P_X12_cut.drop 78) [(0, .ref 0), (1, .int v1), (3, .int v3), (4, .long v4), (6, .int y6), (7, .int y7)] [] (ms_H sy) 0 0)))) t := by
  refine mo_loop_go (G := (mo_c2 (fun y6 => (mo_c2 (fun y7 sy => mm_go C mm_Mk mm_Fk P_X12_cut Q (P_X12_cut.drop 78) [(0, .ref 0), (1, .int v1), (3, .int v3), (4, .long v4), (6, .int y6), (7, .int y7)] [] (ms_H sy) 0 0)))) ) (K := (mo_c2 (fun y6 sy => mm_go C mm_Mk mm_Fk P_X12_cut Q (P_X12_cut.drop 94) [(0, .ref 0), (1, .int v1), (3, .int v3), (4, .long v4), (6, .int y6)] [] (ms_H sy) 0 0)) ) ?_ t x hl hK
  intro t r hf hK
  obtain ⟨w6, w7, s⟩ := t
  unfold mf_cut_l78 at hf
  by_cases c_32 : (21 : Int32) ≤ w7
  · have hf := mo_pos hf c_32
    obtain rfl := Option.some.inj hf
    refine mm_adv 3 (cs' := P_X12_cut.drop 94) (l' := [(0, .ref 0), (1, .int v1), (3, .int v3), (4, .long v4), (6, .int w6), (7, .int w7)]) (st' := []) (h' := ms_H s) (bc' := 0) (bs' := 0) (fun n g => (And.intro (fun _ => g) (fun q => absurd c_32 q))) ?_
    exact mm_re (c := [(0, .ref 0), (1, .int v1), (3, .int v3), (4, .long v4), (6, .int w6)]) hK rfl rfl
  · have hf := mo_neg hf c_32
    obtain ⟨x_33, hx_33, hf⟩ := mo_bind hf
    obtain ⟨hi_33, rfl⟩ := mo_al_inv hx_33
    by_cases c_34 : (lg_cmp ((s.2.2 9) (w7).toNatClampNeg) v4) = (0 : Int32)
    · have hf := mo_pos hf c_34
      refine mm_adv 14 (cs' := P_X12_cut.drop 92) (l' := [(6, .int ((20 : Int32) + w7)), (0, .ref 0), (1, .int v1), (3, .int v3), (4, .long v4), (7, .int w7)]) (st' := []) (h' := ms_H s) (bc' := 0) (bs' := 0) (fun n g => (And.intro (fun q => absurd q c_32) (fun _ => (And.intro hi_33 (And.intro (fun q => absurd c_34 q) (fun _ => g)))))) ?_
      refine mm_re (l' := [(0, .ref 0), (1, .int v1), (3, .int v3), (4, .long v4), (6, .int ((20 : Int32) + w7)), (7, .int w7)]) (c := [(0, .ref 0), (1, .int v1), (3, .int v3), (4, .long v4), (6, .int ((20 : Int32) + w7)), (7, .int w7)]) ?_ rfl rfl
      exact mb_cut_j92 h_byteAt h_token h_isLetter h_appends h_isDigit h_sign s (v1) (v3) (v4) (((20 : Int32) + w7)) (w7) _ hf hK
    · have hf := mo_neg hf c_34
      refine mm_adv 10 (cs' := P_X12_cut.drop 92) (l' := [(0, .ref 0), (1, .int v1), (3, .int v3), (4, .long v4), (6, .int w6), (7, .int w7)]) (st' := []) (h' := ms_H s) (bc' := 0) (bs' := 0) (fun n g => (And.intro (fun q => absurd q c_32) (fun _ => (And.intro hi_33 (And.intro (fun _ => g) (fun q => absurd c_34 q)))))) ?_
      refine mm_re (l' := [(0, .ref 0), (1, .int v1), (3, .int v3), (4, .long v4), (6, .int w6), (7, .int w7)]) (c := [(0, .ref 0), (1, .int v1), (3, .int v3), (4, .long v4), (6, .int w6), (7, .int w7)]) ?_ rfl rfl
      exact mb_cut_j92 h_byteAt h_token h_isLetter h_appends h_isDigit h_sign s (v1) (v3) (v4) (w6) (w7) _ hf hK
noncomputable def mf_cut_j72 (s : ms_S) (v1 : Int32) (v3 : Int32) (v4 : Int64) (k0 : Int32) : Option ((Int32 × ms_S) ⊕ ((ms_S) ⊕ (ms_S))) :=
(if (8 : Int32) < v3 then
(mf_cut_j94 (s) (v1) (v3) (v4) (k0))
else
((mo_loop (mf_cut_l78 (v1) (v3) (v4)) (k0, (0 : Int32), s)).bind fun (e6_35, s_35) =>
(mf_cut_j94 (s_35) (v1) (v3) (v4) (e6_35))))
set_option maxHeartbeats 4000000 in
theorem mb_cut_j72 {C : mm_C} {Q : mm_R} (h_byteAt : mk_byteAt C) (h_token : mk_token C) (h_isLetter : mk_isLetter C) (h_appends : mk_appends C) (h_isDigit : mk_isDigit C) (h_sign : mk_sign C) (s : ms_S) (v1 : Int32) (v3 : Int32) (v4 : Int64) (k0 : Int32) (r : (Int32 × ms_S) ⊕ ((ms_S) ⊕ (ms_S))) (hf : mf_cut_j72 s v1 v3 v4 k0 = some r) (hK : mo_sum (mo_c2 (fun y1 sy => mm_go C mm_Mk mm_Fk P_X12_cut Q (P_X12_cut.drop 5) [(0, .ref 0), (1, .int y1)] [] (ms_H sy) 0 0))  (mo_sum (fun sy => mm_go C mm_Mk mm_Fk P_X12_cut Q (P_X12_cut.drop 17) [(0, .ref 0)] [] (ms_H sy) 0 0) (fun sy => mm_go C mm_Mk mm_Fk P_X12_cut Q (P_X12_cut.drop 165) [] [] (ms_H sy) 0 0))  r) : mm_go C mm_Mk mm_Fk P_X12_cut Q (P_X12_cut.drop 72) [(0, .ref 0), (1, .int v1), (3, .int v3), (4, .long v4)] [.int k0] (ms_H s) 0 0 := by
  unfold mf_cut_j72 at hf
  by_cases c_30 : (8 : Int32) < v3
  · have hf := mo_pos hf c_30
    refine mm_adv 4 (cs' := P_X12_cut.drop 94) (l' := [(6, .int k0), (0, .ref 0), (1, .int v1), (3, .int v3), (4, .long v4)]) (st' := []) (h' := ms_H s) (bc' := 0) (bs' := 0) (fun n g => (And.intro (fun _ => g) (fun q => absurd c_30 q))) ?_
    refine mm_re (l' := [(0, .ref 0), (1, .int v1), (3, .int v3), (4, .long v4), (6, .int k0)]) (c := [(0, .ref 0), (1, .int v1), (3, .int v3), (4, .long v4), (6, .int k0)]) ?_ rfl rfl
    exact mb_cut_j94 h_byteAt h_token h_isLetter h_appends h_isDigit h_sign s (v1) (v3) (v4) (k0) _ hf hK
  · have hf := mo_neg hf c_30
    obtain ⟨x_35, hl_35, hf⟩ := mo_bind hf
    refine mm_adv 6 (cs' := P_X12_cut.drop 78) (l' := [(7, .int (0 : Int32)), (6, .int k0), (0, .ref 0), (1, .int v1), (3, .int v3), (4, .long v4)]) (st' := []) (h' := ms_H s) (bc' := 0) (bs' := 0) (fun n g => (And.intro (fun q => absurd q c_30) (fun _ => g))) ?_
    refine mm_re (l' := [(0, .ref 0), (1, .int v1), (3, .int v3), (4, .long v4), (6, .int k0), (7, .int (0 : Int32))]) (c := [(0, .ref 0), (1, .int v1), (3, .int v3), (4, .long v4), (6, .int k0), (7, .int (0 : Int32))]) ?_ rfl rfl
    refine mb_cut_l78 h_byteAt h_token h_isLetter h_appends h_isDigit h_sign (v1) (v3) (v4) (k0, (0 : Int32), s) x_35 hl_35 ?_
    obtain ⟨e6_35, s_35⟩ := x_35
    refine mm_re (l' := [(0, .ref 0), (1, .int v1), (3, .int v3), (4, .long v4), (6, .int e6_35)]) (c := [(0, .ref 0), (1, .int v1), (3, .int v3), (4, .long v4), (6, .int e6_35)]) ?_ rfl rfl
    exact mb_cut_j94 h_byteAt h_token h_isLetter h_appends h_isDigit h_sign s_35 (v1) (v3) (v4) (e6_35) _ hf hK
noncomputable def mf_cut_l5  : (Int32 × ms_S) → Option ((Int32 × ms_S) ⊕ ((ms_S) ⊕ (ms_S))) := fun (w1, s) =>
(if (400 : Int32) < (s.1 10) then
some (.inr (.inr (s)))
else
((mf_byteAt s (w1)).bind fun (v_2, s_2) =>
(if w1 < (s_2.1 4) then
(if v_2 = (9 : Int32) then
(mf_cut_j37 (s_2) (w1))
else
(if v_2 = (10 : Int32) then
(mf_cut_j37 (s_2) (w1))
else
(if v_2 = (13 : Int32) then
(mf_cut_j37 (s_2) (w1))
else
(if v_2 = (32 : Int32) then
(mf_cut_j37 (s_2) (w1))
else
((mf_isLetter (v_2)).bind fun v_8 =>
(if v_8 = (0 : Int32) then
((mf_isDigit (v_2)).bind fun v_10 =>
(if v_10 = (0 : Int32) then
((mf_byteAt s_2 ((w1 + (1 : Int32)))).bind fun (v_12, s_12) =>
((mf_sign s_12 (w1) (v_2) (v_12)).bind fun (v_13, s_13) =>
(mf_cut_j164 (s_13) ((w1 + v_13)))))
else
((mo_loop (mf_cut_l112 (w1)) ((0 : Int32), (0 : Int32), s_2)).bind fun (e3_19, e4_19, s_19) =>
(if e3_19 ≤ (4 : Int32) then
(mf_cut_j143 (s_19) (w1) (e3_19) (e4_19) ((2 : Int32)))
else
(mf_cut_j143 (s_19) (w1) (e3_19) (e4_19) ((3 : Int32)))))))
else
((mo_loop (mf_cut_l46 (w1)) ((0 : Int32), (0 : Int64), s_2)).bind fun (e3_28, e4_28, s_28) =>
(if e3_28 ≤ (8 : Int32) then
(mf_cut_j72 (s_28) (w1) (e3_28) (e4_28) ((1 : Int32)))
else
(mf_cut_j72 (s_28) (w1) (e3_28) (e4_28) ((3 : Int32)))))))))))
else
some (.inr (.inl (s_2))))))
set_option maxHeartbeats 4000000 in
theorem mb_cut_l5 {C : mm_C} {Q : mm_R} (h_byteAt : mk_byteAt C) (h_token : mk_token C) (h_isLetter : mk_isLetter C) (h_appends : mk_appends C) (h_isDigit : mk_isDigit C) (h_sign : mk_sign C)  (t : Int32 × ms_S) (x : (ms_S) ⊕ (ms_S)) (hl : mo_loop (mf_cut_l5 ) t = some x) (hK : (mo_sum (fun sy => mm_go C mm_Mk mm_Fk P_X12_cut Q (P_X12_cut.drop 17) [(0, .ref 0)] [] (ms_H sy) 0 0) (fun sy => mm_go C mm_Mk mm_Fk P_X12_cut Q (P_X12_cut.drop 165) [] [] (ms_H sy) 0 0)) x) : (mo_c2 (fun y1 sy => mm_go C mm_Mk mm_Fk P_X12_cut Q (P_X12_cut.drop 5) [(0, .ref 0), (1, .int y1)] [] (ms_H sy) 0 0)) t := by
  refine mo_loop_go (G := (mo_c2 (fun y1 sy => mm_go C mm_Mk mm_Fk P_X12_cut Q (P_X12_cut.drop 5) [(0, .ref 0), (1, .int y1)] [] (ms_H sy) 0 0)) ) (K := (mo_sum (fun sy => mm_go C mm_Mk mm_Fk P_X12_cut Q (P_X12_cut.drop 17) [(0, .ref 0)] [] (ms_H sy) 0 0) (fun sy => mm_go C mm_Mk mm_Fk P_X12_cut Q (P_X12_cut.drop 165) [] [] (ms_H sy) 0 0)) ) ?_ t x hl hK
  intro t r hf hK
  obtain ⟨w1, s⟩ := t
  unfold mf_cut_l5 at hf
  by_cases c_1 : (400 : Int32) < (s.1 10)
  · have hf := mo_pos hf c_1
    obtain rfl := Option.some.inj hf
    refine mm_adv 4 (cs' := P_X12_cut.drop 165) (l' := [(0, .ref 0), (1, .int w1)]) (st' := []) (h' := ms_H s) (bc' := 0) (bs' := 0) (fun n g => (And.intro (fun _ => g) (fun q => absurd c_1 q))) ?_
    exact mm_re (c := []) hK rfl rfl
  · have hf := mo_neg hf c_1
    obtain ⟨r_2, hr_2, hf⟩ := mo_bind hf
    obtain ⟨v_2, s_2⟩ := r_2
    by_cases c_3 : w1 < (s_2.1 4)
    · have hf := mo_pos hf c_3
      by_cases c_4 : v_2 = (9 : Int32)
      · have hf := mo_pos hf c_4
        refine mm_adv 15 (cs' := P_X12_cut.drop 37) (l' := [(2, .int v_2), (0, .ref 0), (1, .int w1)]) (st' := []) (h' := ms_H s_2) (bc' := 0) (bs' := 0) (fun n g => (And.intro (fun q => absurd q c_1) (fun _ => (h_byteAt s (w1) v_2 s_2 _ hr_2 (And.intro (fun _ => (And.intro (fun _ => g) (fun q => absurd c_4 q))) (fun q => absurd c_3 q)))))) ?_
        refine mm_re (l' := [(0, .ref 0), (1, .int w1)]) (c := [(0, .ref 0), (1, .int w1)]) ?_ rfl rfl
        exact mb_cut_j37 h_byteAt h_token h_isLetter h_appends h_isDigit h_sign s_2 (w1) _ hf hK
      · have hf := mo_neg hf c_4
        by_cases c_5 : v_2 = (10 : Int32)
        · have hf := mo_pos hf c_5
          refine mm_adv 18 (cs' := P_X12_cut.drop 37) (l' := [(2, .int v_2), (0, .ref 0), (1, .int w1)]) (st' := []) (h' := ms_H s_2) (bc' := 0) (bs' := 0) (fun n g => (And.intro (fun q => absurd q c_1) (fun _ => (h_byteAt s (w1) v_2 s_2 _ hr_2 (And.intro (fun _ => (And.intro (fun q => absurd q c_4) (fun _ => (And.intro (fun _ => g) (fun q => absurd c_5 q))))) (fun q => absurd c_3 q)))))) ?_
          refine mm_re (l' := [(0, .ref 0), (1, .int w1)]) (c := [(0, .ref 0), (1, .int w1)]) ?_ rfl rfl
          exact mb_cut_j37 h_byteAt h_token h_isLetter h_appends h_isDigit h_sign s_2 (w1) _ hf hK
        · have hf := mo_neg hf c_5
          by_cases c_6 : v_2 = (13 : Int32)
          · have hf := mo_pos hf c_6
            refine mm_adv 21 (cs' := P_X12_cut.drop 37) (l' := [(2, .int v_2), (0, .ref 0), (1, .int w1)]) (st' := []) (h' := ms_H s_2) (bc' := 0) (bs' := 0) (fun n g => (And.intro (fun q => absurd q c_1) (fun _ => (h_byteAt s (w1) v_2 s_2 _ hr_2 (And.intro (fun _ => (And.intro (fun q => absurd q c_4) (fun _ => (And.intro (fun q => absurd q c_5) (fun _ => (And.intro (fun _ => g) (fun q => absurd c_6 q))))))) (fun q => absurd c_3 q)))))) ?_
            refine mm_re (l' := [(0, .ref 0), (1, .int w1)]) (c := [(0, .ref 0), (1, .int w1)]) ?_ rfl rfl
            exact mb_cut_j37 h_byteAt h_token h_isLetter h_appends h_isDigit h_sign s_2 (w1) _ hf hK
          · have hf := mo_neg hf c_6
            by_cases c_7 : v_2 = (32 : Int32)
            · have hf := mo_pos hf c_7
              refine mm_adv 24 (cs' := P_X12_cut.drop 37) (l' := [(2, .int v_2), (0, .ref 0), (1, .int w1)]) (st' := []) (h' := ms_H s_2) (bc' := 0) (bs' := 0) (fun n g => (And.intro (fun q => absurd q c_1) (fun _ => (h_byteAt s (w1) v_2 s_2 _ hr_2 (And.intro (fun _ => (And.intro (fun q => absurd q c_4) (fun _ => (And.intro (fun q => absurd q c_5) (fun _ => (And.intro (fun q => absurd q c_6) (fun _ => (And.intro (fun q => absurd c_7 q) (fun _ => g))))))))) (fun q => absurd c_3 q)))))) ?_
              refine mm_re (l' := [(0, .ref 0), (1, .int w1)]) (c := [(0, .ref 0), (1, .int w1)]) ?_ rfl rfl
              exact mb_cut_j37 h_byteAt h_token h_isLetter h_appends h_isDigit h_sign s_2 (w1) _ hf hK
            · have hf := mo_neg hf c_7
              obtain ⟨v_8, hr_8, hf⟩ := mo_bind hf
              by_cases c_9 : v_8 = (0 : Int32)
              · have hf := mo_pos hf c_9
                obtain ⟨v_10, hr_10, hf⟩ := mo_bind hf
                by_cases c_11 : v_10 = (0 : Int32)
                · have hf := mo_pos hf c_11
                  obtain ⟨r_12, hr_12, hf⟩ := mo_bind hf
                  obtain ⟨v_12, s_12⟩ := r_12
                  obtain ⟨r_13, hr_13, hf⟩ := mo_bind hf
                  obtain ⟨v_13, s_13⟩ := r_13
                  refine mm_adv 42 (cs' := P_X12_cut.drop 164) (l' := [(1, .int (w1 + v_13)), (2, .int v_2), (0, .ref 0)]) (st' := []) (h' := ms_H s_13) (bc' := 0) (bs' := 0) (fun n g => (And.intro (fun q => absurd q c_1) (fun _ => (h_byteAt s (w1) v_2 s_2 _ hr_2 (And.intro (fun _ => (And.intro (fun q => absurd q c_4) (fun _ => (And.intro (fun q => absurd q c_5) (fun _ => (And.intro (fun q => absurd q c_6) (fun _ => (And.intro (fun _ => (h_isLetter _ (v_2) v_8 _ hr_8 (And.intro (fun _ => (h_isDigit _ (v_2) v_10 _ hr_10 (And.intro (fun _ => (h_byteAt s_2 ((w1 + (1 : Int32))) v_12 s_12 _ hr_12 (h_sign s_12 (w1) (v_2) (v_12) v_13 s_13 _ hr_13 g))) (fun q => absurd c_11 q)))) (fun q => absurd c_9 q)))) (fun q => absurd c_7 q))))))))) (fun q => absurd c_3 q)))))) ?_
                  refine mm_re (l' := [(0, .ref 0), (1, .int (w1 + v_13))]) (c := [(0, .ref 0), (1, .int (w1 + v_13))]) ?_ rfl rfl
                  exact mb_cut_j164 h_byteAt h_token h_isLetter h_appends h_isDigit h_sign s_13 ((w1 + v_13)) _ hf hK
                · have hf := mo_neg hf c_11
                  obtain ⟨x_19, hl_19, hf⟩ := mo_bind hf
                  refine mm_adv 34 (cs' := P_X12_cut.drop 112) (l' := [(4, .int (0 : Int32)), (3, .int (0 : Int32)), (2, .int v_2), (0, .ref 0), (1, .int w1)]) (st' := []) (h' := ms_H s_2) (bc' := 0) (bs' := 0) (fun n g => (And.intro (fun q => absurd q c_1) (fun _ => (h_byteAt s (w1) v_2 s_2 _ hr_2 (And.intro (fun _ => (And.intro (fun q => absurd q c_4) (fun _ => (And.intro (fun q => absurd q c_5) (fun _ => (And.intro (fun q => absurd q c_6) (fun _ => (And.intro (fun _ => (h_isLetter _ (v_2) v_8 _ hr_8 (And.intro (fun _ => (h_isDigit _ (v_2) v_10 _ hr_10 (And.intro (fun q => absurd q c_11) (fun _ => g)))) (fun q => absurd c_9 q)))) (fun q => absurd c_7 q))))))))) (fun q => absurd c_3 q)))))) ?_
                  refine mm_re (l' := [(0, .ref 0), (1, .int w1), (3, .int (0 : Int32)), (4, .int (0 : Int32))]) (c := [(0, .ref 0), (1, .int w1), (3, .int (0 : Int32)), (4, .int (0 : Int32))]) ?_ rfl rfl
                  refine mb_cut_l112 h_byteAt h_token h_isLetter h_appends h_isDigit h_sign (w1) ((0 : Int32), (0 : Int32), s_2) x_19 hl_19 ?_
                  obtain ⟨e3_19, e4_19, s_19⟩ := x_19
                  by_cases c_20 : e3_19 ≤ (4 : Int32)
                  · have hf := mo_pos hf c_20
                    refine mm_adv 5 (cs' := P_X12_cut.drop 143) (l' := [(0, .ref 0), (1, .int w1), (3, .int e3_19), (4, .int e4_19)]) (st' := [.int (2 : Int32), .ref 0]) (h' := ms_H s_19) (bc' := 0) (bs' := 0) (fun n g => (And.intro (fun _ => g) (fun q => absurd c_20 q))) ?_
                    refine mm_re (l' := [(0, .ref 0), (1, .int w1), (3, .int e3_19), (4, .int e4_19)]) (c := [(0, .ref 0), (1, .int w1), (3, .int e3_19), (4, .int e4_19)]) ?_ rfl rfl
                    exact mb_cut_j143 h_byteAt h_token h_isLetter h_appends h_isDigit h_sign s_19 (w1) (e3_19) (e4_19) ((2 : Int32)) _ hf hK
                  · have hf := mo_neg hf c_20
                    refine mm_adv 6 (cs' := P_X12_cut.drop 143) (l' := [(0, .ref 0), (1, .int w1), (3, .int e3_19), (4, .int e4_19)]) (st' := [.int (3 : Int32), .ref 0]) (h' := ms_H s_19) (bc' := 0) (bs' := 0) (fun n g => (And.intro (fun q => absurd q c_20) (fun _ => g))) ?_
                    refine mm_re (l' := [(0, .ref 0), (1, .int w1), (3, .int e3_19), (4, .int e4_19)]) (c := [(0, .ref 0), (1, .int w1), (3, .int e3_19), (4, .int e4_19)]) ?_ rfl rfl
                    exact mb_cut_j143 h_byteAt h_token h_isLetter h_appends h_isDigit h_sign s_19 (w1) (e3_19) (e4_19) ((3 : Int32)) _ hf hK
              · have hf := mo_neg hf c_9
                obtain ⟨x_28, hl_28, hf⟩ := mo_bind hf
                refine mm_adv 31 (cs' := P_X12_cut.drop 46) (l' := [(4, .long (0 : Int64)), (3, .int (0 : Int32)), (2, .int v_2), (0, .ref 0), (1, .int w1)]) (st' := []) (h' := ms_H s_2) (bc' := 0) (bs' := 0) (fun n g => (And.intro (fun q => absurd q c_1) (fun _ => (h_byteAt s (w1) v_2 s_2 _ hr_2 (And.intro (fun _ => (And.intro (fun q => absurd q c_4) (fun _ => (And.intro (fun q => absurd q c_5) (fun _ => (And.intro (fun q => absurd q c_6) (fun _ => (And.intro (fun _ => (h_isLetter _ (v_2) v_8 _ hr_8 (And.intro (fun q => absurd q c_9) (fun _ => g)))) (fun q => absurd c_7 q))))))))) (fun q => absurd c_3 q)))))) ?_
                refine mm_re (l' := [(0, .ref 0), (1, .int w1), (3, .int (0 : Int32)), (4, .long (0 : Int64))]) (c := [(0, .ref 0), (1, .int w1), (3, .int (0 : Int32)), (4, .long (0 : Int64))]) ?_ rfl rfl
                refine mb_cut_l46 h_byteAt h_token h_isLetter h_appends h_isDigit h_sign (w1) ((0 : Int32), (0 : Int64), s_2) x_28 hl_28 ?_
                obtain ⟨e3_28, e4_28, s_28⟩ := x_28
                by_cases c_29 : e3_28 ≤ (8 : Int32)
                · have hf := mo_pos hf c_29
                  refine mm_adv 4 (cs' := P_X12_cut.drop 72) (l' := [(0, .ref 0), (1, .int w1), (3, .int e3_28), (4, .long e4_28)]) (st' := [.int (1 : Int32)]) (h' := ms_H s_28) (bc' := 0) (bs' := 0) (fun n g => (And.intro (fun _ => g) (fun q => absurd c_29 q))) ?_
                  refine mm_re (l' := [(0, .ref 0), (1, .int w1), (3, .int e3_28), (4, .long e4_28)]) (c := [(0, .ref 0), (1, .int w1), (3, .int e3_28), (4, .long e4_28)]) ?_ rfl rfl
                  exact mb_cut_j72 h_byteAt h_token h_isLetter h_appends h_isDigit h_sign s_28 (w1) (e3_28) (e4_28) ((1 : Int32)) _ hf hK
                · have hf := mo_neg hf c_29
                  refine mm_adv 5 (cs' := P_X12_cut.drop 72) (l' := [(0, .ref 0), (1, .int w1), (3, .int e3_28), (4, .long e4_28)]) (st' := [.int (3 : Int32)]) (h' := ms_H s_28) (bc' := 0) (bs' := 0) (fun n g => (And.intro (fun q => absurd q c_29) (fun _ => g))) ?_
                  refine mm_re (l' := [(0, .ref 0), (1, .int w1), (3, .int e3_28), (4, .long e4_28)]) (c := [(0, .ref 0), (1, .int w1), (3, .int e3_28), (4, .long e4_28)]) ?_ rfl rfl
                  exact mb_cut_j72 h_byteAt h_token h_isLetter h_appends h_isDigit h_sign s_28 (w1) (e3_28) (e4_28) ((3 : Int32)) _ hf hK
    · have hf := mo_neg hf c_3
      obtain rfl := Option.some.inj hf
      refine mm_adv 12 (cs' := P_X12_cut.drop 17) (l' := [(2, .int v_2), (0, .ref 0), (1, .int w1)]) (st' := []) (h' := ms_H s_2) (bc' := 0) (bs' := 0) (fun n g => (And.intro (fun q => absurd q c_1) (fun _ => (h_byteAt s (w1) v_2 s_2 _ hr_2 (And.intro (fun q => absurd q c_3) (fun _ => g)))))) ?_
      exact mm_re (c := [(0, .ref 0)]) hK rfl rfl
noncomputable def mf_cut (s : ms_S)  : Option (ms_S) :=
((mo_loop (mf_cut_l5 ) ((0 : Int32), (ms_sI s 10 ((0 : Int32))))).bind fun x_36 =>
match x_36 with
| (.inl s_36) => ((mf_token s_36 ((0 : Int32)) ((s_36.1 4)) ((0 : Int32)) ((0 : Int64))).bind fun s_37 =>
some s_37)
| (.inr s_36) => some s_36
)
set_option maxHeartbeats 4000000 in
theorem mb_cut {C : mm_C} {Q : mm_R} (h_byteAt : mk_byteAt C) (h_token : mk_token C) (h_isLetter : mk_isLetter C) (h_appends : mk_appends C) (h_isDigit : mk_isDigit C) (h_sign : mk_sign C) (s : ms_S)  (s2 : ms_S) (hf : mf_cut s = some s2) (hK : Q (none) (ms_H s2)) : mm_go C mm_Mk mm_Fk P_X12_cut Q P_X12_cut [(0, .ref 0)] [] (ms_H s) 0 0 := by
  unfold mf_cut at hf
  obtain ⟨x_36, hl_36, hf⟩ := mo_bind hf
  refine mm_adv 5 (cs' := P_X12_cut.drop 5) (l' := [(1, .int (0 : Int32)), (0, .ref 0)]) (st' := []) (h' := ms_H (ms_sI s 10 ((0 : Int32)))) (bc' := 0) (bs' := 0) (fun n g => (And.intro trivial g)) ?_
  refine mm_re (l' := [(0, .ref 0), (1, .int (0 : Int32))]) (c := [(0, .ref 0), (1, .int (0 : Int32))]) ?_ rfl rfl
  refine mb_cut_l5 h_byteAt h_token h_isLetter h_appends h_isDigit h_sign  ((0 : Int32), (ms_sI s 10 ((0 : Int32)))) x_36 hl_36 ?_
  cases x_36 with
  | inl y_36 =>
    obtain ⟨s_36, rfl⟩ : ∃ q, q = y_36 := ⟨_, rfl⟩
    obtain ⟨s_37, hr_37, hf⟩ := mo_bind hf
    obtain rfl := Option.some.inj hf
    exact ⟨8, (h_token s_36 ((0 : Int32)) ((s_36.1 4)) ((0 : Int32)) ((0 : Int64)) s_37 _ hr_37 hK)⟩
  | inr z_36_0 =>
    obtain ⟨s_36, rfl⟩ : ∃ q, q = z_36_0 := ⟨_, rfl⟩
    obtain rfl := Option.some.inj hf
    exact ⟨1, hK⟩
def mk_cut (C : mm_C) : Prop := ∀ (s : ms_S)  (s2 : ms_S) (Q : mm_R), mf_cut s = some s2 → Q (none) (ms_H s2) → C 10 [.ref 0] (ms_H s) Q
set_option maxRecDepth 100000 in
theorem mt_cut (B : mm_C) (d : Nat) : mk_cut (mm_ct B mm_Mk mm_Fk mm_PC (d + 3)) := fun s s2 Q hf hK => Or.inr (mb_cut (mt_byteAt B (d + 1)) (mt_token B (d + 1)) (mt_isLetter B (d + 1)) (mt_appends B (d + 1)) (mt_isDigit B (d + 1)) (mt_sign B (d + 0)) s s2 hf hK)
