/-! the reference, method by method, 5 -/
-- X12_isStanding
noncomputable def mf_isStanding (s : ms_S) (a0 : Int32) : Option (Int32 × ms_S) :=
(if (a0 - a0 / (7 : Int32) * (7 : Int32)) = (6 : Int32) then
some ((1 : Int32), s)
else
((mo_ag 2 (s.2.1 25) (s.1 18)).bind fun x_2 =>
(if x_2 ≤ (a0 - a0 / (7 : Int32) * (7 : Int32)) then
some ((0 : Int32), s)
else
some ((1 : Int32), s))))
set_option maxHeartbeats 4000000 in
theorem mb_isStanding {C : mm_C} {Q : mm_R}  (s : ms_S) (a0 : Int32) (v : Int32) (s2 : ms_S) (hf : mf_isStanding s a0 = some (v, s2)) (hK : Q (some (.int v)) (ms_H s2)) : mm_go C mm_Mk mm_Fk P_X12_isStanding Q P_X12_isStanding [(0, .ref 0), (1, .int a0)] [] (ms_H s) 0 0 := by
  unfold mf_isStanding at hf
  by_cases c_1 : (a0 - a0 / (7 : Int32) * (7 : Int32)) = (6 : Int32)
  · have hf := mo_pos hf c_1
    obtain ⟨rfl, rfl⟩ := mo_pair hf
    exact ⟨8, (And.intro (by decide) (And.intro (fun _ => (And.intro rfl hK)) (fun q => absurd c_1 q)))⟩
  · have hf := mo_neg hf c_1
    obtain ⟨x_2, hx_2, hf⟩ := mo_bind hf
    obtain ⟨hi_2, rfl⟩ := mo_ag_inv hx_2
    by_cases c_3 : ((s.2.1 25) ((s.1 18)).toNatClampNeg) ≤ (a0 - a0 / (7 : Int32) * (7 : Int32))
    · have hf := mo_pos hf c_3
      obtain ⟨rfl, rfl⟩ := mo_pair hf
      exact ⟨16, (And.intro (by decide) (And.intro (fun q => absurd q c_1) (fun _ => (And.intro (by decide) (And.intro hi_2 (And.intro (fun _ => (And.intro rfl hK)) (fun q => absurd c_3 q)))))))⟩
    · have hf := mo_neg hf c_3
      obtain ⟨rfl, rfl⟩ := mo_pair hf
      exact ⟨17, (And.intro (by decide) (And.intro (fun q => absurd q c_1) (fun _ => (And.intro (by decide) (And.intro hi_2 (And.intro (fun q => absurd q c_3) (fun _ => (And.intro rfl hK))))))))⟩
def mk_isStanding (C : mm_C) : Prop := ∀ (s : ms_S) (a0 : Int32) (v : Int32) (s2 : ms_S) (Q : mm_R), mf_isStanding s a0 = some (v, s2) → Q (some (.int v)) (ms_H s2) → C 66 [.ref 0, .int a0] (ms_H s) Q
set_option maxRecDepth 100000 in
theorem mt_isStanding (B : mm_C) (d : Nat) : mk_isStanding (mm_ct B mm_Mk mm_Fk mm_PC (d + 1)) := fun s a0 v s2 Q hf hK => Or.inr (mb_isStanding  s a0 v s2 hf hK)
-- X12_wonAt
noncomputable def mf_wonAt_j58 (s : ms_S) (v1 : Int32) (v2 : Int32) (v3 : Int32) (v4 : Int32) (v5 : Int32) (v6 : Int32) : Option ((Int32 × Int32 × Int32 × ms_S) ⊕ ((ms_S) ⊕ (Int32 × Int32 × ms_S))) :=
some (.inl (v4, v5, (v6 + (1 : Int32)), s))
set_option maxHeartbeats 4000000 in
theorem mb_wonAt_j58 {C : mm_C} {Q : mm_R}  (s : ms_S) (v1 : Int32) (v2 : Int32) (v3 : Int32) (v4 : Int32) (v5 : Int32) (v6 : Int32) (r : (Int32 × Int32 × Int32 × ms_S) ⊕ ((ms_S) ⊕ (Int32 × Int32 × ms_S))) (hf : mf_wonAt_j58 s v1 v2 v3 v4 v5 v6 = some r) (hK : mo_sum (mo_c2 (fun y4 => (mo_c2 (fun y5 => (mo_c2 (fun y6 sy => mm_go C mm_Mk mm_Fk P_X12_wonAt Q (P_X12_wonAt.drop 14) [(0, .ref 0), (1, .int v1), (2, .int v2), (3, .int v3), (4, .int y4), (5, .int y5), (6, .int y6)] [] (ms_H sy) 0 0))))))  (mo_sum (fun sy => mm_go C mm_Mk mm_Fk P_X12_wonAt Q (P_X12_wonAt.drop 53) [(3, .int v3)] [] (ms_H sy) 0 0) (mo_c2 (fun y4 => (mo_c2 (fun y5 sy => mm_go C mm_Mk mm_Fk P_X12_wonAt Q (P_X12_wonAt.drop 60) [(3, .int v3), (4, .int y4), (5, .int y5)] [] (ms_H sy) 0 0)))))  r) : mm_go C mm_Mk mm_Fk P_X12_wonAt Q (P_X12_wonAt.drop 58) [(0, .ref 0), (1, .int v1), (2, .int v2), (3, .int v3), (4, .int v4), (5, .int v5), (6, .int v6)] [] (ms_H s) 0 0 := by
  unfold mf_wonAt_j58 at hf
  obtain rfl := Option.some.inj hf
  refine mm_adv 2 (cs' := P_X12_wonAt.drop 14) (l' := [(6, .int (v6 + (1 : Int32))), (0, .ref 0), (1, .int v1), (2, .int v2), (3, .int v3), (4, .int v4), (5, .int v5)]) (st' := []) (h' := ms_H s) (bc' := 0) (bs' := 0) (fun n g => g) ?_
  exact mm_re (c := [(0, .ref 0), (1, .int v1), (2, .int v2), (3, .int v3), (4, .int v4), (5, .int v5), (6, .int (v6 + (1 : Int32)))]) hK rfl rfl
noncomputable def mf_wonAt_j55 (s : ms_S) (v1 : Int32) (v2 : Int32) (v3 : Int32) (v4 : Int32) (v5 : Int32) (v6 : Int32) (v8 : Int32) : Option ((Int32 × Int32 × Int32 × ms_S) ⊕ ((ms_S) ⊕ (Int32 × Int32 × ms_S))) :=
(if v8 = (0 : Int32) then
(mf_wonAt_j58 (s) (v1) (v2) (v3) (v4) (v5) (v6))
else
(mf_wonAt_j58 (s) (v1) (v2) (v3) (v4) ((v5 + (1 : Int32))) (v6)))
set_option maxHeartbeats 4000000 in
theorem mb_wonAt_j55 {C : mm_C} {Q : mm_R}  (s : ms_S) (v1 : Int32) (v2 : Int32) (v3 : Int32) (v4 : Int32) (v5 : Int32) (v6 : Int32) (v8 : Int32) (r : (Int32 × Int32 × Int32 × ms_S) ⊕ ((ms_S) ⊕ (Int32 × Int32 × ms_S))) (hf : mf_wonAt_j55 s v1 v2 v3 v4 v5 v6 v8 = some r) (hK : mo_sum (mo_c2 (fun y4 => (mo_c2 (fun y5 => (mo_c2 (fun y6 sy => mm_go C mm_Mk mm_Fk P_X12_wonAt Q (P_X12_wonAt.drop 14) [(0, .ref 0), (1, .int v1), (2, .int v2), (3, .int v3), (4, .int y4), (5, .int y5), (6, .int y6)] [] (ms_H sy) 0 0))))))  (mo_sum (fun sy => mm_go C mm_Mk mm_Fk P_X12_wonAt Q (P_X12_wonAt.drop 53) [(3, .int v3)] [] (ms_H sy) 0 0) (mo_c2 (fun y4 => (mo_c2 (fun y5 sy => mm_go C mm_Mk mm_Fk P_X12_wonAt Q (P_X12_wonAt.drop 60) [(3, .int v3), (4, .int y4), (5, .int y5)] [] (ms_H sy) 0 0)))))  r) : mm_go C mm_Mk mm_Fk P_X12_wonAt Q (P_X12_wonAt.drop 55) [(0, .ref 0), (1, .int v1), (2, .int v2), (3, .int v3), (4, .int v4), (5, .int v5), (6, .int v6), (8, .int v8)] [] (ms_H s) 0 0 := by
  unfold mf_wonAt_j55 at hf
  by_cases c_7 : v8 = (0 : Int32)
  · have hf := mo_pos hf c_7
    refine mm_adv 2 (cs' := P_X12_wonAt.drop 58) (l' := [(0, .ref 0), (1, .int v1), (2, .int v2), (3, .int v3), (4, .int v4), (5, .int v5), (6, .int v6), (8, .int v8)]) (st' := []) (h' := ms_H s) (bc' := 0) (bs' := 0) (fun n g => (And.intro (fun _ => g) (fun q => absurd c_7 q))) ?_
    refine mm_re (l' := [(0, .ref 0), (1, .int v1), (2, .int v2), (3, .int v3), (4, .int v4), (5, .int v5), (6, .int v6)]) (c := [(0, .ref 0), (1, .int v1), (2, .int v2), (3, .int v3), (4, .int v4), (5, .int v5), (6, .int v6)]) ?_ rfl rfl
    exact mb_wonAt_j58  s (v1) (v2) (v3) (v4) (v5) (v6) _ hf hK
  · have hf := mo_neg hf c_7
    refine mm_adv 3 (cs' := P_X12_wonAt.drop 58) (l' := [(5, .int (v5 + (1 : Int32))), (0, .ref 0), (1, .int v1), (2, .int v2), (3, .int v3), (4, .int v4), (6, .int v6), (8, .int v8)]) (st' := []) (h' := ms_H s) (bc' := 0) (bs' := 0) (fun n g => (And.intro (fun q => absurd q c_7) (fun _ => g))) ?_
    refine mm_re (l' := [(0, .ref 0), (1, .int v1), (2, .int v2), (3, .int v3), (4, .int v4), (5, .int (v5 + (1 : Int32))), (6, .int v6)]) (c := [(0, .ref 0), (1, .int v1), (2, .int v2), (3, .int v3), (4, .int v4), (5, .int (v5 + (1 : Int32))), (6, .int v6)]) ?_ rfl rfl
    exact mb_wonAt_j58  s (v1) (v2) (v3) (v4) ((v5 + (1 : Int32))) (v6) _ hf hK
noncomputable def mf_wonAt_j44 (s : ms_S) (v1 : Int32) (v2 : Int32) (v3 : Int32) (v4 : Int32) (v5 : Int32) (v6 : Int32) (v7 : Int32) (k0 : Int32) : Option ((Int32 × Int32 × Int32 × ms_S) ⊕ ((ms_S) ⊕ (Int32 × Int32 × ms_S))) :=
(if k0 = (0 : Int32) then
(mf_wonAt_j55 (s) (v1) (v2) (v3) (v4) (v5) (v6) (k0))
else
((mo_ag 294 (s.2.1 52) v7).bind fun x_8 =>
(if x_8 = v3 then
some (.inr (.inl (s)))
else
(mf_wonAt_j55 (s) (v1) (v2) (v3) (v4) (v5) (v6) (k0)))))
set_option maxHeartbeats 4000000 in
theorem mb_wonAt_j44 {C : mm_C} {Q : mm_R}  (s : ms_S) (v1 : Int32) (v2 : Int32) (v3 : Int32) (v4 : Int32) (v5 : Int32) (v6 : Int32) (v7 : Int32) (k0 : Int32) (r : (Int32 × Int32 × Int32 × ms_S) ⊕ ((ms_S) ⊕ (Int32 × Int32 × ms_S))) (hf : mf_wonAt_j44 s v1 v2 v3 v4 v5 v6 v7 k0 = some r) (hK : mo_sum (mo_c2 (fun y4 => (mo_c2 (fun y5 => (mo_c2 (fun y6 sy => mm_go C mm_Mk mm_Fk P_X12_wonAt Q (P_X12_wonAt.drop 14) [(0, .ref 0), (1, .int v1), (2, .int v2), (3, .int v3), (4, .int y4), (5, .int y5), (6, .int y6)] [] (ms_H sy) 0 0))))))  (mo_sum (fun sy => mm_go C mm_Mk mm_Fk P_X12_wonAt Q (P_X12_wonAt.drop 53) [(3, .int v3)] [] (ms_H sy) 0 0) (mo_c2 (fun y4 => (mo_c2 (fun y5 sy => mm_go C mm_Mk mm_Fk P_X12_wonAt Q (P_X12_wonAt.drop 60) [(3, .int v3), (4, .int y4), (5, .int y5)] [] (ms_H sy) 0 0)))))  r) : mm_go C mm_Mk mm_Fk P_X12_wonAt Q (P_X12_wonAt.drop 44) [(0, .ref 0), (1, .int v1), (2, .int v2), (3, .int v3), (4, .int v4), (5, .int v5), (6, .int v6), (7, .int v7)] [.int k0] (ms_H s) 0 0 := by
  unfold mf_wonAt_j44 at hf
  by_cases c_6 : k0 = (0 : Int32)
  · have hf := mo_pos hf c_6
    refine mm_adv 3 (cs' := P_X12_wonAt.drop 55) (l' := [(8, .int k0), (0, .ref 0), (1, .int v1), (2, .int v2), (3, .int v3), (4, .int v4), (5, .int v5), (6, .int v6), (7, .int v7)]) (st' := []) (h' := ms_H s) (bc' := 0) (bs' := 0) (fun n g => (And.intro (fun _ => g) (fun q => absurd c_6 q))) ?_
    refine mm_re (l' := [(0, .ref 0), (1, .int v1), (2, .int v2), (3, .int v3), (4, .int v4), (5, .int v5), (6, .int v6), (8, .int k0)]) (c := [(0, .ref 0), (1, .int v1), (2, .int v2), (3, .int v3), (4, .int v4), (5, .int v5), (6, .int v6), (8, .int k0)]) ?_ rfl rfl
    exact mb_wonAt_j55  s (v1) (v2) (v3) (v4) (v5) (v6) (k0) _ hf hK
  · have hf := mo_neg hf c_6
    obtain ⟨x_8, hx_8, hf⟩ := mo_bind hf
    obtain ⟨hi_8, rfl⟩ := mo_ag_inv hx_8
    by_cases c_9 : ((s.2.1 52) (v7).toNatClampNeg) = v3
    · have hf := mo_pos hf c_9
      obtain rfl := Option.some.inj hf
      refine mm_adv 9 (cs' := P_X12_wonAt.drop 53) (l' := [(8, .int k0), (0, .ref 0), (1, .int v1), (2, .int v2), (3, .int v3), (4, .int v4), (5, .int v5), (6, .int v6), (7, .int v7)]) (st' := []) (h' := ms_H s) (bc' := 0) (bs' := 0) (fun n g => (And.intro (fun q => absurd q c_6) (fun _ => (And.intro hi_8 (And.intro (fun q => absurd c_9 q) (fun _ => g)))))) ?_
      exact mm_re (c := [(3, .int v3)]) hK rfl rfl
    · have hf := mo_neg hf c_9
      refine mm_adv 9 (cs' := P_X12_wonAt.drop 55) (l' := [(8, .int k0), (0, .ref 0), (1, .int v1), (2, .int v2), (3, .int v3), (4, .int v4), (5, .int v5), (6, .int v6), (7, .int v7)]) (st' := []) (h' := ms_H s) (bc' := 0) (bs' := 0) (fun n g => (And.intro (fun q => absurd q c_6) (fun _ => (And.intro hi_8 (And.intro (fun _ => g) (fun q => absurd c_9 q)))))) ?_
      refine mm_re (l' := [(0, .ref 0), (1, .int v1), (2, .int v2), (3, .int v3), (4, .int v4), (5, .int v5), (6, .int v6), (8, .int k0)]) (c := [(0, .ref 0), (1, .int v1), (2, .int v2), (3, .int v3), (4, .int v4), (5, .int v5), (6, .int v6), (8, .int k0)]) ?_ rfl rfl
      exact mb_wonAt_j55  s (v1) (v2) (v3) (v4) (v5) (v6) (k0) _ hf hK
noncomputable def mf_wonAt_j43 (s : ms_S) (v1 : Int32) (v2 : Int32) (v3 : Int32) (v4 : Int32) (v5 : Int32) (v6 : Int32) (v7 : Int32) : Option ((Int32 × Int32 × Int32 × ms_S) ⊕ ((ms_S) ⊕ (Int32 × Int32 × ms_S))) :=
(mf_wonAt_j44 (s) (v1) (v2) (v3) (v4) (v5) (v6) (v7) ((0 : Int32)))
set_option maxHeartbeats 4000000 in
theorem mb_wonAt_j43 {C : mm_C} {Q : mm_R}  (s : ms_S) (v1 : Int32) (v2 : Int32) (v3 : Int32) (v4 : Int32) (v5 : Int32) (v6 : Int32) (v7 : Int32) (r : (Int32 × Int32 × Int32 × ms_S) ⊕ ((ms_S) ⊕ (Int32 × Int32 × ms_S))) (hf : mf_wonAt_j43 s v1 v2 v3 v4 v5 v6 v7 = some r) (hK : mo_sum (mo_c2 (fun y4 => (mo_c2 (fun y5 => (mo_c2 (fun y6 sy => mm_go C mm_Mk mm_Fk P_X12_wonAt Q (P_X12_wonAt.drop 14) [(0, .ref 0), (1, .int v1), (2, .int v2), (3, .int v3), (4, .int y4), (5, .int y5), (6, .int y6)] [] (ms_H sy) 0 0))))))  (mo_sum (fun sy => mm_go C mm_Mk mm_Fk P_X12_wonAt Q (P_X12_wonAt.drop 53) [(3, .int v3)] [] (ms_H sy) 0 0) (mo_c2 (fun y4 => (mo_c2 (fun y5 sy => mm_go C mm_Mk mm_Fk P_X12_wonAt Q (P_X12_wonAt.drop 60) [(3, .int v3), (4, .int y4), (5, .int y5)] [] (ms_H sy) 0 0)))))  r) : mm_go C mm_Mk mm_Fk P_X12_wonAt Q (P_X12_wonAt.drop 43) [(0, .ref 0), (1, .int v1), (2, .int v2), (3, .int v3), (4, .int v4), (5, .int v5), (6, .int v6), (7, .int v7)] [] (ms_H s) 0 0 := by
  unfold mf_wonAt_j43 at hf
  refine mm_adv 1 (cs' := P_X12_wonAt.drop 44) (l' := [(0, .ref 0), (1, .int v1), (2, .int v2), (3, .int v3), (4, .int v4), (5, .int v5), (6, .int v6), (7, .int v7)]) (st' := [.int (0 : Int32)]) (h' := ms_H s) (bc' := 0) (bs' := 0) (fun n g => g) ?_
  refine mm_re (l' := [(0, .ref 0), (1, .int v1), (2, .int v2), (3, .int v3), (4, .int v4), (5, .int v5), (6, .int v6), (7, .int v7)]) (c := [(0, .ref 0), (1, .int v1), (2, .int v2), (3, .int v3), (4, .int v4), (5, .int v5), (6, .int v6), (7, .int v7)]) ?_ rfl rfl
  exact mb_wonAt_j44  s (v1) (v2) (v3) (v4) (v5) (v6) (v7) ((0 : Int32)) _ hf hK
noncomputable def mf_wonAt_l14 (v1 : Int32) (v2 : Int32) (v3 : Int32) : (Int32 × Int32 × Int32 × ms_S) → Option ((Int32 × Int32 × Int32 × ms_S) ⊕ ((ms_S) ⊕ (Int32 × Int32 × ms_S))) := fun (w4, w5, w6, s) =>
(if (7 : Int32) ≤ w6 then
some (.inr (.inr (w4, w5, s)))
else
((mo_ag 2058 (s.2.1 51) (((7 : Int32) * v1) + w6)).bind fun x_2 =>
(if (0 : Int32) ≤ x_2 then
((mo_ag 294 (s.2.1 52) x_2).bind fun x_4 =>
(if x_4 ≤ (0 : Int32) then
(mf_wonAt_j43 (s) (v1) (v2) (v3) ((w4 + (1 : Int32))) (w5) (w6) (x_2))
else
((mo_ag 294 (s.2.1 53) x_2).bind fun x_10 =>
(if v2 ≤ x_10 then
(mf_wonAt_j43 (s) (v1) (v2) (v3) ((w4 + (1 : Int32))) (w5) (w6) (x_2))
else
(mf_wonAt_j44 (s) (v1) (v2) (v3) ((w4 + (1 : Int32))) (w5) (w6) (x_2) ((1 : Int32)))))))
else
(mf_wonAt_j58 (s) (v1) (v2) (v3) (w4) (w5) (w6)))))
set_option maxHeartbeats 4000000 in
theorem mb_wonAt_l14 {C : mm_C} {Q : mm_R}  (v1 : Int32) (v2 : Int32) (v3 : Int32) (t : Int32 × Int32 × Int32 × ms_S) (x : (ms_S) ⊕ (Int32 × Int32 × ms_S)) (hl : mo_loop (mf_wonAt_l14 v1 v2 v3) t = some x) (hK : (mo_sum (fun sy => mm_go C mm_Mk mm_Fk P_X12_wonAt Q (P_X12_wonAt.drop 53) [(3, .int v3)] [] (ms_H sy) 0 0) (mo_c2 (fun y4 => (mo_c2 (fun y5 sy => mm_go C mm_Mk mm_Fk P_X12_wonAt Q (P_X12_wonAt.drop 60) [(3, .int v3), (4, .int y4), (5, .int y5)] [] (ms_H sy) 0 0))))) x) : (mo_c2 (fun y4 => (mo_c2 (fun y5 => (mo_c2 (fun y6 sy => mm_go C mm_Mk mm_Fk P_X12_wonAt Q (P_X12_wonAt.drop 14) [(0, .ref 0), (1, .int v1), (2, .int v2), (3, .int v3), (4, .int y4), (5, .int y5), (6, .int y6)] [] (ms_H sy) 0 0)))))) t := by
  refine mo_loop_go (G := (mo_c2 (fun y4 => (mo_c2 (fun y5 => (mo_c2 (fun y6 sy => mm_go C mm_Mk mm_Fk P_X12_wonAt Q (P_X12_wonAt.drop 14) [(0, .ref 0), (1, .int v1), (2, .int v2), (3, .int v3), (4, .int y4), (5, .int y5), (6, .int y6)] [] (ms_H sy) 0 0)))))) ) (K := (mo_sum (fun sy => mm_go C mm_Mk mm_Fk P_X12_wonAt Q (P_X12_wonAt.drop 53) [(3, .int v3)] [] (ms_H sy) 0 0) (mo_c2 (fun y4 => (mo_c2 (fun y5 sy => mm_go C mm_Mk mm_Fk P_X12_wonAt Q (P_X12_wonAt.drop 60) [(3, .int v3), (4, .int y4), (5, .int y5)] [] (ms_H sy) 0 0))))) ) ?_ t x hl hK
  intro t r hf hK
  obtain ⟨w4, w5, w6, s⟩ := t
  unfold mf_wonAt_l14 at hf
  by_cases c_1 : (7 : Int32) ≤ w6
  · have hf := mo_pos hf c_1
    obtain rfl := Option.some.inj hf
    refine mm_adv 3 (cs' := P_X12_wonAt.drop 60) (l' := [(0, .ref 0), (1, .int v1), (2, .int v2), (3, .int v3), (4, .int w4), (5, .int w5), (6, .int w6)]) (st' := []) (h' := ms_H s) (bc' := 0) (bs' := 0) (fun n g => (And.intro (fun _ => g) (fun q => absurd c_1 q))) ?_
    exact mm_re (c := [(3, .int v3), (4, .int w4), (5, .int w5)]) hK rfl rfl
  · have hf := mo_neg hf c_1
    obtain ⟨x_2, hx_2, hf⟩ := mo_bind hf
    obtain ⟨hi_2, rfl⟩ := mo_ag_inv hx_2
    by_cases c_3 : (0 : Int32) ≤ ((s.2.1 51) ((((7 : Int32) * v1) + w6)).toNatClampNeg)
    · have hf := mo_pos hf c_3
      obtain ⟨x_4, hx_4, hf⟩ := mo_bind hf
      obtain ⟨hi_4, rfl⟩ := mo_ag_inv hx_4
      by_cases c_5 : ((s.2.1 52) (((s.2.1 51) ((((7 : Int32) * v1) + w6)).toNatClampNeg)).toNatClampNeg) ≤ (0 : Int32)
      · have hf := mo_pos hf c_5
        refine mm_adv 20 (cs' := P_X12_wonAt.drop 43) (l' := [(4, .int (w4 + (1 : Int32))), (7, .int ((s.2.1 51) ((((7 : Int32) * v1) + w6)).toNatClampNeg)), (0, .ref 0), (1, .int v1), (2, .int v2), (3, .int v3), (5, .int w5), (6, .int w6)]) (st' := []) (h' := ms_H s) (bc' := 0) (bs' := 0) (fun n g => (And.intro (fun q => absurd q c_1) (fun _ => (And.intro hi_2 (And.intro (fun _ => (And.intro hi_4 (And.intro (fun _ => g) (fun q => absurd c_5 q)))) (fun q => absurd c_3 q)))))) ?_
        refine mm_re (l' := [(0, .ref 0), (1, .int v1), (2, .int v2), (3, .int v3), (4, .int (w4 + (1 : Int32))), (5, .int w5), (6, .int w6), (7, .int ((s.2.1 51) ((((7 : Int32) * v1) + w6)).toNatClampNeg))]) (c := [(0, .ref 0), (1, .int v1), (2, .int v2), (3, .int v3), (4, .int (w4 + (1 : Int32))), (5, .int w5), (6, .int w6), (7, .int ((s.2.1 51) ((((7 : Int32) * v1) + w6)).toNatClampNeg))]) ?_ rfl rfl
        exact mb_wonAt_j43  s (v1) (v2) (v3) ((w4 + (1 : Int32))) (w5) (w6) (((s.2.1 51) ((((7 : Int32) * v1) + w6)).toNatClampNeg)) _ hf hK
      · have hf := mo_neg hf c_5
        obtain ⟨x_10, hx_10, hf⟩ := mo_bind hf
        obtain ⟨hi_10, rfl⟩ := mo_ag_inv hx_10
        by_cases c_11 : v2 ≤ ((s.2.1 53) (((s.2.1 51) ((((7 : Int32) * v1) + w6)).toNatClampNeg)).toNatClampNeg)
        · have hf := mo_pos hf c_11
          refine mm_adv 26 (cs' := P_X12_wonAt.drop 43) (l' := [(4, .int (w4 + (1 : Int32))), (7, .int ((s.2.1 51) ((((7 : Int32) * v1) + w6)).toNatClampNeg)), (0, .ref 0), (1, .int v1), (2, .int v2), (3, .int v3), (5, .int w5), (6, .int w6)]) (st' := []) (h' := ms_H s) (bc' := 0) (bs' := 0) (fun n g => (And.intro (fun q => absurd q c_1) (fun _ => (And.intro hi_2 (And.intro (fun _ => (And.intro hi_4 (And.intro (fun q => absurd q c_5) (fun _ => (And.intro hi_10 (And.intro (fun _ => g) (fun q => absurd c_11 q))))))) (fun q => absurd c_3 q)))))) ?_
          refine mm_re (l' := [(0, .ref 0), (1, .int v1), (2, .int v2), (3, .int v3), (4, .int (w4 + (1 : Int32))), (5, .int w5), (6, .int w6), (7, .int ((s.2.1 51) ((((7 : Int32) * v1) + w6)).toNatClampNeg))]) (c := [(0, .ref 0), (1, .int v1), (2, .int v2), (3, .int v3), (4, .int (w4 + (1 : Int32))), (5, .int w5), (6, .int w6), (7, .int ((s.2.1 51) ((((7 : Int32) * v1) + w6)).toNatClampNeg))]) ?_ rfl rfl
          exact mb_wonAt_j43  s (v1) (v2) (v3) ((w4 + (1 : Int32))) (w5) (w6) (((s.2.1 51) ((((7 : Int32) * v1) + w6)).toNatClampNeg)) _ hf hK
        · have hf := mo_neg hf c_11
          refine mm_adv 28 (cs' := P_X12_wonAt.drop 44) (l' := [(4, .int (w4 + (1 : Int32))), (7, .int ((s.2.1 51) ((((7 : Int32) * v1) + w6)).toNatClampNeg)), (0, .ref 0), (1, .int v1), (2, .int v2), (3, .int v3), (5, .int w5), (6, .int w6)]) (st' := [.int (1 : Int32)]) (h' := ms_H s) (bc' := 0) (bs' := 0) (fun n g => (And.intro (fun q => absurd q c_1) (fun _ => (And.intro hi_2 (And.intro (fun _ => (And.intro hi_4 (And.intro (fun q => absurd q c_5) (fun _ => (And.intro hi_10 (And.intro (fun q => absurd q c_11) (fun _ => g))))))) (fun q => absurd c_3 q)))))) ?_
          refine mm_re (l' := [(0, .ref 0), (1, .int v1), (2, .int v2), (3, .int v3), (4, .int (w4 + (1 : Int32))), (5, .int w5), (6, .int w6), (7, .int ((s.2.1 51) ((((7 : Int32) * v1) + w6)).toNatClampNeg))]) (c := [(0, .ref 0), (1, .int v1), (2, .int v2), (3, .int v3), (4, .int (w4 + (1 : Int32))), (5, .int w5), (6, .int w6), (7, .int ((s.2.1 51) ((((7 : Int32) * v1) + w6)).toNatClampNeg))]) ?_ rfl rfl
          exact mb_wonAt_j44  s (v1) (v2) (v3) ((w4 + (1 : Int32))) (w5) (w6) (((s.2.1 51) ((((7 : Int32) * v1) + w6)).toNatClampNeg)) ((1 : Int32)) _ hf hK
    · have hf := mo_neg hf c_3
      refine mm_adv 15 (cs' := P_X12_wonAt.drop 58) (l' := [(7, .int ((s.2.1 51) ((((7 : Int32) * v1) + w6)).toNatClampNeg)), (0, .ref 0), (1, .int v1), (2, .int v2), (3, .int v3), (4, .int w4), (5, .int w5), (6, .int w6)]) (st' := []) (h' := ms_H s) (bc' := 0) (bs' := 0) (fun n g => (And.intro (fun q => absurd q c_1) (fun _ => (And.intro hi_2 (And.intro (fun q => absurd q c_3) (fun _ => g)))))) ?_
      refine mm_re (l' := [(0, .ref 0), (1, .int v1), (2, .int v2), (3, .int v3), (4, .int w4), (5, .int w5), (6, .int w6)]) (c := [(0, .ref 0), (1, .int v1), (2, .int v2), (3, .int v3), (4, .int w4), (5, .int w5), (6, .int w6)]) ?_ rfl rfl
      exact mb_wonAt_j58  s (v1) (v2) (v3) (w4) (w5) (w6) _ hf hK
noncomputable def mf_wonAt (s : ms_S) (a0 : Int32) (a1 : Int32) : Option (Int32 × ms_S) :=
((mo_loop (mf_wonAt_l14 (a0) (a1) (((1 : Int32) + ((a0 / (7 : Int32)) - (a0 / (7 : Int32)) / (2 : Int32) * (2 : Int32))))) ((0 : Int32), (0 : Int32), (0 : Int32), s)).bind fun x_12 =>
match x_12 with
| (.inl s_12) => some (((1 : Int32) + ((a0 / (7 : Int32)) - (a0 / (7 : Int32)) / (2 : Int32) * (2 : Int32))), s_12)
| (.inr (e4_12, e5_12, s_12)) => (if e4_12 ≤ (0 : Int32) then
some ((0 : Int32), s_12)
else
(if e5_12 = e4_12 then
some (((3 : Int32) - ((1 : Int32) + ((a0 / (7 : Int32)) - (a0 / (7 : Int32)) / (2 : Int32) * (2 : Int32)))), s_12)
else
some ((0 : Int32), s_12)))
)
set_option maxHeartbeats 4000000 in
theorem mb_wonAt {C : mm_C} {Q : mm_R}  (s : ms_S) (a0 : Int32) (a1 : Int32) (v : Int32) (s2 : ms_S) (hf : mf_wonAt s a0 a1 = some (v, s2)) (hK : Q (some (.int v)) (ms_H s2)) : mm_go C mm_Mk mm_Fk P_X12_wonAt Q P_X12_wonAt [(0, .ref 0), (1, .int a0), (2, .int a1)] [] (ms_H s) 0 0 := by
  unfold mf_wonAt at hf
  obtain ⟨x_12, hl_12, hf⟩ := mo_bind hf
  refine mm_adv 14 (cs' := P_X12_wonAt.drop 14) (l' := [(6, .int (0 : Int32)), (5, .int (0 : Int32)), (4, .int (0 : Int32)), (3, .int ((1 : Int32) + ((a0 / (7 : Int32)) - (a0 / (7 : Int32)) / (2 : Int32) * (2 : Int32)))), (0, .ref 0), (1, .int a0), (2, .int a1)]) (st' := []) (h' := ms_H s) (bc' := 0) (bs' := 0) (fun n g => (And.intro (by decide) (And.intro (by decide) g))) ?_
  refine mm_re (l' := [(0, .ref 0), (1, .int a0), (2, .int a1), (3, .int ((1 : Int32) + ((a0 / (7 : Int32)) - (a0 / (7 : Int32)) / (2 : Int32) * (2 : Int32)))), (4, .int (0 : Int32)), (5, .int (0 : Int32)), (6, .int (0 : Int32))]) (c := [(0, .ref 0), (1, .int a0), (2, .int a1), (3, .int ((1 : Int32) + ((a0 / (7 : Int32)) - (a0 / (7 : Int32)) / (2 : Int32) * (2 : Int32)))), (4, .int (0 : Int32)), (5, .int (0 : Int32)), (6, .int (0 : Int32))]) ?_ rfl rfl
  refine mb_wonAt_l14  (a0) (a1) (((1 : Int32) + ((a0 / (7 : Int32)) - (a0 / (7 : Int32)) / (2 : Int32) * (2 : Int32)))) ((0 : Int32), (0 : Int32), (0 : Int32), s) x_12 hl_12 ?_
  cases x_12 with
  | inl y_12 =>
    obtain ⟨s_12, rfl⟩ : ∃ q, q = y_12 := ⟨_, rfl⟩
    obtain ⟨rfl, rfl⟩ := mo_pair hf
    exact ⟨2, hK⟩
  | inr z_12_0 =>
    obtain ⟨e4_12, e5_12, s_12⟩ := z_12_0
    by_cases c_13 : e4_12 ≤ (0 : Int32)
    · have hf := mo_pos hf c_13
      obtain ⟨rfl, rfl⟩ := mo_pair hf
      exact ⟨4, (And.intro (fun _ => hK) (fun q => absurd c_13 q))⟩
    · have hf := mo_neg hf c_13
      by_cases c_14 : e5_12 = e4_12
      · have hf := mo_pos hf c_14
        obtain ⟨rfl, rfl⟩ := mo_pair hf
        exact ⟨10, (And.intro (fun q => absurd q c_13) (fun _ => (And.intro (fun q => absurd c_14 q) (fun _ => hK))))⟩
      · have hf := mo_neg hf c_14
        obtain ⟨rfl, rfl⟩ := mo_pair hf
        exact ⟨7, (And.intro (fun q => absurd q c_13) (fun _ => (And.intro (fun _ => hK) (fun q => absurd c_14 q))))⟩
def mk_wonAt (C : mm_C) : Prop := ∀ (s : ms_S) (a0 : Int32) (a1 : Int32) (v : Int32) (s2 : ms_S) (Q : mm_R), mf_wonAt s a0 a1 = some (v, s2) → Q (some (.int v)) (ms_H s2) → C 67 [.ref 0, .int a0, .int a1] (ms_H s) Q
set_option maxRecDepth 100000 in
theorem mt_wonAt (B : mm_C) (d : Nat) : mk_wonAt (mm_ct B mm_Mk mm_Fk mm_PC (d + 1)) := fun s a0 a1 v s2 Q hf hK => Or.inr (mb_wonAt  s a0 a1 v s2 hf hK)
-- X12_fillsWho
noncomputable def mf_fillsWho_j24 (s : ms_S) (v1 : Int32) (k0 : Int32) (k1 : Int32) : Option ((Int32 × ms_S) ⊕ ((ms_S))) :=
(bif mo_in k1 294 then (bif mo_in v1 294 then some (.inl ((v1 + (1 : Int32)), (ms_sA (ms_sA s 52 (upd (s.2.1 52) (k1).toNatClampNeg (k0))) 53 (upd (s.2.1 53) (v1).toNatClampNeg ((0 : Int32)))))) else none) else none)
set_option maxHeartbeats 4000000 in
theorem mb_fillsWho_j24 {C : mm_C} {Q : mm_R} (h_fillsThen : mk_fillsThen C) (h_isStanding : mk_isStanding C) (h_wonAt : mk_wonAt C) (s : ms_S) (v1 : Int32) (k0 : Int32) (k1 : Int32) (r : (Int32 × ms_S) ⊕ ((ms_S))) (hf : mf_fillsWho_j24 s v1 k0 k1 = some r) (hK : mo_sum (mo_c2 (fun y1 sy => mm_go C mm_Mk mm_Fk P_X12_fillsWho Q (P_X12_fillsWho.drop 4) [(0, .ref 0), (1, .int y1)] [] (ms_H sy) 0 0))  (fun sy => mm_go C mm_Mk mm_Fk P_X12_fillsWho Q (P_X12_fillsWho.drop 32) [(0, .ref 0)] [] (ms_H sy) 0 0)  r) : mm_go C mm_Mk mm_Fk P_X12_fillsWho Q (P_X12_fillsWho.drop 24) [(0, .ref 0), (1, .int v1)] [.int k0, .int k1, .ref 33] (ms_H s) 0 0 := by
  unfold mf_fillsWho_j24 at hf
  obtain ⟨hi_4, hf⟩ := mo_if hf
  obtain ⟨hi_5, hf⟩ := mo_if hf
  obtain rfl := Option.some.inj hf
  refine mm_adv 8 (cs' := P_X12_fillsWho.drop 4) (l' := [(1, .int (v1 + (1 : Int32))), (0, .ref 0)]) (st' := []) (h' := ms_H (ms_sA (ms_sA s 52 (upd (s.2.1 52) (k1).toNatClampNeg (k0))) 53 (upd (s.2.1 53) (v1).toNatClampNeg ((0 : Int32))))) (bc' := 0) (bs' := 0) (fun n g => (And.intro hi_4 (And.intro hi_5 g))) ?_
  exact mm_re (c := [(0, .ref 0), (1, .int (v1 + (1 : Int32)))]) hK rfl rfl
noncomputable def mf_fillsWho_l4  : (Int32 × ms_S) → Option ((Int32 × ms_S) ⊕ ((ms_S))) := fun (w1, s) =>
(if (294 : Int32) ≤ w1 then
some (.inr (s))
else
(if (w1 / (14 : Int32)) = (20 : Int32) then
(mf_fillsWho_j24 (s) (w1) ((1 : Int32)) (w1))
else
(if (w1 / (14 : Int32)) = (0 : Int32) then
(mf_fillsWho_j24 (s) (w1) ((2 : Int32)) (w1))
else
(mf_fillsWho_j24 (s) (w1) ((0 : Int32)) (w1)))))
set_option maxHeartbeats 4000000 in
theorem mb_fillsWho_l4 {C : mm_C} {Q : mm_R} (h_fillsThen : mk_fillsThen C) (h_isStanding : mk_isStanding C) (h_wonAt : mk_wonAt C)  (t : Int32 × ms_S) (x : (ms_S)) (hl : mo_loop (mf_fillsWho_l4 ) t = some x) (hK : (fun sy => mm_go C mm_Mk mm_Fk P_X12_fillsWho Q (P_X12_fillsWho.drop 32) [(0, .ref 0)] [] (ms_H sy) 0 0) x) : (mo_c2 (fun y1 sy => mm_go C mm_Mk mm_Fk P_X12_fillsWho Q (P_X12_fillsWho.drop 4) [(0, .ref 0), (1, .int y1)] [] (ms_H sy) 0 0)) t := by
  refine mo_loop_go (G := (mo_c2 (fun y1 sy => mm_go C mm_Mk mm_Fk P_X12_fillsWho Q (P_X12_fillsWho.drop 4) [(0, .ref 0), (1, .int y1)] [] (ms_H sy) 0 0)) ) (K := (fun sy => mm_go C mm_Mk mm_Fk P_X12_fillsWho Q (P_X12_fillsWho.drop 32) [(0, .ref 0)] [] (ms_H sy) 0 0) ) ?_ t x hl hK
  intro t r hf hK
  obtain ⟨w1, s⟩ := t
  unfold mf_fillsWho_l4 at hf
  by_cases c_2 : (294 : Int32) ≤ w1
  · have hf := mo_pos hf c_2
    obtain rfl := Option.some.inj hf
    refine mm_adv 3 (cs' := P_X12_fillsWho.drop 32) (l' := [(0, .ref 0), (1, .int w1)]) (st' := []) (h' := ms_H s) (bc' := 0) (bs' := 0) (fun n g => (And.intro (fun _ => g) (fun q => absurd c_2 q))) ?_
    exact mm_re (c := [(0, .ref 0)]) hK rfl rfl
  · have hf := mo_neg hf c_2
    by_cases c_3 : (w1 / (14 : Int32)) = (20 : Int32)
    · have hf := mo_pos hf c_3
      refine mm_adv 13 (cs' := P_X12_fillsWho.drop 24) (l' := [(0, .ref 0), (1, .int w1)]) (st' := [.int (1 : Int32), .int w1, .ref 33]) (h' := ms_H s) (bc' := 0) (bs' := 0) (fun n g => (And.intro (fun q => absurd q c_2) (fun _ => (And.intro (by decide) (And.intro (fun q => absurd c_3 q) (fun _ => g)))))) ?_
      refine mm_re (l' := [(0, .ref 0), (1, .int w1)]) (c := [(0, .ref 0), (1, .int w1)]) ?_ rfl rfl
      exact mb_fillsWho_j24 h_fillsThen h_isStanding h_wonAt s (w1) ((1 : Int32)) (w1) _ hf hK
    · have hf := mo_neg hf c_3
      by_cases c_6 : (w1 / (14 : Int32)) = (0 : Int32)
      · have hf := mo_pos hf c_6
        refine mm_adv 17 (cs' := P_X12_fillsWho.drop 24) (l' := [(0, .ref 0), (1, .int w1)]) (st' := [.int (2 : Int32), .int w1, .ref 33]) (h' := ms_H s) (bc' := 0) (bs' := 0) (fun n g => (And.intro (fun q => absurd q c_2) (fun _ => (And.intro (by decide) (And.intro (fun _ => (And.intro (by decide) (And.intro (fun q => absurd c_6 q) (fun _ => g)))) (fun q => absurd c_3 q)))))) ?_
        refine mm_re (l' := [(0, .ref 0), (1, .int w1)]) (c := [(0, .ref 0), (1, .int w1)]) ?_ rfl rfl
        exact mb_fillsWho_j24 h_fillsThen h_isStanding h_wonAt s (w1) ((2 : Int32)) (w1) _ hf hK
      · have hf := mo_neg hf c_6
        refine mm_adv 16 (cs' := P_X12_fillsWho.drop 24) (l' := [(0, .ref 0), (1, .int w1)]) (st' := [.int (0 : Int32), .int w1, .ref 33]) (h' := ms_H s) (bc' := 0) (bs' := 0) (fun n g => (And.intro (fun q => absurd q c_2) (fun _ => (And.intro (by decide) (And.intro (fun _ => (And.intro (by decide) (And.intro (fun _ => g) (fun q => absurd c_6 q)))) (fun q => absurd c_3 q)))))) ?_
        refine mm_re (l' := [(0, .ref 0), (1, .int w1)]) (c := [(0, .ref 0), (1, .int w1)]) ?_ rfl rfl
        exact mb_fillsWho_j24 h_fillsThen h_isStanding h_wonAt s (w1) ((0 : Int32)) (w1) _ hf hK
noncomputable def mf_fillsWho_j75 (s : ms_S) (v1 : Int32) (v2 : Int32) (v3 : Int32) : Option ((Int32 × Int32 × ms_S) ⊕ ((Int32 × ms_S))) :=
some (.inl (v1, (v3 + (1 : Int32)), s))
set_option maxHeartbeats 4000000 in
theorem mb_fillsWho_j75 {C : mm_C} {Q : mm_R} (h_fillsThen : mk_fillsThen C) (h_isStanding : mk_isStanding C) (h_wonAt : mk_wonAt C) (s : ms_S) (v1 : Int32) (v2 : Int32) (v3 : Int32) (r : (Int32 × Int32 × ms_S) ⊕ ((Int32 × ms_S))) (hf : mf_fillsWho_j75 s v1 v2 v3 = some r) (hK : mo_sum (mo_c2 (fun y1 => (mo_c2 (fun y3 sy => mm_go C mm_Mk mm_Fk P_X12_fillsWho Q (P_X12_fillsWho.drop 42) [(0, .ref 0), (1, .int y1), (2, .int v2), (3, .int y3)] [] (ms_H sy) 0 0))))  (mo_c2 (fun y1 sy => mm_go C mm_Mk mm_Fk P_X12_fillsWho Q (P_X12_fillsWho.drop 77) [(0, .ref 0), (1, .int y1), (2, .int v2)] [] (ms_H sy) 0 0))  r) : mm_go C mm_Mk mm_Fk P_X12_fillsWho Q (P_X12_fillsWho.drop 75) [(0, .ref 0), (1, .int v1), (2, .int v2), (3, .int v3)] [] (ms_H s) 0 0 := by
  unfold mf_fillsWho_j75 at hf
  obtain rfl := Option.some.inj hf
  refine mm_adv 2 (cs' := P_X12_fillsWho.drop 42) (l' := [(3, .int (v3 + (1 : Int32))), (0, .ref 0), (1, .int v1), (2, .int v2)]) (st' := []) (h' := ms_H s) (bc' := 0) (bs' := 0) (fun n g => g) ?_
  exact mm_re (c := [(0, .ref 0), (1, .int v1), (2, .int v2), (3, .int (v3 + (1 : Int32)))]) hK rfl rfl
noncomputable def mf_fillsWho_l42 (v2 : Int32) : (Int32 × Int32 × ms_S) → Option ((Int32 × Int32 × ms_S) ⊕ ((Int32 × ms_S))) := fun (w1, w3, s) =>
(if (280 : Int32) ≤ w3 then
some (.inr (w1, s))
else
((mo_ag 294 (s.2.1 52) w3).bind fun x_10 =>
(if (0 : Int32) < x_10 then
(mf_fillsWho_j75 (s) (w1) (v2) (w3))
else
((mf_isStanding s (w3)).bind fun (v_12, s_12) =>
(if v_12 = (0 : Int32) then
(mf_fillsWho_j75 (s_12) (w1) (v2) (w3))
else
((mf_wonAt s_12 (w3) (v2)).bind fun (v_14, s_14) =>
(bif mo_in w3 294 then (bif mo_in w3 294 then ((mo_ag 294 (upd (s_14.2.1 52) (w3).toNatClampNeg (v_14)) w3).bind fun x_17 =>
(if x_17 ≤ (0 : Int32) then
(mf_fillsWho_j75 ((ms_sA (ms_sA s_14 52 (upd (s_14.2.1 52) (w3).toNatClampNeg (v_14))) 53 (upd (s_14.2.1 53) (w3).toNatClampNeg (v2)))) (w1) (v2) (w3))
else
(mf_fillsWho_j75 ((ms_sA (ms_sA s_14 52 (upd (s_14.2.1 52) (w3).toNatClampNeg (v_14))) 53 (upd (s_14.2.1 53) (w3).toNatClampNeg (v2)))) ((1 : Int32)) (v2) (w3)))) else none) else none)))))))
set_option maxHeartbeats 4000000 in
theorem mb_fillsWho_l42 {C : mm_C} {Q : mm_R} (h_fillsThen : mk_fillsThen C) (h_isStanding : mk_isStanding C) (h_wonAt : mk_wonAt C) (v2 : Int32) (t : Int32 × Int32 × ms_S) (x : (Int32 × ms_S)) (hl : mo_loop (mf_fillsWho_l42 v2) t = some x) (hK : (mo_c2 (fun y1 sy => mm_go C mm_Mk mm_Fk P_X12_fillsWho Q (P_X12_fillsWho.drop 77) [(0, .ref 0), (1, .int y1), (2, .int v2)] [] (ms_H sy) 0 0)) x) : (mo_c2 (fun y1 => (mo_c2 (fun y3 sy => mm_go C mm_Mk mm_Fk P_X12_fillsWho Q (P_X12_fillsWho.drop 42) [(0, .ref 0), (1, .int y1), (2, .int v2), (3, .int y3)] [] (ms_H sy) 0 0)))) t := by
  refine mo_loop_go (G := (mo_c2 (fun y1 => (mo_c2 (fun y3 sy => mm_go C mm_Mk mm_Fk P_X12_fillsWho Q (P_X12_fillsWho.drop 42) [(0, .ref 0), (1, .int y1), (2, .int v2), (3, .int y3)] [] (ms_H sy) 0 0)))) ) (K := (mo_c2 (fun y1 sy => mm_go C mm_Mk mm_Fk P_X12_fillsWho Q (P_X12_fillsWho.drop 77) [(0, .ref 0), (1, .int y1), (2, .int v2)] [] (ms_H sy) 0 0)) ) ?_ t x hl hK
  intro t r hf hK
  obtain ⟨w1, w3, s⟩ := t
  unfold mf_fillsWho_l42 at hf
  by_cases c_9 : (280 : Int32) ≤ w3
  · have hf := mo_pos hf c_9
    obtain rfl := Option.some.inj hf
    refine mm_adv 3 (cs' := P_X12_fillsWho.drop 77) (l' := [(0, .ref 0), (1, .int w1), (2, .int v2), (3, .int w3)]) (st' := []) (h' := ms_H s) (bc' := 0) (bs' := 0) (fun n g => (And.intro (fun _ => g) (fun q => absurd c_9 q))) ?_
    exact mm_re (c := [(0, .ref 0), (1, .int w1), (2, .int v2)]) hK rfl rfl
  · have hf := mo_neg hf c_9
    obtain ⟨x_10, hx_10, hf⟩ := mo_bind hf
    obtain ⟨hi_10, rfl⟩ := mo_ag_inv hx_10
    by_cases c_11 : (0 : Int32) < ((s.2.1 52) (w3).toNatClampNeg)
    · have hf := mo_pos hf c_11
      refine mm_adv 8 (cs' := P_X12_fillsWho.drop 75) (l' := [(0, .ref 0), (1, .int w1), (2, .int v2), (3, .int w3)]) (st' := []) (h' := ms_H s) (bc' := 0) (bs' := 0) (fun n g => (And.intro (fun q => absurd q c_9) (fun _ => (And.intro hi_10 (And.intro (fun _ => g) (fun q => absurd c_11 q)))))) ?_
      refine mm_re (l' := [(0, .ref 0), (1, .int w1), (2, .int v2), (3, .int w3)]) (c := [(0, .ref 0), (1, .int w1), (2, .int v2), (3, .int w3)]) ?_ rfl rfl
      exact mb_fillsWho_j75 h_fillsThen h_isStanding h_wonAt s (w1) (v2) (w3) _ hf hK
    · have hf := mo_neg hf c_11
      obtain ⟨r_12, hr_12, hf⟩ := mo_bind hf
      obtain ⟨v_12, s_12⟩ := r_12
      by_cases c_13 : v_12 = (0 : Int32)
      · have hf := mo_pos hf c_13
        refine mm_adv 13 (cs' := P_X12_fillsWho.drop 75) (l' := [(0, .ref 0), (1, .int w1), (2, .int v2), (3, .int w3)]) (st' := []) (h' := ms_H s_12) (bc' := 0) (bs' := 0) (fun n g => (And.intro (fun q => absurd q c_9) (fun _ => (And.intro hi_10 (And.intro (fun q => absurd q c_11) (fun _ => (h_isStanding s (w3) v_12 s_12 _ hr_12 (And.intro (fun q => absurd c_13 q) (fun _ => g))))))))) ?_
        refine mm_re (l' := [(0, .ref 0), (1, .int w1), (2, .int v2), (3, .int w3)]) (c := [(0, .ref 0), (1, .int w1), (2, .int v2), (3, .int w3)]) ?_ rfl rfl
        exact mb_fillsWho_j75 h_fillsThen h_isStanding h_wonAt s_12 (w1) (v2) (w3) _ hf hK
      · have hf := mo_neg hf c_13
        obtain ⟨r_14, hr_14, hf⟩ := mo_bind hf
        obtain ⟨v_14, s_14⟩ := r_14
        obtain ⟨hi_15, hf⟩ := mo_if hf
        obtain ⟨hi_16, hf⟩ := mo_if hf
        obtain ⟨x_17, hx_17, hf⟩ := mo_bind hf
        obtain ⟨hi_17, rfl⟩ := mo_ag_inv hx_17
        by_cases c_18 : ((upd (s_14.2.1 52) (w3).toNatClampNeg (v_14)) (w3).toNatClampNeg) ≤ (0 : Int32)
        · have hf := mo_pos hf c_18
          refine mm_adv 30 (cs' := P_X12_fillsWho.drop 75) (l' := [(0, .ref 0), (1, .int w1), (2, .int v2), (3, .int w3)]) (st' := []) (h' := ms_H (ms_sA (ms_sA s_14 52 (upd (s_14.2.1 52) (w3).toNatClampNeg (v_14))) 53 (upd (s_14.2.1 53) (w3).toNatClampNeg (v2)))) (bc' := 0) (bs' := 0) (fun n g => (And.intro (fun q => absurd q c_9) (fun _ => (And.intro hi_10 (And.intro (fun q => absurd q c_11) (fun _ => (h_isStanding s (w3) v_12 s_12 _ hr_12 (And.intro (fun _ => (h_wonAt s_12 (w3) (v2) v_14 s_14 _ hr_14 (And.intro hi_15 (And.intro hi_16 (And.intro hi_17 (And.intro (fun _ => g) (fun q => absurd c_18 q))))))) (fun q => absurd c_13 q))))))))) ?_
          refine mm_re (l' := [(0, .ref 0), (1, .int w1), (2, .int v2), (3, .int w3)]) (c := [(0, .ref 0), (1, .int w1), (2, .int v2), (3, .int w3)]) ?_ rfl rfl
          exact mb_fillsWho_j75 h_fillsThen h_isStanding h_wonAt (ms_sA (ms_sA s_14 52 (upd (s_14.2.1 52) (w3).toNatClampNeg (v_14))) 53 (upd (s_14.2.1 53) (w3).toNatClampNeg (v2))) (w1) (v2) (w3) _ hf hK
        · have hf := mo_neg hf c_18
          refine mm_adv 32 (cs' := P_X12_fillsWho.drop 75) (l' := [(1, .int (1 : Int32)), (0, .ref 0), (2, .int v2), (3, .int w3)]) (st' := []) (h' := ms_H (ms_sA (ms_sA s_14 52 (upd (s_14.2.1 52) (w3).toNatClampNeg (v_14))) 53 (upd (s_14.2.1 53) (w3).toNatClampNeg (v2)))) (bc' := 0) (bs' := 0) (fun n g => (And.intro (fun q => absurd q c_9) (fun _ => (And.intro hi_10 (And.intro (fun q => absurd q c_11) (fun _ => (h_isStanding s (w3) v_12 s_12 _ hr_12 (And.intro (fun _ => (h_wonAt s_12 (w3) (v2) v_14 s_14 _ hr_14 (And.intro hi_15 (And.intro hi_16 (And.intro hi_17 (And.intro (fun q => absurd q c_18) (fun _ => g))))))) (fun q => absurd c_13 q))))))))) ?_
          refine mm_re (l' := [(0, .ref 0), (1, .int (1 : Int32)), (2, .int v2), (3, .int w3)]) (c := [(0, .ref 0), (1, .int (1 : Int32)), (2, .int v2), (3, .int w3)]) ?_ rfl rfl
          exact mb_fillsWho_j75 h_fillsThen h_isStanding h_wonAt (ms_sA (ms_sA s_14 52 (upd (s_14.2.1 52) (w3).toNatClampNeg (v_14))) 53 (upd (s_14.2.1 53) (w3).toNatClampNeg (v2))) ((1 : Int32)) (v2) (w3) _ hf hK
noncomputable def mf_fillsWho_l36  : (Int32 × Int32 × ms_S) → Option ((Int32 × Int32 × ms_S) ⊕ ((ms_S))) := fun (w1, w2, s) =>
(if w1 = (0 : Int32) then
some (.inr (s))
else
((mo_loop (mf_fillsWho_l42 (w2)) ((0 : Int32), (14 : Int32), s)).bind fun (e1_19, s_19) =>
some (.inl (e1_19, (w2 + (1 : Int32)), s_19))))
set_option maxHeartbeats 4000000 in
theorem mb_fillsWho_l36 {C : mm_C} {Q : mm_R} (h_fillsThen : mk_fillsThen C) (h_isStanding : mk_isStanding C) (h_wonAt : mk_wonAt C)  (t : Int32 × Int32 × ms_S) (x : (ms_S)) (hl : mo_loop (mf_fillsWho_l36 ) t = some x) (hK : (fun sy => mm_go C mm_Mk mm_Fk P_X12_fillsWho Q (P_X12_fillsWho.drop 79) [] [] (ms_H sy) 0 0) x) : (mo_c2 (fun y1 => (mo_c2 (fun y2 sy => mm_go C mm_Mk mm_Fk P_X12_fillsWho Q (P_X12_fillsWho.drop 36) [(0, .ref 0), (1, .int y1), (2, .int y2)] [] (ms_H sy) 0 0)))) t := by
  refine mo_loop_go (G := (mo_c2 (fun y1 => (mo_c2 (fun y2 sy => mm_go C mm_Mk mm_Fk P_X12_fillsWho Q (P_X12_fillsWho.drop 36) [(0, .ref 0), (1, .int y1), (2, .int y2)] [] (ms_H sy) 0 0)))) ) (K := (fun sy => mm_go C mm_Mk mm_Fk P_X12_fillsWho Q (P_X12_fillsWho.drop 79) [] [] (ms_H sy) 0 0) ) ?_ t x hl hK
  intro t r hf hK
  obtain ⟨w1, w2, s⟩ := t
  unfold mf_fillsWho_l36 at hf
  by_cases c_8 : w1 = (0 : Int32)
  · have hf := mo_pos hf c_8
    obtain rfl := Option.some.inj hf
    refine mm_adv 2 (cs' := P_X12_fillsWho.drop 79) (l' := [(0, .ref 0), (1, .int w1), (2, .int w2)]) (st' := []) (h' := ms_H s) (bc' := 0) (bs' := 0) (fun n g => (And.intro (fun _ => g) (fun q => absurd c_8 q))) ?_
    exact mm_re (c := []) hK rfl rfl
  · have hf := mo_neg hf c_8
    obtain ⟨x_19, hl_19, hf⟩ := mo_bind hf
    refine mm_adv 6 (cs' := P_X12_fillsWho.drop 42) (l' := [(3, .int (14 : Int32)), (1, .int (0 : Int32)), (0, .ref 0), (2, .int w2)]) (st' := []) (h' := ms_H s) (bc' := 0) (bs' := 0) (fun n g => (And.intro (fun q => absurd q c_8) (fun _ => g))) ?_
    refine mm_re (l' := [(0, .ref 0), (1, .int (0 : Int32)), (2, .int w2), (3, .int (14 : Int32))]) (c := [(0, .ref 0), (1, .int (0 : Int32)), (2, .int w2), (3, .int (14 : Int32))]) ?_ rfl rfl
    refine mb_fillsWho_l42 h_fillsThen h_isStanding h_wonAt (w2) ((0 : Int32), (14 : Int32), s) x_19 hl_19 ?_
    obtain ⟨e1_19, s_19⟩ := x_19
    obtain rfl := Option.some.inj hf
    refine mm_adv 2 (cs' := P_X12_fillsWho.drop 36) (l' := [(2, .int (w2 + (1 : Int32))), (0, .ref 0), (1, .int e1_19)]) (st' := []) (h' := ms_H s_19) (bc' := 0) (bs' := 0) (fun n g => g) ?_
    exact mm_re (c := [(0, .ref 0), (1, .int e1_19), (2, .int (w2 + (1 : Int32)))]) hK rfl rfl
noncomputable def mf_fillsWho (s : ms_S)  : Option (ms_S) :=
((mf_fillsThen s ).bind fun s_1 =>
((mo_loop (mf_fillsWho_l4 ) ((0 : Int32), s_1)).bind fun s_7 =>
((mo_loop (mf_fillsWho_l36 ) ((1 : Int32), (1 : Int32), s_7)).bind fun s_20 =>
some s_20)))
set_option maxHeartbeats 4000000 in
theorem mb_fillsWho {C : mm_C} {Q : mm_R} (h_fillsThen : mk_fillsThen C) (h_isStanding : mk_isStanding C) (h_wonAt : mk_wonAt C) (s : ms_S)  (s2 : ms_S) (hf : mf_fillsWho s = some s2) (hK : Q (none) (ms_H s2)) : mm_go C mm_Mk mm_Fk P_X12_fillsWho Q P_X12_fillsWho [(0, .ref 0)] [] (ms_H s) 0 0 := by
  unfold mf_fillsWho at hf
  obtain ⟨s_1, hr_1, hf⟩ := mo_bind hf
  obtain ⟨x_7, hl_7, hf⟩ := mo_bind hf
  refine mm_adv 4 (cs' := P_X12_fillsWho.drop 4) (l' := [(1, .int (0 : Int32)), (0, .ref 0)]) (st' := []) (h' := ms_H s_1) (bc' := 0) (bs' := 0) (fun n g => (h_fillsThen s  s_1 _ hr_1 g)) ?_
  refine mm_re (l' := [(0, .ref 0), (1, .int (0 : Int32))]) (c := [(0, .ref 0), (1, .int (0 : Int32))]) ?_ rfl rfl
  refine mb_fillsWho_l4 h_fillsThen h_isStanding h_wonAt  ((0 : Int32), s_1) x_7 hl_7 ?_
  obtain ⟨s_7, rfl⟩ : ∃ q, q = x_7 := ⟨_, rfl⟩
  obtain ⟨x_20, hl_20, hf⟩ := mo_bind hf
  refine mm_adv 4 (cs' := P_X12_fillsWho.drop 36) (l' := [(2, .int (1 : Int32)), (1, .int (1 : Int32)), (0, .ref 0)]) (st' := []) (h' := ms_H s_7) (bc' := 0) (bs' := 0) (fun n g => g) ?_
  refine mm_re (l' := [(0, .ref 0), (1, .int (1 : Int32)), (2, .int (1 : Int32))]) (c := [(0, .ref 0), (1, .int (1 : Int32)), (2, .int (1 : Int32))]) ?_ rfl rfl
  refine mb_fillsWho_l36 h_fillsThen h_isStanding h_wonAt  ((1 : Int32), (1 : Int32), s_7) x_20 hl_20 ?_
  obtain ⟨s_20, rfl⟩ : ∃ q, q = x_20 := ⟨_, rfl⟩
  obtain rfl := Option.some.inj hf
  exact ⟨1, hK⟩
def mk_fillsWho (C : mm_C) : Prop := ∀ (s : ms_S)  (s2 : ms_S) (Q : mm_R), mf_fillsWho s = some s2 → Q (none) (ms_H s2) → C 68 [.ref 0] (ms_H s) Q
set_option maxRecDepth 100000 in
theorem mt_fillsWho (B : mm_C) (d : Nat) : mk_fillsWho (mm_ct B mm_Mk mm_Fk mm_PC (d + 8)) := fun s s2 Q hf hK => Or.inr (mb_fillsWho (mt_fillsThen B (d + 0)) (mt_isStanding B (d + 6)) (mt_wonAt B (d + 6)) s s2 hf hK)
-- X12_speaker
noncomputable def mf_speaker (s : ms_S) (a0 : Int32) (a1 : Int32) : Option (Int32 × ms_S) :=
((mf_isSpeaker s (a0)).bind fun (v_1, s_1) =>
(if v_1 = (0 : Int32) then
some ((-1 : Int32), s_1)
else
(if a1 = (0 : Int32) then
((mo_ag 10 (s_1.2.1 24) (((5 : Int32) * (s_1.1 18)) + a0)).bind fun x_4 =>
some (x_4, s_1))
else
(if a1 = (1 : Int32) then
(if (s_1.2.1 47 3) = a0 then
some ((0 : Int32), s_1)
else
(if (s_1.2.1 47 4) = a0 then
some ((1 : Int32), s_1)
else
some ((-2 : Int32), s_1)))
else
(if a1 = (2 : Int32) then
((mo_ag 12 (s_1.2.1 47) ((7 : Int32) + a0)).bind fun x_7 =>
some (x_7, s_1))
else
some ((-1 : Int32), s_1))))))
set_option maxHeartbeats 4000000 in
theorem mb_speaker {C : mm_C} {Q : mm_R} (h_isSpeaker : mk_isSpeaker C) (s : ms_S) (a0 : Int32) (a1 : Int32) (v : Int32) (s2 : ms_S) (hf : mf_speaker s a0 a1 = some (v, s2)) (hK : Q (some (.int v)) (ms_H s2)) : mm_go C mm_Mk mm_Fk P_X12_speaker Q P_X12_speaker [(0, .ref 0), (1, .int a0), (2, .int a1)] [] (ms_H s) 0 0 := by
  unfold mf_speaker at hf
  obtain ⟨r_1, hr_1, hf⟩ := mo_bind hf
  obtain ⟨v_1, s_1⟩ := r_1
  by_cases c_2 : v_1 = (0 : Int32)
  · have hf := mo_pos hf c_2
    obtain ⟨rfl, rfl⟩ := mo_pair hf
    exact ⟨6, (h_isSpeaker s (a0) v_1 s_1 _ hr_1 (And.intro (fun q => absurd c_2 q) (fun _ => hK)))⟩
  · have hf := mo_neg hf c_2
    by_cases c_3_0 : a1 = (0 : Int32)
    · have hf := mo_pos hf c_3_0
      obtain ⟨x_4, hx_4, hf⟩ := mo_bind hf
      obtain ⟨hi_4, rfl⟩ := mo_ag_inv hx_4
      obtain ⟨rfl, rfl⟩ := mo_pair hf
      exact ⟨16, (h_isSpeaker s (a0) v_1 s_1 _ hr_1 (And.intro (fun _ => (And.intro (fun _ => (And.intro hi_4 hK)) (fun q => absurd c_3_0 q))) (fun q => absurd c_2 q)))⟩
    replace hf := mo_neg hf c_3_0
    by_cases c_3_1 : a1 = (1 : Int32)
    · have hf := mo_pos hf c_3_1
      by_cases c_5 : (s_1.2.1 47 3) = a0
      · have hf := mo_pos hf c_5
        obtain ⟨rfl, rfl⟩ := mo_pair hf
        exact ⟨15, (h_isSpeaker s (a0) v_1 s_1 _ hr_1 (And.intro (fun _ => (And.intro (fun q => absurd q c_3_0) (fun _ => (And.intro (fun _ => (And.intro (mm_vi rfl) (And.intro (fun q => absurd c_5 q) (fun _ => hK)))) (fun q => absurd c_3_1 q))))) (fun q => absurd c_2 q)))⟩
      · have hf := mo_neg hf c_5
        by_cases c_6 : (s_1.2.1 47 4) = a0
        · have hf := mo_pos hf c_6
          obtain ⟨rfl, rfl⟩ := mo_pair hf
          exact ⟨21, (h_isSpeaker s (a0) v_1 s_1 _ hr_1 (And.intro (fun _ => (And.intro (fun q => absurd q c_3_0) (fun _ => (And.intro (fun _ => (And.intro (mm_vi rfl) (And.intro (fun _ => (And.intro (mm_vi rfl) (And.intro (fun q => absurd c_6 q) (fun _ => hK)))) (fun q => absurd c_5 q)))) (fun q => absurd c_3_1 q))))) (fun q => absurd c_2 q)))⟩
        · have hf := mo_neg hf c_6
          obtain ⟨rfl, rfl⟩ := mo_pair hf
          exact ⟨20, (h_isSpeaker s (a0) v_1 s_1 _ hr_1 (And.intro (fun _ => (And.intro (fun q => absurd q c_3_0) (fun _ => (And.intro (fun _ => (And.intro (mm_vi rfl) (And.intro (fun _ => (And.intro (mm_vi rfl) (And.intro (fun _ => hK) (fun q => absurd c_6 q)))) (fun q => absurd c_5 q)))) (fun q => absurd c_3_1 q))))) (fun q => absurd c_2 q)))⟩
    replace hf := mo_neg hf c_3_1
    by_cases c_3_2 : a1 = (2 : Int32)
    · have hf := mo_pos hf c_3_2
      obtain ⟨x_7, hx_7, hf⟩ := mo_bind hf
      obtain ⟨hi_7, rfl⟩ := mo_ag_inv hx_7
      obtain ⟨rfl, rfl⟩ := mo_pair hf
      exact ⟨13, (h_isSpeaker s (a0) v_1 s_1 _ hr_1 (And.intro (fun _ => (And.intro (fun q => absurd q c_3_0) (fun _ => (And.intro (fun q => absurd q c_3_1) (fun _ => (And.intro (fun _ => (And.intro hi_7 hK)) (fun q => absurd c_3_2 q))))))) (fun q => absurd c_2 q)))⟩
    replace hf := mo_neg hf c_3_2
    obtain ⟨rfl, rfl⟩ := mo_pair hf
    exact ⟨8, (h_isSpeaker s (a0) v_1 s_1 _ hr_1 (And.intro (fun _ => (And.intro (fun q => absurd q c_3_0) (fun _ => (And.intro (fun q => absurd q c_3_1) (fun _ => (And.intro (fun q => absurd q c_3_2) (fun _ => hK))))))) (fun q => absurd c_2 q)))⟩
def mk_speaker (C : mm_C) : Prop := ∀ (s : ms_S) (a0 : Int32) (a1 : Int32) (v : Int32) (s2 : ms_S) (Q : mm_R), mf_speaker s a0 a1 = some (v, s2) → Q (some (.int v)) (ms_H s2) → C 69 [.ref 0, .int a0, .int a1] (ms_H s) Q
set_option maxRecDepth 100000 in
theorem mt_speaker (B : mm_C) (d : Nat) : mk_speaker (mm_ct B mm_Mk mm_Fk mm_PC (d + 3)) := fun s a0 a1 v s2 Q hf hK => Or.inr (mb_speaker (mt_isSpeaker B (d + 0)) s a0 a1 v s2 hf hK)
-- X12_word
noncomputable def mf_word (s : ms_S) (a0 : Int32) (a1 : Int32) : Option (Int32 × ms_S) :=
((mf_isWord s (a0)).bind fun (v_1, s_1) =>
(if v_1 = (0 : Int32) then
some ((-1 : Int32), s_1)
else
((mf_in (a1) ((0 : Int32)) ((3 : Int32))).bind fun v_3 =>
(if v_3 = (0 : Int32) then
some ((-1 : Int32), s_1)
else
((mf_copies s_1 ).bind fun s_5 =>
(if a1 = (0 : Int32) then
((mf_forceAt s_5 (a0)).bind fun (v_7, s_7) =>
some (v_7, s_7))
else
(if a1 = (1 : Int32) then
((mf_canSay s_5 (a0)).bind fun (v_9, s_9) =>
(if v_9 = (0 : Int32) then
some ((0 : Int32), s_9)
else
some ((1 : Int32), s_9)))
else
((mf_areThere s_5 ).bind fun (v_11, s_11) =>
(if v_11 = (0 : Int32) then
some ((0 : Int32), s_11)
else
(if a1 = (2 : Int32) then
((mf_pushesOf s_11 (a0)).bind fun (v_14, s_14) =>
some (v_14, s_14))
else
((mf_isBarred s_11 (a0)).bind fun (v_15, s_15) =>
(if v_15 = (0 : Int32) then
some ((0 : Int32), s_15)
else
some ((1 : Int32), s_15)))))))))))))
set_option maxHeartbeats 4000000 in
theorem mb_word {C : mm_C} {Q : mm_R} (h_isWord : mk_isWord C) (h_in : mk_in C) (h_copies : mk_copies C) (h_forceAt : mk_forceAt C) (h_canSay : mk_canSay C) (h_areThere : mk_areThere C) (h_pushesOf : mk_pushesOf C) (h_isBarred : mk_isBarred C) (s : ms_S) (a0 : Int32) (a1 : Int32) (v : Int32) (s2 : ms_S) (hf : mf_word s a0 a1 = some (v, s2)) (hK : Q (some (.int v)) (ms_H s2)) : mm_go C mm_Mk mm_Fk P_X12_word Q P_X12_word [(0, .ref 0), (1, .int a0), (2, .int a1)] [] (ms_H s) 0 0 := by
  unfold mf_word at hf
  obtain ⟨r_1, hr_1, hf⟩ := mo_bind hf
  obtain ⟨v_1, s_1⟩ := r_1
  by_cases c_2 : v_1 = (0 : Int32)
  · have hf := mo_pos hf c_2
    obtain ⟨rfl, rfl⟩ := mo_pair hf
    exact ⟨6, (h_isWord s (a0) v_1 s_1 _ hr_1 (And.intro (fun _ => hK) (fun q => absurd c_2 q)))⟩
  · have hf := mo_neg hf c_2
    obtain ⟨v_3, hr_3, hf⟩ := mo_bind hf
    by_cases c_4 : v_3 = (0 : Int32)
    · have hf := mo_pos hf c_4
      obtain ⟨rfl, rfl⟩ := mo_pair hf
      exact ⟨11, (h_isWord s (a0) v_1 s_1 _ hr_1 (And.intro (fun q => absurd q c_2) (fun _ => (h_in _ (a1) ((0 : Int32)) ((3 : Int32)) v_3 _ hr_3 (And.intro (fun q => absurd c_4 q) (fun _ => hK))))))⟩
    · have hf := mo_neg hf c_4
      obtain ⟨s_5, hr_5, hf⟩ := mo_bind hf
      by_cases c_6 : a1 = (0 : Int32)
      · have hf := mo_pos hf c_6
        obtain ⟨r_7, hr_7, hf⟩ := mo_bind hf
        obtain ⟨v_7, s_7⟩ := r_7
        obtain ⟨rfl, rfl⟩ := mo_pair hf
        exact ⟨17, (h_isWord s (a0) v_1 s_1 _ hr_1 (And.intro (fun q => absurd q c_2) (fun _ => (h_in _ (a1) ((0 : Int32)) ((3 : Int32)) v_3 _ hr_3 (And.intro (fun _ => (h_copies s_1  s_5 _ hr_5 (And.intro (fun q => absurd c_6 q) (fun _ => (h_forceAt s_5 (a0) v_7 s_7 _ hr_7 hK))))) (fun q => absurd c_4 q))))))⟩
      · have hf := mo_neg hf c_6
        by_cases c_8 : a1 = (1 : Int32)
        · have hf := mo_pos hf c_8
          obtain ⟨r_9, hr_9, hf⟩ := mo_bind hf
          obtain ⟨v_9, s_9⟩ := r_9
          by_cases c_10 : v_9 = (0 : Int32)
          · have hf := mo_pos hf c_10
            obtain ⟨rfl, rfl⟩ := mo_pair hf
            exact ⟨22, (h_isWord s (a0) v_1 s_1 _ hr_1 (And.intro (fun q => absurd q c_2) (fun _ => (h_in _ (a1) ((0 : Int32)) ((3 : Int32)) v_3 _ hr_3 (And.intro (fun _ => (h_copies s_1  s_5 _ hr_5 (And.intro (fun _ => (And.intro (fun q => absurd c_8 q) (fun _ => (h_canSay s_5 (a0) v_9 s_9 _ hr_9 (And.intro (fun _ => hK) (fun q => absurd c_10 q)))))) (fun q => absurd c_6 q)))) (fun q => absurd c_4 q))))))⟩
          · have hf := mo_neg hf c_10
            obtain ⟨rfl, rfl⟩ := mo_pair hf
            exact ⟨23, (h_isWord s (a0) v_1 s_1 _ hr_1 (And.intro (fun q => absurd q c_2) (fun _ => (h_in _ (a1) ((0 : Int32)) ((3 : Int32)) v_3 _ hr_3 (And.intro (fun _ => (h_copies s_1  s_5 _ hr_5 (And.intro (fun _ => (And.intro (fun q => absurd c_8 q) (fun _ => (h_canSay s_5 (a0) v_9 s_9 _ hr_9 (And.intro (fun q => absurd q c_10) (fun _ => hK)))))) (fun q => absurd c_6 q)))) (fun q => absurd c_4 q))))))⟩
        · have hf := mo_neg hf c_8
          obtain ⟨r_11, hr_11, hf⟩ := mo_bind hf
          obtain ⟨v_11, s_11⟩ := r_11
          by_cases c_12 : v_11 = (0 : Int32)
          · have hf := mo_pos hf c_12
            obtain ⟨rfl, rfl⟩ := mo_pair hf
            exact ⟨21, (h_isWord s (a0) v_1 s_1 _ hr_1 (And.intro (fun q => absurd q c_2) (fun _ => (h_in _ (a1) ((0 : Int32)) ((3 : Int32)) v_3 _ hr_3 (And.intro (fun _ => (h_copies s_1  s_5 _ hr_5 (And.intro (fun _ => (And.intro (fun _ => (h_areThere s_5  v_11 s_11 _ hr_11 (And.intro (fun q => absurd c_12 q) (fun _ => hK)))) (fun q => absurd c_8 q))) (fun q => absurd c_6 q)))) (fun q => absurd c_4 q))))))⟩
          · have hf := mo_neg hf c_12
            by_cases c_13 : a1 = (2 : Int32)
            · have hf := mo_pos hf c_13
              obtain ⟨r_14, hr_14, hf⟩ := mo_bind hf
              obtain ⟨v_14, s_14⟩ := r_14
              obtain ⟨rfl, rfl⟩ := mo_pair hf
              exact ⟨27, (h_isWord s (a0) v_1 s_1 _ hr_1 (And.intro (fun q => absurd q c_2) (fun _ => (h_in _ (a1) ((0 : Int32)) ((3 : Int32)) v_3 _ hr_3 (And.intro (fun _ => (h_copies s_1  s_5 _ hr_5 (And.intro (fun _ => (And.intro (fun _ => (h_areThere s_5  v_11 s_11 _ hr_11 (And.intro (fun _ => (And.intro (fun q => absurd c_13 q) (fun _ => (h_pushesOf s_11 (a0) v_14 s_14 _ hr_14 hK)))) (fun q => absurd c_12 q)))) (fun q => absurd c_8 q))) (fun q => absurd c_6 q)))) (fun q => absurd c_4 q))))))⟩
            · have hf := mo_neg hf c_13
              obtain ⟨r_15, hr_15, hf⟩ := mo_bind hf
              obtain ⟨v_15, s_15⟩ := r_15
              by_cases c_16 : v_15 = (0 : Int32)
              · have hf := mo_pos hf c_16
                obtain ⟨rfl, rfl⟩ := mo_pair hf
                exact ⟨28, (h_isWord s (a0) v_1 s_1 _ hr_1 (And.intro (fun q => absurd q c_2) (fun _ => (h_in _ (a1) ((0 : Int32)) ((3 : Int32)) v_3 _ hr_3 (And.intro (fun _ => (h_copies s_1  s_5 _ hr_5 (And.intro (fun _ => (And.intro (fun _ => (h_areThere s_5  v_11 s_11 _ hr_11 (And.intro (fun _ => (And.intro (fun _ => (h_isBarred s_11 (a0) v_15 s_15 _ hr_15 (And.intro (fun _ => hK) (fun q => absurd c_16 q)))) (fun q => absurd c_13 q))) (fun q => absurd c_12 q)))) (fun q => absurd c_8 q))) (fun q => absurd c_6 q)))) (fun q => absurd c_4 q))))))⟩
              · have hf := mo_neg hf c_16
                obtain ⟨rfl, rfl⟩ := mo_pair hf
                exact ⟨29, (h_isWord s (a0) v_1 s_1 _ hr_1 (And.intro (fun q => absurd q c_2) (fun _ => (h_in _ (a1) ((0 : Int32)) ((3 : Int32)) v_3 _ hr_3 (And.intro (fun _ => (h_copies s_1  s_5 _ hr_5 (And.intro (fun _ => (And.intro (fun _ => (h_areThere s_5  v_11 s_11 _ hr_11 (And.intro (fun _ => (And.intro (fun _ => (h_isBarred s_11 (a0) v_15 s_15 _ hr_15 (And.intro (fun q => absurd q c_16) (fun _ => hK)))) (fun q => absurd c_13 q))) (fun q => absurd c_12 q)))) (fun q => absurd c_8 q))) (fun q => absurd c_6 q)))) (fun q => absurd c_4 q))))))⟩
def mk_word (C : mm_C) : Prop := ∀ (s : ms_S) (a0 : Int32) (a1 : Int32) (v : Int32) (s2 : ms_S) (Q : mm_R), mf_word s a0 a1 = some (v, s2) → Q (some (.int v)) (ms_H s2) → C 70 [.ref 0, .int a0, .int a1] (ms_H s) Q
set_option maxRecDepth 100000 in
theorem mt_word (B : mm_C) (d : Nat) : mk_word (mm_ct B mm_Mk mm_Fk mm_PC (d + 5)) := fun s a0 a1 v s2 Q hf hK => Or.inr (mb_word (mt_isWord B (d + 2)) (mt_in B (d + 3)) (mt_copies B (d + 3)) (mt_forceAt B (d + 3)) (mt_canSay B (d + 0)) (mt_areThere B (d + 3)) (mt_pushesOf B (d + 1)) (mt_isBarred B (d + 1)) s a0 a1 v s2 hf hK)
-- X12_records
noncomputable def mf_records_l6  : (Int32 × ms_S) → Option ((Int32 × ms_S) ⊕ ((ms_S))) := fun (w1, s) =>
(if (468 : Int32) ≤ w1 then
some (.inr (s))
else
((mo_ag 480 (s.2.1 55) (w1 + (12 : Int32))).bind fun x_3 =>
(bif mo_in w1 480 then some (.inl ((w1 + (1 : Int32)), (ms_sA s 55 (upd (s.2.1 55) (w1).toNatClampNeg (x_3))))) else none)))
set_option maxHeartbeats 4000000 in
theorem mb_records_l6 {C : mm_C} {Q : mm_R} (h_keepsRow : mk_keepsRow C)  (t : Int32 × ms_S) (x : (ms_S)) (hl : mo_loop (mf_records_l6 ) t = some x) (hK : (fun sy => mm_go C mm_Mk mm_Fk P_X12_records Q (P_X12_records.drop 21) [(0, .ref 0)] [] (ms_H sy) 0 0) x) : (mo_c2 (fun y1 sy => mm_go C mm_Mk mm_Fk P_X12_records Q (P_X12_records.drop 6) [(0, .ref 0), (1, .int y1)] [] (ms_H sy) 0 0)) t := by
  refine mo_loop_go (G := (mo_c2 (fun y1 sy => mm_go C mm_Mk mm_Fk P_X12_records Q (P_X12_records.drop 6) [(0, .ref 0), (1, .int y1)] [] (ms_H sy) 0 0)) ) (K := (fun sy => mm_go C mm_Mk mm_Fk P_X12_records Q (P_X12_records.drop 21) [(0, .ref 0)] [] (ms_H sy) 0 0) ) ?_ t x hl hK
  intro t r hf hK
  obtain ⟨w1, s⟩ := t
  unfold mf_records_l6 at hf
  by_cases c_2 : (468 : Int32) ≤ w1
  · have hf := mo_pos hf c_2
    obtain rfl := Option.some.inj hf
    refine mm_adv 3 (cs' := P_X12_records.drop 21) (l' := [(0, .ref 0), (1, .int w1)]) (st' := []) (h' := ms_H s) (bc' := 0) (bs' := 0) (fun n g => (And.intro (fun _ => g) (fun q => absurd c_2 q))) ?_
    exact mm_re (c := [(0, .ref 0)]) hK rfl rfl
  · have hf := mo_neg hf c_2
    obtain ⟨x_3, hx_3, hf⟩ := mo_bind hf
    obtain ⟨hi_3, rfl⟩ := mo_ag_inv hx_3
    obtain ⟨hi_4, hf⟩ := mo_if hf
    obtain rfl := Option.some.inj hf
    refine mm_adv 15 (cs' := P_X12_records.drop 6) (l' := [(1, .int (w1 + (1 : Int32))), (0, .ref 0)]) (st' := []) (h' := ms_H (ms_sA s 55 (upd (s.2.1 55) (w1).toNatClampNeg (((s.2.1 55) ((w1 + (12 : Int32))).toNatClampNeg))))) (bc' := 0) (bs' := 0) (fun n g => (And.intro (fun q => absurd q c_2) (fun _ => (And.intro hi_3 (And.intro hi_4 g))))) ?_
    exact mm_re (c := [(0, .ref 0), (1, .int (w1 + (1 : Int32)))]) hK rfl rfl
noncomputable def mf_records_l29  : (Int32 × ms_S) → Option ((Int32 × ms_S) ⊕ ((ms_S))) := fun (w1, s) =>
(if (12 : Int32) ≤ w1 then
some (.inr (s))
else
((mo_ag 12 (s.2.1 47) w1).bind fun x_7 =>
(bif mo_in (((12 : Int32) * (s.1 54)) + w1) 480 then some (.inl ((w1 + (1 : Int32)), (ms_sA s 55 (upd (s.2.1 55) ((((12 : Int32) * (s.1 54)) + w1)).toNatClampNeg (x_7))))) else none)))
set_option maxHeartbeats 4000000 in
theorem mb_records_l29 {C : mm_C} {Q : mm_R} (h_keepsRow : mk_keepsRow C)  (t : Int32 × ms_S) (x : (ms_S)) (hl : mo_loop (mf_records_l29 ) t = some x) (hK : (fun sy => mm_go C mm_Mk mm_Fk P_X12_records Q (P_X12_records.drop 47) [(0, .ref 0)] [] (ms_H sy) 0 0) x) : (mo_c2 (fun y1 sy => mm_go C mm_Mk mm_Fk P_X12_records Q (P_X12_records.drop 29) [(0, .ref 0), (1, .int y1)] [] (ms_H sy) 0 0)) t := by
  refine mo_loop_go (G := (mo_c2 (fun y1 sy => mm_go C mm_Mk mm_Fk P_X12_records Q (P_X12_records.drop 29) [(0, .ref 0), (1, .int y1)] [] (ms_H sy) 0 0)) ) (K := (fun sy => mm_go C mm_Mk mm_Fk P_X12_records Q (P_X12_records.drop 47) [(0, .ref 0)] [] (ms_H sy) 0 0) ) ?_ t x hl hK
  intro t r hf hK
  obtain ⟨w1, s⟩ := t
  unfold mf_records_l29 at hf
  by_cases c_6 : (12 : Int32) ≤ w1
  · have hf := mo_pos hf c_6
    obtain rfl := Option.some.inj hf
    refine mm_adv 3 (cs' := P_X12_records.drop 47) (l' := [(0, .ref 0), (1, .int w1)]) (st' := []) (h' := ms_H s) (bc' := 0) (bs' := 0) (fun n g => (And.intro (fun _ => g) (fun q => absurd c_6 q))) ?_
    exact mm_re (c := [(0, .ref 0)]) hK rfl rfl
  · have hf := mo_neg hf c_6
    obtain ⟨x_7, hx_7, hf⟩ := mo_bind hf
    obtain ⟨hi_7, rfl⟩ := mo_ag_inv hx_7
    obtain ⟨hi_8, hf⟩ := mo_if hf
    obtain rfl := Option.some.inj hf
    refine mm_adv 18 (cs' := P_X12_records.drop 29) (l' := [(1, .int (w1 + (1 : Int32))), (0, .ref 0)]) (st' := []) (h' := ms_H (ms_sA s 55 (upd (s.2.1 55) ((((12 : Int32) * (s.1 54)) + w1)).toNatClampNeg (((s.2.1 47) (w1).toNatClampNeg))))) (bc' := 0) (bs' := 0) (fun n g => (And.intro (fun q => absurd q c_6) (fun _ => (And.intro hi_7 (And.intro hi_8 g))))) ?_
    exact mm_re (c := [(0, .ref 0), (1, .int (w1 + (1 : Int32)))]) hK rfl rfl
noncomputable def mf_records_j27 (s : ms_S)  : Option (ms_S) :=
((mo_loop (mf_records_l29 ) ((0 : Int32), s)).bind fun s_9 =>
((mf_keepsRow (ms_sI s_9 54 (((s_9.1 54) + (1 : Int32)))) ).bind fun s_10 =>
some s_10))
set_option maxHeartbeats 4000000 in
theorem mb_records_j27 {C : mm_C} {Q : mm_R} (h_keepsRow : mk_keepsRow C) (s : ms_S)  (s2 : ms_S) (hf : mf_records_j27 s = some s2) (hK : Q (none) (ms_H s2)) : mm_go C mm_Mk mm_Fk P_X12_records Q (P_X12_records.drop 27) [(0, .ref 0)] [] (ms_H s) 0 0 := by
  unfold mf_records_j27 at hf
  obtain ⟨x_9, hl_9, hf⟩ := mo_bind hf
  refine mm_adv 2 (cs' := P_X12_records.drop 29) (l' := [(1, .int (0 : Int32)), (0, .ref 0)]) (st' := []) (h' := ms_H s) (bc' := 0) (bs' := 0) (fun n g => g) ?_
  refine mm_re (l' := [(0, .ref 0), (1, .int (0 : Int32))]) (c := [(0, .ref 0), (1, .int (0 : Int32))]) ?_ rfl rfl
  refine mb_records_l29 h_keepsRow  ((0 : Int32), s) x_9 hl_9 ?_
  obtain ⟨s_9, rfl⟩ : ∃ q, q = x_9 := ⟨_, rfl⟩
  obtain ⟨s_10, hr_10, hf⟩ := mo_bind hf
  obtain rfl := Option.some.inj hf
  exact ⟨9, (And.intro trivial (h_keepsRow (ms_sI s_9 54 (((s_9.1 54) + (1 : Int32))))  s_10 _ hr_10 hK))⟩
noncomputable def mf_records (s : ms_S)  : Option (ms_S) :=
(if (s.1 54) = (40 : Int32) then
((mo_loop (mf_records_l6 ) ((0 : Int32), s)).bind fun s_5 =>
(mf_records_j27 ((ms_sI s_5 54 (((s_5.1 54) - (1 : Int32)))))))
else
(mf_records_j27 (s)))
set_option maxHeartbeats 4000000 in
theorem mb_records {C : mm_C} {Q : mm_R} (h_keepsRow : mk_keepsRow C) (s : ms_S)  (s2 : ms_S) (hf : mf_records s = some s2) (hK : Q (none) (ms_H s2)) : mm_go C mm_Mk mm_Fk P_X12_records Q P_X12_records [(0, .ref 0)] [] (ms_H s) 0 0 := by
  unfold mf_records at hf
  by_cases c_1 : (s.1 54) = (40 : Int32)
  · have hf := mo_pos hf c_1
    obtain ⟨x_5, hl_5, hf⟩ := mo_bind hf
    refine mm_adv 6 (cs' := P_X12_records.drop 6) (l' := [(1, .int (0 : Int32)), (0, .ref 0)]) (st' := []) (h' := ms_H s) (bc' := 0) (bs' := 0) (fun n g => (And.intro (fun q => absurd c_1 q) (fun _ => g))) ?_
    refine mm_re (l' := [(0, .ref 0), (1, .int (0 : Int32))]) (c := [(0, .ref 0), (1, .int (0 : Int32))]) ?_ rfl rfl
    refine mb_records_l6 h_keepsRow  ((0 : Int32), s) x_5 hl_5 ?_
    obtain ⟨s_5, rfl⟩ : ∃ q, q = x_5 := ⟨_, rfl⟩
    refine mm_adv 6 (cs' := P_X12_records.drop 27) (l' := [(0, .ref 0)]) (st' := []) (h' := ms_H (ms_sI s_5 54 (((s_5.1 54) - (1 : Int32))))) (bc' := 0) (bs' := 0) (fun n g => (And.intro trivial g)) ?_
    refine mm_re (l' := [(0, .ref 0)]) (c := [(0, .ref 0)]) ?_ rfl rfl
    exact mb_records_j27 h_keepsRow (ms_sI s_5 54 (((s_5.1 54) - (1 : Int32)))) _ hf hK
  · have hf := mo_neg hf c_1
    refine mm_adv 4 (cs' := P_X12_records.drop 27) (l' := [(0, .ref 0)]) (st' := []) (h' := ms_H s) (bc' := 0) (bs' := 0) (fun n g => (And.intro (fun _ => g) (fun q => absurd c_1 q))) ?_
    refine mm_re (l' := [(0, .ref 0)]) (c := [(0, .ref 0)]) ?_ rfl rfl
    exact mb_records_j27 h_keepsRow s _ hf hK
def mk_records (C : mm_C) : Prop := ∀ (s : ms_S)  (s2 : ms_S) (Q : mm_R), mf_records s = some s2 → Q (none) (ms_H s2) → C 71 [.ref 0] (ms_H s) Q
set_option maxRecDepth 100000 in
theorem mt_records (B : mm_C) (d : Nat) : mk_records (mm_ct B mm_Mk mm_Fk mm_PC (d + 2)) := fun s s2 Q hf hK => Or.inr (mb_records (mt_keepsRow B (d + 0)) s s2 hf hK)
-- X12_say
noncomputable def mf_say (s : ms_S) (a0 : Int32) : Option (Int32 × ms_S) :=
((mf_copies s ).bind fun s_1 =>
((mf_isWord s_1 (a0)).bind fun (v_2, s_2) =>
(if v_2 = (0 : Int32) then
some ((-1 : Int32), s_2)
else
((mf_canSay s_2 (a0)).bind fun (v_4, s_4) =>
(if v_4 = (0 : Int32) then
some ((-1 : Int32), s_4)
else
((mf_says s_4 (a0)).bind fun s_6 =>
((mf_records s_6 ).bind fun s_7 =>
some ((s_7.2.1 47 0), s_7))))))))
set_option maxHeartbeats 4000000 in
theorem mb_say {C : mm_C} {Q : mm_R} (h_copies : mk_copies C) (h_isWord : mk_isWord C) (h_canSay : mk_canSay C) (h_says : mk_says C) (h_records : mk_records C) (s : ms_S) (a0 : Int32) (v : Int32) (s2 : ms_S) (hf : mf_say s a0 = some (v, s2)) (hK : Q (some (.int v)) (ms_H s2)) : mm_go C mm_Mk mm_Fk P_X12_say Q P_X12_say [(0, .ref 0), (1, .int a0)] [] (ms_H s) 0 0 := by
  unfold mf_say at hf
  obtain ⟨s_1, hr_1, hf⟩ := mo_bind hf
  obtain ⟨r_2, hr_2, hf⟩ := mo_bind hf
  obtain ⟨v_2, s_2⟩ := r_2
  by_cases c_3 : v_2 = (0 : Int32)
  · have hf := mo_pos hf c_3
    obtain ⟨rfl, rfl⟩ := mo_pair hf
    exact ⟨8, (h_copies s  s_1 _ hr_1 (h_isWord s_1 (a0) v_2 s_2 _ hr_2 (And.intro (fun _ => hK) (fun q => absurd c_3 q))))⟩
  · have hf := mo_neg hf c_3
    obtain ⟨r_4, hr_4, hf⟩ := mo_bind hf
    obtain ⟨v_4, s_4⟩ := r_4
    by_cases c_5 : v_4 = (0 : Int32)
    · have hf := mo_pos hf c_5
      obtain ⟨rfl, rfl⟩ := mo_pair hf
      exact ⟨12, (h_copies s  s_1 _ hr_1 (h_isWord s_1 (a0) v_2 s_2 _ hr_2 (And.intro (fun q => absurd q c_3) (fun _ => (h_canSay s_2 (a0) v_4 s_4 _ hr_4 (And.intro (fun q => absurd c_5 q) (fun _ => hK)))))))⟩
    · have hf := mo_neg hf c_5
      obtain ⟨s_6, hr_6, hf⟩ := mo_bind hf
      obtain ⟨s_7, hr_7, hf⟩ := mo_bind hf
      obtain ⟨rfl, rfl⟩ := mo_pair hf
      exact ⟨20, (h_copies s  s_1 _ hr_1 (h_isWord s_1 (a0) v_2 s_2 _ hr_2 (And.intro (fun q => absurd q c_3) (fun _ => (h_canSay s_2 (a0) v_4 s_4 _ hr_4 (And.intro (fun _ => (h_says s_4 (a0) s_6 _ hr_6 (h_records s_6  s_7 _ hr_7 (And.intro (mm_vi rfl) hK)))) (fun q => absurd c_5 q)))))))⟩
def mk_say (C : mm_C) : Prop := ∀ (s : ms_S) (a0 : Int32) (v : Int32) (s2 : ms_S) (Q : mm_R), mf_say s a0 = some (v, s2) → Q (some (.int v)) (ms_H s2) → C 72 [.ref 0, .int a0] (ms_H s) Q
set_option maxRecDepth 100000 in
theorem mt_say (B : mm_C) (d : Nat) : mk_say (mm_ct B mm_Mk mm_Fk mm_PC (d + 5)) := fun s a0 v s2 Q hf hK => Or.inr (mb_say (mt_copies B (d + 3)) (mt_isWord B (d + 2)) (mt_canSay B (d + 0)) (mt_says B (d + 0)) (mt_records B (d + 2)) s a0 v s2 hf hK)
