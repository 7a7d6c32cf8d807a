/-! the reference, method by method, 7 -/
-- X12_evens
noncomputable def mf_evens_j18 (s : ms_S) (v1 : Int32) (v2 : Int32) (k0 : Int32) (k1 : Int32) : Option ((Int32 × ms_S) ⊕ ((ms_S))) :=
(bif mo_in k1 294 then some (.inl ((v2 + (1 : Int32)), (ms_sA s 56 (upd (s.2.1 56) (k1).toNatClampNeg (k0))))) else none)
set_option maxHeartbeats 4000000 in
theorem mb_evens_j18 {C : mm_C} {Q : mm_R} (h_isCalm : mk_isCalm C) (h_off : mk_off C) (h_isStanding : mk_isStanding C) (h_keepsMore : mk_keepsMore C) (s : ms_S) (v1 : Int32) (v2 : Int32) (k0 : Int32) (k1 : Int32) (r : (Int32 × ms_S) ⊕ ((ms_S))) (hf : mf_evens_j18 s v1 v2 k0 k1 = some r) (hK : mo_sum (mo_c2 (fun y2 sy => mm_go C mm_Mk mm_Fk P_X12_evens Q (P_X12_evens.drop 2) [(0, .ref 0), (1, .int v1), (2, .int y2)] [] (ms_H sy) 0 0))  (fun sy => mm_go C mm_Mk mm_Fk P_X12_evens Q (P_X12_evens.drop 21) [(0, .ref 0), (1, .int v1)] [] (ms_H sy) 0 0)  r) : mm_go C mm_Mk mm_Fk P_X12_evens Q (P_X12_evens.drop 18) [(0, .ref 0), (1, .int v1), (2, .int v2)] [.int k0, .int k1, .ref 36] (ms_H s) 0 0 := by
  unfold mf_evens_j18 at hf
  obtain ⟨hi_4, hf⟩ := mo_if hf
  obtain rfl := Option.some.inj hf
  refine mm_adv 3 (cs' := P_X12_evens.drop 2) (l' := [(2, .int (v2 + (1 : Int32))), (0, .ref 0), (1, .int v1)]) (st' := []) (h' := ms_H (ms_sA s 56 (upd (s.2.1 56) (k1).toNatClampNeg (k0)))) (bc' := 0) (bs' := 0) (fun n g => (And.intro hi_4 g)) ?_
  exact mm_re (c := [(0, .ref 0), (1, .int v1), (2, .int (v2 + (1 : Int32)))]) hK rfl rfl
noncomputable def mf_evens_l2 (v1 : Int32) : (Int32 × ms_S) → Option ((Int32 × ms_S) ⊕ ((ms_S))) := fun (w2, s) =>
(if (294 : Int32) ≤ w2 then
some (.inr (s))
else
((mf_isCalm (w2)).bind fun v_2 =>
(if v_2 = (0 : Int32) then
(mf_evens_j18 (s) (v1) (w2) ((1000 : Int32)) (w2))
else
((mf_off ((w2 / (14 : Int32))) ((10 : Int32))).bind fun v_5 =>
(mf_evens_j18 (s) (v1) (w2) (v_5) (w2))))))
set_option maxHeartbeats 4000000 in
theorem mb_evens_l2 {C : mm_C} {Q : mm_R} (h_isCalm : mk_isCalm C) (h_off : mk_off C) (h_isStanding : mk_isStanding C) (h_keepsMore : mk_keepsMore C) (v1 : Int32) (t : Int32 × ms_S) (x : (ms_S)) (hl : mo_loop (mf_evens_l2 v1) t = some x) (hK : (fun sy => mm_go C mm_Mk mm_Fk P_X12_evens Q (P_X12_evens.drop 21) [(0, .ref 0), (1, .int v1)] [] (ms_H sy) 0 0) x) : (mo_c2 (fun y2 sy => mm_go C mm_Mk mm_Fk P_X12_evens Q (P_X12_evens.drop 2) [(0, .ref 0), (1, .int v1), (2, .int y2)] [] (ms_H sy) 0 0)) t := by
  refine mo_loop_go (G := (mo_c2 (fun y2 sy => mm_go C mm_Mk mm_Fk P_X12_evens Q (P_X12_evens.drop 2) [(0, .ref 0), (1, .int v1), (2, .int y2)] [] (ms_H sy) 0 0)) ) (K := (fun sy => mm_go C mm_Mk mm_Fk P_X12_evens Q (P_X12_evens.drop 21) [(0, .ref 0), (1, .int v1)] [] (ms_H sy) 0 0) ) ?_ t x hl hK
  intro t r hf hK
  obtain ⟨w2, s⟩ := t
  unfold mf_evens_l2 at hf
  by_cases c_1 : (294 : Int32) ≤ w2
  · have hf := mo_pos hf c_1
    obtain rfl := Option.some.inj hf
    refine mm_adv 3 (cs' := P_X12_evens.drop 21) (l' := [(0, .ref 0), (1, .int v1), (2, .int w2)]) (st' := []) (h' := ms_H s) (bc' := 0) (bs' := 0) (fun n g => (And.intro (fun _ => g) (fun q => absurd c_1 q))) ?_
    exact mm_re (c := [(0, .ref 0), (1, .int v1)]) hK rfl rfl
  · have hf := mo_neg hf c_1
    obtain ⟨v_2, hr_2, hf⟩ := mo_bind hf
    by_cases c_3 : v_2 = (0 : Int32)
    · have hf := mo_pos hf c_3
      refine mm_adv 10 (cs' := P_X12_evens.drop 18) (l' := [(0, .ref 0), (1, .int v1), (2, .int w2)]) (st' := [.int (1000 : Int32), .int w2, .ref 36]) (h' := ms_H s) (bc' := 0) (bs' := 0) (fun n g => (And.intro (fun q => absurd q c_1) (fun _ => (h_isCalm _ (w2) v_2 _ hr_2 (And.intro (fun _ => g) (fun q => absurd c_3 q)))))) ?_
      refine mm_re (l' := [(0, .ref 0), (1, .int v1), (2, .int w2)]) (c := [(0, .ref 0), (1, .int v1), (2, .int w2)]) ?_ rfl rfl
      exact mb_evens_j18 h_isCalm h_off h_isStanding h_keepsMore s (v1) (w2) ((1000 : Int32)) (w2) _ hf hK
    · have hf := mo_neg hf c_3
      obtain ⟨v_5, hr_5, hf⟩ := mo_bind hf
      refine mm_adv 15 (cs' := P_X12_evens.drop 18) (l' := [(0, .ref 0), (1, .int v1), (2, .int w2)]) (st' := [.int v_5, .int w2, .ref 36]) (h' := ms_H s) (bc' := 0) (bs' := 0) (fun n g => (And.intro (fun q => absurd q c_1) (fun _ => (h_isCalm _ (w2) v_2 _ hr_2 (And.intro (fun q => absurd q c_3) (fun _ => (And.intro (by decide) (h_off _ ((w2 / (14 : Int32))) ((10 : Int32)) v_5 _ hr_5 g)))))))) ?_
      refine mm_re (l' := [(0, .ref 0), (1, .int v1), (2, .int w2)]) (c := [(0, .ref 0), (1, .int v1), (2, .int w2)]) ?_ rfl rfl
      exact mb_evens_j18 h_isCalm h_off h_isStanding h_keepsMore s (v1) (w2) (v_5) (w2) _ hf hK
noncomputable def mf_evens_j76 (s : ms_S) (v1 : Int32) (v2 : Int32) (v3 : Int32) (v4 : Int32) (v5 : Int32) : Option ((Int32 × Int32 × ms_S) ⊕ ((Int32 × ms_S))) :=
some (.inl (v4, (v5 + (1 : Int32)), s))
set_option maxHeartbeats 4000000 in
theorem mb_evens_j76 {C : mm_C} {Q : mm_R} (h_isCalm : mk_isCalm C) (h_off : mk_off C) (h_isStanding : mk_isStanding C) (h_keepsMore : mk_keepsMore C) (s : ms_S) (v1 : Int32) (v2 : Int32) (v3 : Int32) (v4 : Int32) (v5 : Int32) (r : (Int32 × Int32 × ms_S) ⊕ ((Int32 × ms_S))) (hf : mf_evens_j76 s v1 v2 v3 v4 v5 = some r) (hK : mo_sum (mo_c2 (fun y4 => (mo_c2 (fun y5 sy => mm_go C mm_Mk mm_Fk P_X12_evens Q (P_X12_evens.drop 35) [(0, .ref 0), (1, .int v1), (2, .int v2), (3, .int v3), (4, .int y4), (5, .int y5)] [] (ms_H sy) 0 0))))  (mo_c2 (fun y4 sy => mm_go C mm_Mk mm_Fk P_X12_evens Q (P_X12_evens.drop 78) [(0, .ref 0), (1, .int v1), (2, .int v2), (3, .int v3), (4, .int y4)] [] (ms_H sy) 0 0))  r) : mm_go C mm_Mk mm_Fk P_X12_evens Q (P_X12_evens.drop 76) [(0, .ref 0), (1, .int v1), (2, .int v2), (3, .int v3), (4, .int v4), (5, .int v5)] [] (ms_H s) 0 0 := by
  unfold mf_evens_j76 at hf
  obtain rfl := Option.some.inj hf
  refine mm_adv 2 (cs' := P_X12_evens.drop 35) (l' := [(5, .int (v5 + (1 : Int32))), (0, .ref 0), (1, .int v1), (2, .int v2), (3, .int v3), (4, .int v4)]) (st' := []) (h' := ms_H s) (bc' := 0) (bs' := 0) (fun n g => g) ?_
  exact mm_re (c := [(0, .ref 0), (1, .int v1), (2, .int v2), (3, .int v3), (4, .int v4), (5, .int (v5 + (1 : Int32)))]) hK rfl rfl
noncomputable def mf_evens_l35 (v1 : Int32) (v2 : Int32) (v3 : Int32) : (Int32 × Int32 × ms_S) → Option ((Int32 × Int32 × ms_S) ⊕ ((Int32 × ms_S))) := fun (w4, w5, s) =>
(if (7 : Int32) ≤ w5 then
some (.inr (w4, s))
else
((mf_isStanding s (v3)).bind fun (v_10, s_10) =>
(if v_10 = (0 : Int32) then
some (.inr (w4, s_10))
else
((mo_ag 2058 (s_10.2.1 51) (((7 : Int32) * v3) + w5)).bind fun x_12 =>
(if x_12 < (0 : Int32) then
(mf_evens_j76 (s_10) (v1) (v2) (v3) (w4) (w5))
else
((mo_ag 2058 (s_10.2.1 51) (((7 : Int32) * v3) + w5)).bind fun x_14 =>
((mo_ag 294 (s_10.2.1 56) x_14).bind fun x_15 =>
(if w4 ≤ x_15 then
(mf_evens_j76 (s_10) (v1) (v2) (v3) (w4) (w5))
else
((mo_ag 2058 (s_10.2.1 51) (((7 : Int32) * v3) + w5)).bind fun x_17 =>
((mo_ag 294 (s_10.2.1 56) x_17).bind fun x_18 =>
(mf_evens_j76 (s_10) (v1) (v2) (v3) (x_18) (w5))))))))))))
set_option maxHeartbeats 4000000 in
theorem mb_evens_l35 {C : mm_C} {Q : mm_R} (h_isCalm : mk_isCalm C) (h_off : mk_off C) (h_isStanding : mk_isStanding C) (h_keepsMore : mk_keepsMore C) (v1 : Int32) (v2 : Int32) (v3 : Int32) (t : Int32 × Int32 × ms_S) (x : (Int32 × ms_S)) (hl : mo_loop (mf_evens_l35 v1 v2 v3) t = some x) (hK : (mo_c2 (fun y4 sy => mm_go C mm_Mk mm_Fk P_X12_evens Q (P_X12_evens.drop 78) [(0, .ref 0), (1, .int v1), (2, .int v2), (3, .int v3), (4, .int y4)] [] (ms_H sy) 0 0)) x) : (mo_c2 (fun y4 => (mo_c2 (fun y5 sy => mm_go C mm_Mk mm_Fk P_X12_evens Q (P_X12_evens.drop 35) [(0, .ref 0), (1, .int v1), (2, .int v2), (3, .int v3), (4, .int y4), (5, .int y5)] [] (ms_H sy) 0 0)))) t := by
  refine mo_loop_go (G := (mo_c2 (fun y4 => (mo_c2 (fun y5 sy => mm_go C mm_Mk mm_Fk P_X12_evens Q (P_X12_evens.drop 35) [(0, .ref 0), (1, .int v1), (2, .int v2), (3, .int v3), (4, .int y4), (5, .int y5)] [] (ms_H sy) 0 0)))) ) (K := (mo_c2 (fun y4 sy => mm_go C mm_Mk mm_Fk P_X12_evens Q (P_X12_evens.drop 78) [(0, .ref 0), (1, .int v1), (2, .int v2), (3, .int v3), (4, .int y4)] [] (ms_H sy) 0 0)) ) ?_ t x hl hK
  intro t r hf hK
  obtain ⟨w4, w5, s⟩ := t
  unfold mf_evens_l35 at hf
  by_cases c_9 : (7 : Int32) ≤ w5
  · have hf := mo_pos hf c_9
    obtain rfl := Option.some.inj hf
    refine mm_adv 3 (cs' := P_X12_evens.drop 78) (l' := [(0, .ref 0), (1, .int v1), (2, .int v2), (3, .int v3), (4, .int w4), (5, .int w5)]) (st' := []) (h' := ms_H s) (bc' := 0) (bs' := 0) (fun n g => (And.intro (fun _ => g) (fun q => absurd c_9 q))) ?_
    exact mm_re (c := [(0, .ref 0), (1, .int v1), (2, .int v2), (3, .int v3), (4, .int w4)]) hK rfl rfl
  · have hf := mo_neg hf c_9
    obtain ⟨r_10, hr_10, hf⟩ := mo_bind hf
    obtain ⟨v_10, s_10⟩ := r_10
    by_cases c_11 : v_10 = (0 : Int32)
    · have hf := mo_pos hf c_11
      obtain rfl := Option.some.inj hf
      refine mm_adv 7 (cs' := P_X12_evens.drop 78) (l' := [(0, .ref 0), (1, .int v1), (2, .int v2), (3, .int v3), (4, .int w4), (5, .int w5)]) (st' := []) (h' := ms_H s_10) (bc' := 0) (bs' := 0) (fun n g => (And.intro (fun q => absurd q c_9) (fun _ => (h_isStanding s (v3) v_10 s_10 _ hr_10 (And.intro (fun _ => g) (fun q => absurd c_11 q)))))) ?_
      exact mm_re (c := [(0, .ref 0), (1, .int v1), (2, .int v2), (3, .int v3), (4, .int w4)]) hK rfl rfl
    · have hf := mo_neg hf c_11
      obtain ⟨x_12, hx_12, hf⟩ := mo_bind hf
      obtain ⟨hi_12, rfl⟩ := mo_ag_inv hx_12
      by_cases c_13 : ((s_10.2.1 51) ((((7 : Int32) * v3) + w5)).toNatClampNeg) < (0 : Int32)
      · have hf := mo_pos hf c_13
        refine mm_adv 16 (cs' := P_X12_evens.drop 76) (l' := [(0, .ref 0), (1, .int v1), (2, .int v2), (3, .int v3), (4, .int w4), (5, .int w5)]) (st' := []) (h' := ms_H s_10) (bc' := 0) (bs' := 0) (fun n g => (And.intro (fun q => absurd q c_9) (fun _ => (h_isStanding s (v3) v_10 s_10 _ hr_10 (And.intro (fun q => absurd q c_11) (fun _ => (And.intro hi_12 (And.intro (fun _ => g) (fun q => absurd c_13 q))))))))) ?_
        refine mm_re (l' := [(0, .ref 0), (1, .int v1), (2, .int v2), (3, .int v3), (4, .int w4), (5, .int w5)]) (c := [(0, .ref 0), (1, .int v1), (2, .int v2), (3, .int v3), (4, .int w4), (5, .int w5)]) ?_ rfl rfl
        exact mb_evens_j76 h_isCalm h_off h_isStanding h_keepsMore s_10 (v1) (v2) (v3) (w4) (w5) _ hf hK
      · have hf := mo_neg hf c_13
        obtain ⟨x_14, hx_14, hf⟩ := mo_bind hf
        obtain ⟨hi_14, rfl⟩ := mo_ag_inv hx_14
        obtain ⟨x_15, hx_15, hf⟩ := mo_bind hf
        obtain ⟨hi_15, rfl⟩ := mo_ag_inv hx_15
        by_cases c_16 : w4 ≤ ((s_10.2.1 56) (((s_10.2.1 51) ((((7 : Int32) * v3) + w5)).toNatClampNeg)).toNatClampNeg)
        · have hf := mo_pos hf c_16
          refine mm_adv 29 (cs' := P_X12_evens.drop 76) (l' := [(0, .ref 0), (1, .int v1), (2, .int v2), (3, .int v3), (4, .int w4), (5, .int w5)]) (st' := []) (h' := ms_H s_10) (bc' := 0) (bs' := 0) (fun n g => (And.intro (fun q => absurd q c_9) (fun _ => (h_isStanding s (v3) v_10 s_10 _ hr_10 (And.intro (fun q => absurd q c_11) (fun _ => (And.intro hi_12 (And.intro (fun q => absurd q c_13) (fun _ => (And.intro hi_14 (And.intro hi_15 (And.intro (fun _ => g) (fun q => absurd c_16 q))))))))))))) ?_
          refine mm_re (l' := [(0, .ref 0), (1, .int v1), (2, .int v2), (3, .int v3), (4, .int w4), (5, .int w5)]) (c := [(0, .ref 0), (1, .int v1), (2, .int v2), (3, .int v3), (4, .int w4), (5, .int w5)]) ?_ rfl rfl
          exact mb_evens_j76 h_isCalm h_off h_isStanding h_keepsMore s_10 (v1) (v2) (v3) (w4) (w5) _ hf hK
        · have hf := mo_neg hf c_16
          obtain ⟨x_17, hx_17, hf⟩ := mo_bind hf
          obtain ⟨hi_17, rfl⟩ := mo_ag_inv hx_17
          obtain ⟨x_18, hx_18, hf⟩ := mo_bind hf
          obtain ⟨hi_18, rfl⟩ := mo_ag_inv hx_18
          refine mm_adv 41 (cs' := P_X12_evens.drop 76) (l' := [(4, .int ((s_10.2.1 56) (((s_10.2.1 51) ((((7 : Int32) * v3) + w5)).toNatClampNeg)).toNatClampNeg)), (0, .ref 0), (1, .int v1), (2, .int v2), (3, .int v3), (5, .int w5)]) (st' := []) (h' := ms_H s_10) (bc' := 0) (bs' := 0) (fun n g => (And.intro (fun q => absurd q c_9) (fun _ => (h_isStanding s (v3) v_10 s_10 _ hr_10 (And.intro (fun q => absurd q c_11) (fun _ => (And.intro hi_12 (And.intro (fun q => absurd q c_13) (fun _ => (And.intro hi_14 (And.intro hi_15 (And.intro (fun q => absurd q c_16) (fun _ => (And.intro hi_17 (And.intro hi_18 g))))))))))))))) ?_
          refine mm_re (l' := [(0, .ref 0), (1, .int v1), (2, .int v2), (3, .int v3), (4, .int ((s_10.2.1 56) (((s_10.2.1 51) ((((7 : Int32) * v3) + w5)).toNatClampNeg)).toNatClampNeg)), (5, .int w5)]) (c := [(0, .ref 0), (1, .int v1), (2, .int v2), (3, .int v3), (4, .int ((s_10.2.1 56) (((s_10.2.1 51) ((((7 : Int32) * v3) + w5)).toNatClampNeg)).toNatClampNeg)), (5, .int w5)]) ?_ rfl rfl
          exact mb_evens_j76 h_isCalm h_off h_isStanding h_keepsMore s_10 (v1) (v2) (v3) (((s_10.2.1 56) (((s_10.2.1 51) ((((7 : Int32) * v3) + w5)).toNatClampNeg)).toNatClampNeg)) (w5) _ hf hK
noncomputable def mf_evens_j95 (s : ms_S) (v1 : Int32) (v2 : Int32) (v3 : Int32) (k0 : Int32) (k1 : Int32) : Option ((Int32 × ms_S) ⊕ ((ms_S))) :=
(bif mo_in k1 294 then some (.inl ((v3 + (1 : Int32)), (ms_sA s 57 (upd (s.2.1 57) (k1).toNatClampNeg (k0))))) else none)
set_option maxHeartbeats 4000000 in
theorem mb_evens_j95 {C : mm_C} {Q : mm_R} (h_isCalm : mk_isCalm C) (h_off : mk_off C) (h_isStanding : mk_isStanding C) (h_keepsMore : mk_keepsMore C) (s : ms_S) (v1 : Int32) (v2 : Int32) (v3 : Int32) (k0 : Int32) (k1 : Int32) (r : (Int32 × ms_S) ⊕ ((ms_S))) (hf : mf_evens_j95 s v1 v2 v3 k0 k1 = some r) (hK : mo_sum (mo_c2 (fun y3 sy => mm_go C mm_Mk mm_Fk P_X12_evens Q (P_X12_evens.drop 28) [(0, .ref 0), (1, .int v1), (2, .int v2), (3, .int y3)] [] (ms_H sy) 0 0))  (fun sy => mm_go C mm_Mk mm_Fk P_X12_evens Q (P_X12_evens.drop 98) [(0, .ref 0), (1, .int v1), (2, .int v2)] [] (ms_H sy) 0 0)  r) : mm_go C mm_Mk mm_Fk P_X12_evens Q (P_X12_evens.drop 95) [(0, .ref 0), (1, .int v1), (2, .int v2), (3, .int v3)] [.int k0, .int k1, .ref 37] (ms_H s) 0 0 := by
  unfold mf_evens_j95 at hf
  obtain ⟨hi_22, hf⟩ := mo_if hf
  obtain rfl := Option.some.inj hf
  refine mm_adv 3 (cs' := P_X12_evens.drop 28) (l' := [(3, .int (v3 + (1 : Int32))), (0, .ref 0), (1, .int v1), (2, .int v2)]) (st' := []) (h' := ms_H (ms_sA s 57 (upd (s.2.1 57) (k1).toNatClampNeg (k0)))) (bc' := 0) (bs' := 0) (fun n g => (And.intro hi_22 g)) ?_
  exact mm_re (c := [(0, .ref 0), (1, .int v1), (2, .int v2), (3, .int (v3 + (1 : Int32)))]) hK rfl rfl
noncomputable def mf_evens_j78 (s : ms_S) (v1 : Int32) (v2 : Int32) (v3 : Int32) (v4 : Int32) : Option ((Int32 × ms_S) ⊕ ((ms_S))) :=
((mf_off ((v3 / (14 : Int32))) ((10 : Int32))).bind fun v_20 =>
(if v_20 ≤ v4 then
(mf_evens_j95 (s) (v1) (v2) (v3) (v4) (v3))
else
((mf_off ((v3 / (14 : Int32))) ((10 : Int32))).bind fun v_23 =>
(mf_evens_j95 (s) (v1) (v2) (v3) (v_23) (v3)))))
set_option maxHeartbeats 4000000 in
theorem mb_evens_j78 {C : mm_C} {Q : mm_R} (h_isCalm : mk_isCalm C) (h_off : mk_off C) (h_isStanding : mk_isStanding C) (h_keepsMore : mk_keepsMore C) (s : ms_S) (v1 : Int32) (v2 : Int32) (v3 : Int32) (v4 : Int32) (r : (Int32 × ms_S) ⊕ ((ms_S))) (hf : mf_evens_j78 s v1 v2 v3 v4 = some r) (hK : mo_sum (mo_c2 (fun y3 sy => mm_go C mm_Mk mm_Fk P_X12_evens Q (P_X12_evens.drop 28) [(0, .ref 0), (1, .int v1), (2, .int v2), (3, .int y3)] [] (ms_H sy) 0 0))  (fun sy => mm_go C mm_Mk mm_Fk P_X12_evens Q (P_X12_evens.drop 98) [(0, .ref 0), (1, .int v1), (2, .int v2)] [] (ms_H sy) 0 0)  r) : mm_go C mm_Mk mm_Fk P_X12_evens Q (P_X12_evens.drop 78) [(0, .ref 0), (1, .int v1), (2, .int v2), (3, .int v3), (4, .int v4)] [] (ms_H s) 0 0 := by
  unfold mf_evens_j78 at hf
  obtain ⟨v_20, hr_20, hf⟩ := mo_bind hf
  by_cases c_21 : v_20 ≤ v4
  · have hf := mo_pos hf c_21
    refine mm_adv 11 (cs' := P_X12_evens.drop 95) (l' := [(0, .ref 0), (1, .int v1), (2, .int v2), (3, .int v3), (4, .int v4)]) (st' := [.int v4, .int v3, .ref 37]) (h' := ms_H s) (bc' := 0) (bs' := 0) (fun n g => (And.intro (by decide) (h_off _ ((v3 / (14 : Int32))) ((10 : Int32)) v_20 _ hr_20 (And.intro (fun _ => g) (fun q => absurd c_21 q))))) ?_
    refine mm_re (l' := [(0, .ref 0), (1, .int v1), (2, .int v2), (3, .int v3)]) (c := [(0, .ref 0), (1, .int v1), (2, .int v2), (3, .int v3)]) ?_ rfl rfl
    exact mb_evens_j95 h_isCalm h_off h_isStanding h_keepsMore s (v1) (v2) (v3) (v4) (v3) _ hf hK
  · have hf := mo_neg hf c_21
    obtain ⟨v_23, hr_23, hf⟩ := mo_bind hf
    refine mm_adv 16 (cs' := P_X12_evens.drop 95) (l' := [(0, .ref 0), (1, .int v1), (2, .int v2), (3, .int v3), (4, .int v4)]) (st' := [.int v_23, .int v3, .ref 37]) (h' := ms_H s) (bc' := 0) (bs' := 0) (fun n g => (And.intro (by decide) (h_off _ ((v3 / (14 : Int32))) ((10 : Int32)) v_20 _ hr_20 (And.intro (fun q => absurd q c_21) (fun _ => (And.intro (by decide) (h_off _ ((v3 / (14 : Int32))) ((10 : Int32)) v_23 _ hr_23 g))))))) ?_
    refine mm_re (l' := [(0, .ref 0), (1, .int v1), (2, .int v2), (3, .int v3)]) (c := [(0, .ref 0), (1, .int v1), (2, .int v2), (3, .int v3)]) ?_ rfl rfl
    exact mb_evens_j95 h_isCalm h_off h_isStanding h_keepsMore s (v1) (v2) (v3) (v_23) (v3) _ hf hK
noncomputable def mf_evens_l28 (v1 : Int32) (v2 : Int32) : (Int32 × ms_S) → Option ((Int32 × ms_S) ⊕ ((ms_S))) := fun (w3, s) =>
(if (294 : Int32) ≤ w3 then
some (.inr (s))
else
((mo_loop (mf_evens_l35 (v1) (v2) (w3)) ((1000 : Int32), (0 : Int32), s)).bind fun (e4_19, s_19) =>
(mf_evens_j78 (s_19) (v1) (v2) (w3) (e4_19))))
set_option maxHeartbeats 4000000 in
theorem mb_evens_l28 {C : mm_C} {Q : mm_R} (h_isCalm : mk_isCalm C) (h_off : mk_off C) (h_isStanding : mk_isStanding C) (h_keepsMore : mk_keepsMore C) (v1 : Int32) (v2 : Int32) (t : Int32 × ms_S) (x : (ms_S)) (hl : mo_loop (mf_evens_l28 v1 v2) t = some x) (hK : (fun sy => mm_go C mm_Mk mm_Fk P_X12_evens Q (P_X12_evens.drop 98) [(0, .ref 0), (1, .int v1), (2, .int v2)] [] (ms_H sy) 0 0) x) : (mo_c2 (fun y3 sy => mm_go C mm_Mk mm_Fk P_X12_evens Q (P_X12_evens.drop 28) [(0, .ref 0), (1, .int v1), (2, .int v2), (3, .int y3)] [] (ms_H sy) 0 0)) t := by
  refine mo_loop_go (G := (mo_c2 (fun y3 sy => mm_go C mm_Mk mm_Fk P_X12_evens Q (P_X12_evens.drop 28) [(0, .ref 0), (1, .int v1), (2, .int v2), (3, .int y3)] [] (ms_H sy) 0 0)) ) (K := (fun sy => mm_go C mm_Mk mm_Fk P_X12_evens Q (P_X12_evens.drop 98) [(0, .ref 0), (1, .int v1), (2, .int v2)] [] (ms_H sy) 0 0) ) ?_ t x hl hK
  intro t r hf hK
  obtain ⟨w3, s⟩ := t
  unfold mf_evens_l28 at hf
  by_cases c_8 : (294 : Int32) ≤ w3
  · have hf := mo_pos hf c_8
    obtain rfl := Option.some.inj hf
    refine mm_adv 3 (cs' := P_X12_evens.drop 98) (l' := [(0, .ref 0), (1, .int v1), (2, .int v2), (3, .int w3)]) (st' := []) (h' := ms_H s) (bc' := 0) (bs' := 0) (fun n g => (And.intro (fun _ => g) (fun q => absurd c_8 q))) ?_
    exact mm_re (c := [(0, .ref 0), (1, .int v1), (2, .int v2)]) hK rfl rfl
  · have hf := mo_neg hf c_8
    obtain ⟨x_19, hl_19, hf⟩ := mo_bind hf
    refine mm_adv 7 (cs' := P_X12_evens.drop 35) (l' := [(5, .int (0 : Int32)), (4, .int (1000 : Int32)), (0, .ref 0), (1, .int v1), (2, .int v2), (3, .int w3)]) (st' := []) (h' := ms_H s) (bc' := 0) (bs' := 0) (fun n g => (And.intro (fun q => absurd q c_8) (fun _ => g))) ?_
    refine mm_re (l' := [(0, .ref 0), (1, .int v1), (2, .int v2), (3, .int w3), (4, .int (1000 : Int32)), (5, .int (0 : Int32))]) (c := [(0, .ref 0), (1, .int v1), (2, .int v2), (3, .int w3), (4, .int (1000 : Int32)), (5, .int (0 : Int32))]) ?_ rfl rfl
    refine mb_evens_l35 h_isCalm h_off h_isStanding h_keepsMore (v1) (v2) (w3) ((1000 : Int32), (0 : Int32), s) x_19 hl_19 ?_
    obtain ⟨e4_19, s_19⟩ := x_19
    refine mm_re (l' := [(0, .ref 0), (1, .int v1), (2, .int v2), (3, .int w3), (4, .int e4_19)]) (c := [(0, .ref 0), (1, .int v1), (2, .int v2), (3, .int w3), (4, .int e4_19)]) ?_ rfl rfl
    exact mb_evens_j78 h_isCalm h_off h_isStanding h_keepsMore s_19 (v1) (v2) (w3) (e4_19) _ hf hK
noncomputable def mf_evens_l23 (v1 : Int32) : (Int32 × ms_S) → Option ((Int32 × ms_S) ⊕ ((ms_S))) := fun (w2, s) =>
(if v1 ≤ w2 then
some (.inr (s))
else
((mo_loop (mf_evens_l28 (v1) (w2)) ((0 : Int32), s)).bind fun s_24 =>
((mf_keepsMore s_24 ).bind fun s_25 =>
some (.inl ((w2 + (1 : Int32)), s_25)))))
set_option maxHeartbeats 4000000 in
theorem mb_evens_l23 {C : mm_C} {Q : mm_R} (h_isCalm : mk_isCalm C) (h_off : mk_off C) (h_isStanding : mk_isStanding C) (h_keepsMore : mk_keepsMore C) (v1 : Int32) (t : Int32 × ms_S) (x : (ms_S)) (hl : mo_loop (mf_evens_l23 v1) t = some x) (hK : (fun sy => mm_go C mm_Mk mm_Fk P_X12_evens Q (P_X12_evens.drop 102) [] [] (ms_H sy) 0 0) x) : (mo_c2 (fun y2 sy => mm_go C mm_Mk mm_Fk P_X12_evens Q (P_X12_evens.drop 23) [(0, .ref 0), (1, .int v1), (2, .int y2)] [] (ms_H sy) 0 0)) t := by
  refine mo_loop_go (G := (mo_c2 (fun y2 sy => mm_go C mm_Mk mm_Fk P_X12_evens Q (P_X12_evens.drop 23) [(0, .ref 0), (1, .int v1), (2, .int y2)] [] (ms_H sy) 0 0)) ) (K := (fun sy => mm_go C mm_Mk mm_Fk P_X12_evens Q (P_X12_evens.drop 102) [] [] (ms_H sy) 0 0) ) ?_ t x hl hK
  intro t r hf hK
  obtain ⟨w2, s⟩ := t
  unfold mf_evens_l23 at hf
  by_cases c_7 : v1 ≤ w2
  · have hf := mo_pos hf c_7
    obtain rfl := Option.some.inj hf
    refine mm_adv 3 (cs' := P_X12_evens.drop 102) (l' := [(0, .ref 0), (1, .int v1), (2, .int w2)]) (st' := []) (h' := ms_H s) (bc' := 0) (bs' := 0) (fun n g => (And.intro (fun _ => g) (fun q => absurd c_7 q))) ?_
    exact mm_re (c := []) hK rfl rfl
  · have hf := mo_neg hf c_7
    obtain ⟨x_24, hl_24, hf⟩ := mo_bind hf
    refine mm_adv 5 (cs' := P_X12_evens.drop 28) (l' := [(3, .int (0 : Int32)), (0, .ref 0), (1, .int v1), (2, .int w2)]) (st' := []) (h' := ms_H s) (bc' := 0) (bs' := 0) (fun n g => (And.intro (fun q => absurd q c_7) (fun _ => g))) ?_
    refine mm_re (l' := [(0, .ref 0), (1, .int v1), (2, .int w2), (3, .int (0 : Int32))]) (c := [(0, .ref 0), (1, .int v1), (2, .int w2), (3, .int (0 : Int32))]) ?_ rfl rfl
    refine mb_evens_l28 h_isCalm h_off h_isStanding h_keepsMore (v1) (w2) ((0 : Int32), s) x_24 hl_24 ?_
    obtain ⟨s_24, rfl⟩ : ∃ q, q = x_24 := ⟨_, rfl⟩
    obtain ⟨s_25, hr_25, hf⟩ := mo_bind hf
    obtain rfl := Option.some.inj hf
    refine mm_adv 4 (cs' := P_X12_evens.drop 23) (l' := [(2, .int (w2 + (1 : Int32))), (0, .ref 0), (1, .int v1)]) (st' := []) (h' := ms_H s_25) (bc' := 0) (bs' := 0) (fun n g => (h_keepsMore s_24  s_25 _ hr_25 g)) ?_
    exact mm_re (c := [(0, .ref 0), (1, .int v1), (2, .int (w2 + (1 : Int32)))]) hK rfl rfl
noncomputable def mf_evens (s : ms_S) (a0 : Int32) : Option (ms_S) :=
((mo_loop (mf_evens_l2 (a0)) ((0 : Int32), s)).bind fun s_6 =>
((mo_loop (mf_evens_l23 (a0)) ((0 : Int32), s_6)).bind fun s_26 =>
some s_26))
set_option maxHeartbeats 4000000 in
theorem mb_evens {C : mm_C} {Q : mm_R} (h_isCalm : mk_isCalm C) (h_off : mk_off C) (h_isStanding : mk_isStanding C) (h_keepsMore : mk_keepsMore C) (s : ms_S) (a0 : Int32) (s2 : ms_S) (hf : mf_evens s a0 = some s2) (hK : Q (none) (ms_H s2)) : mm_go C mm_Mk mm_Fk P_X12_evens Q P_X12_evens [(0, .ref 0), (1, .int a0)] [] (ms_H s) 0 0 := by
  unfold mf_evens at hf
  obtain ⟨x_6, hl_6, hf⟩ := mo_bind hf
  refine mm_adv 2 (cs' := P_X12_evens.drop 2) (l' := [(2, .int (0 : Int32)), (0, .ref 0), (1, .int a0)]) (st' := []) (h' := ms_H s) (bc' := 0) (bs' := 0) (fun n g => g) ?_
  refine mm_re (l' := [(0, .ref 0), (1, .int a0), (2, .int (0 : Int32))]) (c := [(0, .ref 0), (1, .int a0), (2, .int (0 : Int32))]) ?_ rfl rfl
  refine mb_evens_l2 h_isCalm h_off h_isStanding h_keepsMore (a0) ((0 : Int32), s) x_6 hl_6 ?_
  obtain ⟨s_6, rfl⟩ : ∃ q, q = x_6 := ⟨_, rfl⟩
  obtain ⟨x_26, hl_26, hf⟩ := mo_bind hf
  refine mm_adv 2 (cs' := P_X12_evens.drop 23) (l' := [(2, .int (0 : Int32)), (0, .ref 0), (1, .int a0)]) (st' := []) (h' := ms_H s_6) (bc' := 0) (bs' := 0) (fun n g => g) ?_
  refine mm_re (l' := [(0, .ref 0), (1, .int a0), (2, .int (0 : Int32))]) (c := [(0, .ref 0), (1, .int a0), (2, .int (0 : Int32))]) ?_ rfl rfl
  refine mb_evens_l23 h_isCalm h_off h_isStanding h_keepsMore (a0) ((0 : Int32), s_6) x_26 hl_26 ?_
  obtain ⟨s_26, rfl⟩ : ∃ q, q = x_26 := ⟨_, rfl⟩
  obtain rfl := Option.some.inj hf
  exact ⟨1, hK⟩
def mk_evens (C : mm_C) : Prop := ∀ (s : ms_S) (a0 : Int32) (s2 : ms_S) (Q : mm_R), mf_evens s a0 = some s2 → Q (none) (ms_H s2) → C 89 [.ref 0, .int a0] (ms_H s) Q
set_option maxRecDepth 100000 in
theorem mt_evens (B : mm_C) (d : Nat) : mk_evens (mm_ct B mm_Mk mm_Fk mm_PC (d + 2)) := fun s a0 s2 Q hf hK => Or.inr (mb_evens (mt_isCalm B (d + 0)) (mt_off B (d + 0)) (mt_isStanding B (d + 0)) (mt_keepsMore B (d + 0)) s a0 s2 hf hK)
-- X12_even
noncomputable def mf_even (s : ms_S) (a0 : Int32) : Option (Int32 × ms_S) :=
((mf_in (a0) ((0 : Int32)) ((40 : Int32))).bind fun v_1 =>
(if v_1 = (0 : Int32) then
some ((-1 : Int32), s)
else
((mf_copies s ).bind fun s_3 =>
((mf_fillsThen s_3 ).bind fun s_4 =>
((mf_evens s_4 (a0)).bind fun s_5 =>
((mf_numberNow s_5 ).bind fun (v_6, s_6) =>
((mo_ag 294 (s_6.2.1 56) v_6).bind fun x_7 =>
(if x_7 = (1000 : Int32) then
some ((-2 : Int32), s_6)
else
((mf_numberNow s_6 ).bind fun (v_9, s_9) =>
((mo_ag 294 (s_9.2.1 56) v_9).bind fun x_10 =>
some (x_10, s_9)))))))))))
set_option maxHeartbeats 4000000 in
theorem mb_even {C : mm_C} {Q : mm_R} (h_in : mk_in C) (h_copies : mk_copies C) (h_fillsThen : mk_fillsThen C) (h_evens : mk_evens C) (h_numberNow : mk_numberNow C) (s : ms_S) (a0 : Int32) (v : Int32) (s2 : ms_S) (hf : mf_even s a0 = some (v, s2)) (hK : Q (some (.int v)) (ms_H s2)) : mm_go C mm_Mk mm_Fk P_X12_even Q P_X12_even [(0, .ref 0), (1, .int a0)] [] (ms_H s) 0 0 := by
  unfold mf_even at hf
  obtain ⟨v_1, hr_1, hf⟩ := mo_bind hf
  by_cases c_2 : v_1 = (0 : Int32)
  · have hf := mo_pos hf c_2
    obtain ⟨rfl, rfl⟩ := mo_pair hf
    exact ⟨7, (h_in _ (a0) ((0 : Int32)) ((40 : Int32)) v_1 _ hr_1 (And.intro (fun q => absurd c_2 q) (fun _ => hK)))⟩
  · have hf := mo_neg hf c_2
    obtain ⟨s_3, hr_3, hf⟩ := mo_bind hf
    obtain ⟨s_4, hr_4, hf⟩ := mo_bind hf
    obtain ⟨s_5, hr_5, hf⟩ := mo_bind hf
    obtain ⟨r_6, hr_6, hf⟩ := mo_bind hf
    obtain ⟨v_6, s_6⟩ := r_6
    obtain ⟨x_7, hx_7, hf⟩ := mo_bind hf
    obtain ⟨hi_7, rfl⟩ := mo_ag_inv hx_7
    by_cases c_8 : ((s_6.2.1 56) (v_6).toNatClampNeg) = (1000 : Int32)
    · have hf := mo_pos hf c_8
      obtain ⟨rfl, rfl⟩ := mo_pair hf
      exact ⟨22, (h_in _ (a0) ((0 : Int32)) ((40 : Int32)) v_1 _ hr_1 (And.intro (fun _ => (h_copies s  s_3 _ hr_3 (h_fillsThen s_3  s_4 _ hr_4 (h_evens s_4 (a0) s_5 _ hr_5 (h_numberNow s_5  v_6 s_6 _ hr_6 (And.intro hi_7 (And.intro (fun q => absurd c_8 q) (fun _ => hK)))))))) (fun q => absurd c_2 q)))⟩
    · have hf := mo_neg hf c_8
      obtain ⟨r_9, hr_9, hf⟩ := mo_bind hf
      obtain ⟨v_9, s_9⟩ := r_9
      obtain ⟨x_10, hx_10, hf⟩ := mo_bind hf
      obtain ⟨hi_10, rfl⟩ := mo_ag_inv hx_10
      obtain ⟨rfl, rfl⟩ := mo_pair hf
      exact ⟨25, (h_in _ (a0) ((0 : Int32)) ((40 : Int32)) v_1 _ hr_1 (And.intro (fun _ => (h_copies s  s_3 _ hr_3 (h_fillsThen s_3  s_4 _ hr_4 (h_evens s_4 (a0) s_5 _ hr_5 (h_numberNow s_5  v_6 s_6 _ hr_6 (And.intro hi_7 (And.intro (fun _ => (h_numberNow s_6  v_9 s_9 _ hr_9 (And.intro hi_10 hK))) (fun q => absurd c_8 q)))))))) (fun q => absurd c_2 q)))⟩
def mk_even (C : mm_C) : Prop := ∀ (s : ms_S) (a0 : Int32) (v : Int32) (s2 : ms_S) (Q : mm_R), mf_even s a0 = some (v, s2) → Q (some (.int v)) (ms_H s2) → C 90 [.ref 0, .int a0] (ms_H s) Q
set_option maxRecDepth 100000 in
theorem mt_even (B : mm_C) (d : Nat) : mk_even (mm_ct B mm_Mk mm_Fk mm_PC (d + 8)) := fun s a0 v s2 Q hf hK => Or.inr (mb_even (mt_in B (d + 6)) (mt_copies B (d + 6)) (mt_fillsThen B (d + 0)) (mt_evens B (d + 5)) (mt_numberNow B (d + 5)) s a0 v s2 hf hK)
-- X12_isFew
noncomputable def mf_isFew (a0 : Int32) : Option (Int32) :=
((mf_in (a0) ((0 : Int32)) ((7 : Int32))).bind fun v_1 =>
(if v_1 &&& 1 = v_1 then some (v_1) else none))
set_option maxHeartbeats 4000000 in
theorem mb_isFew {C : mm_C} {Q : mm_R} (h_in : mk_in C) {h : mm_H} (a0 : Int32) (v : Int32) (hf : mf_isFew a0 = some v) (hK : Q (some (.int v)) h) : mm_go C mm_Mk mm_Fk P_X12_isFew Q P_X12_isFew [(0, .int a0)] [] h 0 0 := by
  unfold mf_isFew at hf
  obtain ⟨v_1, hr_1, hf⟩ := mo_bind hf
  obtain ⟨hb_2, hf⟩ := mo_ite hf
  obtain rfl := Option.some.inj hf
  exact ⟨5, (h_in _ (a0) ((0 : Int32)) ((7 : Int32)) v_1 _ hr_1 (And.intro hb_2 hK))⟩
def mk_isFew (C : mm_C) : Prop := ∀ (h : mm_H) (a0 : Int32) (v : Int32) (Q : mm_R), mf_isFew a0 = some v → Q (some (.int v)) h → C 91 [.int a0] h Q
set_option maxRecDepth 100000 in
theorem mt_isFew (B : mm_C) (d : Nat) : mk_isFew (mm_ct B mm_Mk mm_Fk mm_PC (d + 2)) := fun h a0 v Q hf hK => Or.inr (mb_isFew (mt_in B (d + 0)) a0 v hf hK)
-- X12_rowsOf
noncomputable def mf_rowsOf_j20 (s : ms_S) (v1 : Int32) (v2 : Int32) (v3 : Int32) (k0 : Int32) (k1 : Int32) : Option ((Int32 × ms_S) ⊕ ((ms_S))) :=
(bif mo_in k1 294 then some (.inl ((v3 + (1 : Int32)), (ms_sA s 56 (upd (s.2.1 56) (k1).toNatClampNeg (k0))))) else none)
set_option maxHeartbeats 4000000 in
theorem mb_rowsOf_j20 {C : mm_C} {Q : mm_R} (h_copies : mk_copies C) (h_fillsThen : mk_fillsThen C) (h_isCalm : mk_isCalm C) (h_isStanding : mk_isStanding C) (h_keepsMore : mk_keepsMore C) (h_numberNow : mk_numberNow C) (s : ms_S) (v1 : Int32) (v2 : Int32) (v3 : Int32) (k0 : Int32) (k1 : Int32) (r : (Int32 × ms_S) ⊕ ((ms_S))) (hf : mf_rowsOf_j20 s v1 v2 v3 k0 k1 = some r) (hK : mo_sum (mo_c2 (fun y3 sy => mm_go C mm_Mk mm_Fk P_X12_rowsOf Q (P_X12_rowsOf.drop 6) [(0, .ref 0), (1, .int v1), (2, .int v2), (3, .int y3)] [] (ms_H sy) 0 0))  (fun sy => mm_go C mm_Mk mm_Fk P_X12_rowsOf Q (P_X12_rowsOf.drop 23) [(0, .ref 0), (1, .int v1), (2, .int v2)] [] (ms_H sy) 0 0)  r) : mm_go C mm_Mk mm_Fk P_X12_rowsOf Q (P_X12_rowsOf.drop 20) [(0, .ref 0), (1, .int v1), (2, .int v2), (3, .int v3)] [.int k0, .int k1, .ref 36] (ms_H s) 0 0 := by
  unfold mf_rowsOf_j20 at hf
  obtain ⟨hi_7, hf⟩ := mo_if hf
  obtain rfl := Option.some.inj hf
  refine mm_adv 3 (cs' := P_X12_rowsOf.drop 6) (l' := [(3, .int (v3 + (1 : Int32))), (0, .ref 0), (1, .int v1), (2, .int v2)]) (st' := []) (h' := ms_H (ms_sA s 56 (upd (s.2.1 56) (k1).toNatClampNeg (k0)))) (bc' := 0) (bs' := 0) (fun n g => (And.intro hi_7 g)) ?_
  exact mm_re (c := [(0, .ref 0), (1, .int v1), (2, .int v2), (3, .int (v3 + (1 : Int32)))]) hK rfl rfl
noncomputable def mf_rowsOf_j19 (s : ms_S) (v1 : Int32) (v2 : Int32) (v3 : Int32) (k0 : Int32) : Option ((Int32 × ms_S) ⊕ ((ms_S))) :=
(mf_rowsOf_j20 (s) (v1) (v2) (v3) ((0 : Int32)) (k0))
set_option maxHeartbeats 4000000 in
theorem mb_rowsOf_j19 {C : mm_C} {Q : mm_R} (h_copies : mk_copies C) (h_fillsThen : mk_fillsThen C) (h_isCalm : mk_isCalm C) (h_isStanding : mk_isStanding C) (h_keepsMore : mk_keepsMore C) (h_numberNow : mk_numberNow C) (s : ms_S) (v1 : Int32) (v2 : Int32) (v3 : Int32) (k0 : Int32) (r : (Int32 × ms_S) ⊕ ((ms_S))) (hf : mf_rowsOf_j19 s v1 v2 v3 k0 = some r) (hK : mo_sum (mo_c2 (fun y3 sy => mm_go C mm_Mk mm_Fk P_X12_rowsOf Q (P_X12_rowsOf.drop 6) [(0, .ref 0), (1, .int v1), (2, .int v2), (3, .int y3)] [] (ms_H sy) 0 0))  (fun sy => mm_go C mm_Mk mm_Fk P_X12_rowsOf Q (P_X12_rowsOf.drop 23) [(0, .ref 0), (1, .int v1), (2, .int v2)] [] (ms_H sy) 0 0)  r) : mm_go C mm_Mk mm_Fk P_X12_rowsOf Q (P_X12_rowsOf.drop 19) [(0, .ref 0), (1, .int v1), (2, .int v2), (3, .int v3)] [.int k0, .ref 36] (ms_H s) 0 0 := by
  unfold mf_rowsOf_j19 at hf
  refine mm_adv 1 (cs' := P_X12_rowsOf.drop 20) (l' := [(0, .ref 0), (1, .int v1), (2, .int v2), (3, .int v3)]) (st' := [.int (0 : Int32), .int k0, .ref 36]) (h' := ms_H s) (bc' := 0) (bs' := 0) (fun n g => g) ?_
  refine mm_re (l' := [(0, .ref 0), (1, .int v1), (2, .int v2), (3, .int v3)]) (c := [(0, .ref 0), (1, .int v1), (2, .int v2), (3, .int v3)]) ?_ rfl rfl
  exact mb_rowsOf_j20 h_copies h_fillsThen h_isCalm h_isStanding h_keepsMore h_numberNow s (v1) (v2) (v3) ((0 : Int32)) (k0) _ hf hK
noncomputable def mf_rowsOf_l6 (v1 : Int32) (v2 : Int32) : (Int32 × ms_S) → Option ((Int32 × ms_S) ⊕ ((ms_S))) := fun (w3, s) =>
(if (294 : Int32) ≤ w3 then
some (.inr (s))
else
(if v2 = (0 : Int32) then
((mf_isCalm (w3)).bind fun v_5 =>
(if v_5 = (0 : Int32) then
(mf_rowsOf_j19 (s) (v1) (v2) (w3) (w3))
else
(mf_rowsOf_j20 (s) (v1) (v2) (w3) ((1 : Int32)) (w3))))
else
(mf_rowsOf_j19 (s) (v1) (v2) (w3) (w3))))
set_option maxHeartbeats 4000000 in
theorem mb_rowsOf_l6 {C : mm_C} {Q : mm_R} (h_copies : mk_copies C) (h_fillsThen : mk_fillsThen C) (h_isCalm : mk_isCalm C) (h_isStanding : mk_isStanding C) (h_keepsMore : mk_keepsMore C) (h_numberNow : mk_numberNow C) (v1 : Int32) (v2 : Int32) (t : Int32 × ms_S) (x : (ms_S)) (hl : mo_loop (mf_rowsOf_l6 v1 v2) t = some x) (hK : (fun sy => mm_go C mm_Mk mm_Fk P_X12_rowsOf Q (P_X12_rowsOf.drop 23) [(0, .ref 0), (1, .int v1), (2, .int v2)] [] (ms_H sy) 0 0) x) : (mo_c2 (fun y3 sy => mm_go C mm_Mk mm_Fk P_X12_rowsOf Q (P_X12_rowsOf.drop 6) [(0, .ref 0), (1, .int v1), (2, .int v2), (3, .int y3)] [] (ms_H sy) 0 0)) t := by
  refine mo_loop_go (G := (mo_c2 (fun y3 sy => mm_go C mm_Mk mm_Fk P_X12_rowsOf Q (P_X12_rowsOf.drop 6) [(0, .ref 0), (1, .int v1), (2, .int v2), (3, .int y3)] [] (ms_H sy) 0 0)) ) (K := (fun sy => mm_go C mm_Mk mm_Fk P_X12_rowsOf Q (P_X12_rowsOf.drop 23) [(0, .ref 0), (1, .int v1), (2, .int v2)] [] (ms_H sy) 0 0) ) ?_ t x hl hK
  intro t r hf hK
  obtain ⟨w3, s⟩ := t
  unfold mf_rowsOf_l6 at hf
  by_cases c_3 : (294 : Int32) ≤ w3
  · have hf := mo_pos hf c_3
    obtain rfl := Option.some.inj hf
    refine mm_adv 3 (cs' := P_X12_rowsOf.drop 23) (l' := [(0, .ref 0), (1, .int v1), (2, .int v2), (3, .int w3)]) (st' := []) (h' := ms_H s) (bc' := 0) (bs' := 0) (fun n g => (And.intro (fun _ => g) (fun q => absurd c_3 q))) ?_
    exact mm_re (c := [(0, .ref 0), (1, .int v1), (2, .int v2)]) hK rfl rfl
  · have hf := mo_neg hf c_3
    by_cases c_4 : v2 = (0 : Int32)
    · have hf := mo_pos hf c_4
      obtain ⟨v_5, hr_5, hf⟩ := mo_bind hf
      by_cases c_6 : v_5 = (0 : Int32)
      · have hf := mo_pos hf c_6
        refine mm_adv 11 (cs' := P_X12_rowsOf.drop 19) (l' := [(0, .ref 0), (1, .int v1), (2, .int v2), (3, .int w3)]) (st' := [.int w3, .ref 36]) (h' := ms_H s) (bc' := 0) (bs' := 0) (fun n g => (And.intro (fun q => absurd q c_3) (fun _ => (And.intro (fun q => absurd c_4 q) (fun _ => (h_isCalm _ (w3) v_5 _ hr_5 (And.intro (fun _ => g) (fun q => absurd c_6 q)))))))) ?_
        refine mm_re (l' := [(0, .ref 0), (1, .int v1), (2, .int v2), (3, .int w3)]) (c := [(0, .ref 0), (1, .int v1), (2, .int v2), (3, .int w3)]) ?_ rfl rfl
        exact mb_rowsOf_j19 h_copies h_fillsThen h_isCalm h_isStanding h_keepsMore h_numberNow s (v1) (v2) (w3) (w3) _ hf hK
      · have hf := mo_neg hf c_6
        refine mm_adv 13 (cs' := P_X12_rowsOf.drop 20) (l' := [(0, .ref 0), (1, .int v1), (2, .int v2), (3, .int w3)]) (st' := [.int (1 : Int32), .int w3, .ref 36]) (h' := ms_H s) (bc' := 0) (bs' := 0) (fun n g => (And.intro (fun q => absurd q c_3) (fun _ => (And.intro (fun q => absurd c_4 q) (fun _ => (h_isCalm _ (w3) v_5 _ hr_5 (And.intro (fun q => absurd q c_6) (fun _ => g)))))))) ?_
        refine mm_re (l' := [(0, .ref 0), (1, .int v1), (2, .int v2), (3, .int w3)]) (c := [(0, .ref 0), (1, .int v1), (2, .int v2), (3, .int w3)]) ?_ rfl rfl
        exact mb_rowsOf_j20 h_copies h_fillsThen h_isCalm h_isStanding h_keepsMore h_numberNow s (v1) (v2) (w3) ((1 : Int32)) (w3) _ hf hK
    · have hf := mo_neg hf c_4
      refine mm_adv 8 (cs' := P_X12_rowsOf.drop 19) (l' := [(0, .ref 0), (1, .int v1), (2, .int v2), (3, .int w3)]) (st' := [.int w3, .ref 36]) (h' := ms_H s) (bc' := 0) (bs' := 0) (fun n g => (And.intro (fun q => absurd q c_3) (fun _ => (And.intro (fun _ => g) (fun q => absurd c_4 q))))) ?_
      refine mm_re (l' := [(0, .ref 0), (1, .int v1), (2, .int v2), (3, .int w3)]) (c := [(0, .ref 0), (1, .int v1), (2, .int v2), (3, .int w3)]) ?_ rfl rfl
      exact mb_rowsOf_j19 h_copies h_fillsThen h_isCalm h_isStanding h_keepsMore h_numberNow s (v1) (v2) (w3) (w3) _ hf hK
noncomputable def mf_rowsOf_j76 (s : ms_S) (v1 : Int32) (v2 : Int32) (v3 : Int32) (v4 : Int32) (v5 : Int32) : Option ((Int32 × ms_S) ⊕ ((ms_S))) :=
some (.inl ((v5 + (1 : Int32)), s))
set_option maxHeartbeats 4000000 in
theorem mb_rowsOf_j76 {C : mm_C} {Q : mm_R} (h_copies : mk_copies C) (h_fillsThen : mk_fillsThen C) (h_isCalm : mk_isCalm C) (h_isStanding : mk_isStanding C) (h_keepsMore : mk_keepsMore C) (h_numberNow : mk_numberNow C) (s : ms_S) (v1 : Int32) (v2 : Int32) (v3 : Int32) (v4 : Int32) (v5 : Int32) (r : (Int32 × ms_S) ⊕ ((ms_S))) (hf : mf_rowsOf_j76 s v1 v2 v3 v4 v5 = some r) (hK : mo_sum (mo_c2 (fun y5 sy => mm_go C mm_Mk mm_Fk P_X12_rowsOf Q (P_X12_rowsOf.drop 40) [(0, .ref 0), (1, .int v1), (2, .int v2), (3, .int v3), (4, .int v4), (5, .int y5)] [] (ms_H sy) 0 0))  (fun sy => mm_go C mm_Mk mm_Fk P_X12_rowsOf Q (P_X12_rowsOf.drop 78) [(0, .ref 0), (1, .int v1), (2, .int v2), (3, .int v3), (4, .int v4)] [] (ms_H sy) 0 0)  r) : mm_go C mm_Mk mm_Fk P_X12_rowsOf Q (P_X12_rowsOf.drop 76) [(0, .ref 0), (1, .int v1), (2, .int v2), (3, .int v3), (4, .int v4), (5, .int v5)] [] (ms_H s) 0 0 := by
  unfold mf_rowsOf_j76 at hf
  obtain rfl := Option.some.inj hf
  refine mm_adv 2 (cs' := P_X12_rowsOf.drop 40) (l' := [(5, .int (v5 + (1 : Int32))), (0, .ref 0), (1, .int v1), (2, .int v2), (3, .int v3), (4, .int v4)]) (st' := []) (h' := ms_H s) (bc' := 0) (bs' := 0) (fun n g => g) ?_
  exact mm_re (c := [(0, .ref 0), (1, .int v1), (2, .int v2), (3, .int v3), (4, .int v4), (5, .int (v5 + (1 : Int32)))]) hK rfl rfl
noncomputable def mf_rowsOf_j74 (s : ms_S) (v1 : Int32) (v2 : Int32) (v3 : Int32) (v4 : Int32) (v5 : Int32) (k0 : Int32) (k1 : Int32) (k2 : Int32) : Option ((Int32 × ms_S) ⊕ ((ms_S))) :=
(bif mo_in k2 294 then (mf_rowsOf_j76 ((ms_sA s 57 (upd (s.2.1 57) (k2).toNatClampNeg ((k1 + k0))))) (v1) (v2) (v3) (v4) (v5)) else none)
set_option maxHeartbeats 4000000 in
theorem mb_rowsOf_j74 {C : mm_C} {Q : mm_R} (h_copies : mk_copies C) (h_fillsThen : mk_fillsThen C) (h_isCalm : mk_isCalm C) (h_isStanding : mk_isStanding C) (h_keepsMore : mk_keepsMore C) (h_numberNow : mk_numberNow C) (s : ms_S) (v1 : Int32) (v2 : Int32) (v3 : Int32) (v4 : Int32) (v5 : Int32) (k0 : Int32) (k1 : Int32) (k2 : Int32) (r : (Int32 × ms_S) ⊕ ((ms_S))) (hf : mf_rowsOf_j74 s v1 v2 v3 v4 v5 k0 k1 k2 = some r) (hK : mo_sum (mo_c2 (fun y5 sy => mm_go C mm_Mk mm_Fk P_X12_rowsOf Q (P_X12_rowsOf.drop 40) [(0, .ref 0), (1, .int v1), (2, .int v2), (3, .int v3), (4, .int v4), (5, .int y5)] [] (ms_H sy) 0 0))  (fun sy => mm_go C mm_Mk mm_Fk P_X12_rowsOf Q (P_X12_rowsOf.drop 78) [(0, .ref 0), (1, .int v1), (2, .int v2), (3, .int v3), (4, .int v4)] [] (ms_H sy) 0 0)  r) : mm_go C mm_Mk mm_Fk P_X12_rowsOf Q (P_X12_rowsOf.drop 74) [(0, .ref 0), (1, .int v1), (2, .int v2), (3, .int v3), (4, .int v4), (5, .int v5)] [.int k0, .int k1, .int k2, .ref 37] (ms_H s) 0 0 := by
  unfold mf_rowsOf_j74 at hf
  obtain ⟨hi_20, hf⟩ := mo_if hf
  refine mm_adv 2 (cs' := P_X12_rowsOf.drop 76) (l' := [(0, .ref 0), (1, .int v1), (2, .int v2), (3, .int v3), (4, .int v4), (5, .int v5)]) (st' := []) (h' := ms_H (ms_sA s 57 (upd (s.2.1 57) (k2).toNatClampNeg ((k1 + k0))))) (bc' := 0) (bs' := 0) (fun n g => (And.intro hi_20 g)) ?_
  refine mm_re (l' := [(0, .ref 0), (1, .int v1), (2, .int v2), (3, .int v3), (4, .int v4), (5, .int v5)]) (c := [(0, .ref 0), (1, .int v1), (2, .int v2), (3, .int v3), (4, .int v4), (5, .int v5)]) ?_ rfl rfl
  exact mb_rowsOf_j76 h_copies h_fillsThen h_isCalm h_isStanding h_keepsMore h_numberNow (ms_sA s 57 (upd (s.2.1 57) (k2).toNatClampNeg ((k1 + k0)))) (v1) (v2) (v3) (v4) (v5) _ hf hK
noncomputable def mf_rowsOf_j70 (s : ms_S) (v1 : Int32) (v2 : Int32) (v3 : Int32) (v4 : Int32) (v5 : Int32) (v6 : Int32) (k0 : Int32) (k1 : Int32) : Option ((Int32 × ms_S) ⊕ ((ms_S))) :=
((mo_ag 294 (s.2.1 56) v6).bind fun x_19 =>
(mf_rowsOf_j74 (s) (v1) (v2) (v3) (v4) (v5) (x_19) (k0) (k1)))
set_option maxHeartbeats 4000000 in
theorem mb_rowsOf_j70 {C : mm_C} {Q : mm_R} (h_copies : mk_copies C) (h_fillsThen : mk_fillsThen C) (h_isCalm : mk_isCalm C) (h_isStanding : mk_isStanding C) (h_keepsMore : mk_keepsMore C) (h_numberNow : mk_numberNow C) (s : ms_S) (v1 : Int32) (v2 : Int32) (v3 : Int32) (v4 : Int32) (v5 : Int32) (v6 : Int32) (k0 : Int32) (k1 : Int32) (r : (Int32 × ms_S) ⊕ ((ms_S))) (hf : mf_rowsOf_j70 s v1 v2 v3 v4 v5 v6 k0 k1 = some r) (hK : mo_sum (mo_c2 (fun y5 sy => mm_go C mm_Mk mm_Fk P_X12_rowsOf Q (P_X12_rowsOf.drop 40) [(0, .ref 0), (1, .int v1), (2, .int v2), (3, .int v3), (4, .int v4), (5, .int y5)] [] (ms_H sy) 0 0))  (fun sy => mm_go C mm_Mk mm_Fk P_X12_rowsOf Q (P_X12_rowsOf.drop 78) [(0, .ref 0), (1, .int v1), (2, .int v2), (3, .int v3), (4, .int v4)] [] (ms_H sy) 0 0)  r) : mm_go C mm_Mk mm_Fk P_X12_rowsOf Q (P_X12_rowsOf.drop 70) [(0, .ref 0), (1, .int v1), (2, .int v2), (3, .int v3), (4, .int v4), (5, .int v5), (6, .int v6)] [.int k0, .int k1, .ref 37] (ms_H s) 0 0 := by
  unfold mf_rowsOf_j70 at hf
  obtain ⟨x_19, hx_19, hf⟩ := mo_bind hf
  obtain ⟨hi_19, rfl⟩ := mo_ag_inv hx_19
  refine mm_adv 4 (cs' := P_X12_rowsOf.drop 74) (l' := [(0, .ref 0), (1, .int v1), (2, .int v2), (3, .int v3), (4, .int v4), (5, .int v5), (6, .int v6)]) (st' := [.int ((s.2.1 56) (v6).toNatClampNeg), .int k0, .int k1, .ref 37]) (h' := ms_H s) (bc' := 0) (bs' := 0) (fun n g => (And.intro hi_19 g)) ?_
  refine mm_re (l' := [(0, .ref 0), (1, .int v1), (2, .int v2), (3, .int v3), (4, .int v4), (5, .int v5)]) (c := [(0, .ref 0), (1, .int v1), (2, .int v2), (3, .int v3), (4, .int v4), (5, .int v5)]) ?_ rfl rfl
  exact mb_rowsOf_j74 h_copies h_fillsThen h_isCalm h_isStanding h_keepsMore h_numberNow s (v1) (v2) (v3) (v4) (v5) (((s.2.1 56) (v6).toNatClampNeg)) (k0) (k1) _ hf hK
noncomputable def mf_rowsOf_l40 (v1 : Int32) (v2 : Int32) (v3 : Int32) (v4 : Int32) : (Int32 × ms_S) → Option ((Int32 × ms_S) ⊕ ((ms_S))) := fun (w5, s) =>
(if (7 : Int32) ≤ w5 then
some (.inr (s))
else
((mf_isStanding s (v4)).bind fun (v_13, s_13) =>
(if v_13 = (0 : Int32) then
some (.inr (s_13))
else
((mo_ag 2058 (s_13.2.1 51) (((7 : Int32) * v4) + w5)).bind fun x_15 =>
(if x_15 < (0 : Int32) then
(mf_rowsOf_j76 (s_13) (v1) (v2) (v3) (v4) (w5))
else
((mo_ag 294 (s_13.2.1 57) v4).bind fun x_17 =>
(if v2 = (0 : Int32) then
(mf_rowsOf_j70 (s_13) (v1) (v2) (v3) (v4) (w5) (x_15) (x_17) (v4))
else
((mf_isCalm (x_15)).bind fun v_21 =>
(if v_21 = (0 : Int32) then
(mf_rowsOf_j74 (s_13) (v1) (v2) (v3) (v4) (w5) ((1 : Int32)) (x_17) (v4))
else
(mf_rowsOf_j70 (s_13) (v1) (v2) (v3) (v4) (w5) (x_15) (x_17) (v4)))))))))))
set_option maxHeartbeats 4000000 in
theorem mb_rowsOf_l40 {C : mm_C} {Q : mm_R} (h_copies : mk_copies C) (h_fillsThen : mk_fillsThen C) (h_isCalm : mk_isCalm C) (h_isStanding : mk_isStanding C) (h_keepsMore : mk_keepsMore C) (h_numberNow : mk_numberNow C) (v1 : Int32) (v2 : Int32) (v3 : Int32) (v4 : Int32) (t : Int32 × ms_S) (x : (ms_S)) (hl : mo_loop (mf_rowsOf_l40 v1 v2 v3 v4) t = some x) (hK : (fun sy => mm_go C mm_Mk mm_Fk P_X12_rowsOf Q (P_X12_rowsOf.drop 78) [(0, .ref 0), (1, .int v1), (2, .int v2), (3, .int v3), (4, .int v4)] [] (ms_H sy) 0 0) x) : (mo_c2 (fun y5 sy => mm_go C mm_Mk mm_Fk P_X12_rowsOf Q (P_X12_rowsOf.drop 40) [(0, .ref 0), (1, .int v1), (2, .int v2), (3, .int v3), (4, .int v4), (5, .int y5)] [] (ms_H sy) 0 0)) t := by
  refine mo_loop_go (G := (mo_c2 (fun y5 sy => mm_go C mm_Mk mm_Fk P_X12_rowsOf Q (P_X12_rowsOf.drop 40) [(0, .ref 0), (1, .int v1), (2, .int v2), (3, .int v3), (4, .int v4), (5, .int y5)] [] (ms_H sy) 0 0)) ) (K := (fun sy => mm_go C mm_Mk mm_Fk P_X12_rowsOf Q (P_X12_rowsOf.drop 78) [(0, .ref 0), (1, .int v1), (2, .int v2), (3, .int v3), (4, .int v4)] [] (ms_H sy) 0 0) ) ?_ t x hl hK
  intro t r hf hK
  obtain ⟨w5, s⟩ := t
  unfold mf_rowsOf_l40 at hf
  by_cases c_12 : (7 : Int32) ≤ w5
  · have hf := mo_pos hf c_12
    obtain rfl := Option.some.inj hf
    refine mm_adv 3 (cs' := P_X12_rowsOf.drop 78) (l' := [(0, .ref 0), (1, .int v1), (2, .int v2), (3, .int v3), (4, .int v4), (5, .int w5)]) (st' := []) (h' := ms_H s) (bc' := 0) (bs' := 0) (fun n g => (And.intro (fun _ => g) (fun q => absurd c_12 q))) ?_
    exact mm_re (c := [(0, .ref 0), (1, .int v1), (2, .int v2), (3, .int v3), (4, .int v4)]) hK rfl rfl
  · have hf := mo_neg hf c_12
    obtain ⟨r_13, hr_13, hf⟩ := mo_bind hf
    obtain ⟨v_13, s_13⟩ := r_13
    by_cases c_14 : v_13 = (0 : Int32)
    · have hf := mo_pos hf c_14
      obtain rfl := Option.some.inj hf
      refine mm_adv 7 (cs' := P_X12_rowsOf.drop 78) (l' := [(0, .ref 0), (1, .int v1), (2, .int v2), (3, .int v3), (4, .int v4), (5, .int w5)]) (st' := []) (h' := ms_H s_13) (bc' := 0) (bs' := 0) (fun n g => (And.intro (fun q => absurd q c_12) (fun _ => (h_isStanding s (v4) v_13 s_13 _ hr_13 (And.intro (fun _ => g) (fun q => absurd c_14 q)))))) ?_
      exact mm_re (c := [(0, .ref 0), (1, .int v1), (2, .int v2), (3, .int v3), (4, .int v4)]) hK rfl rfl
    · have hf := mo_neg hf c_14
      obtain ⟨x_15, hx_15, hf⟩ := mo_bind hf
      obtain ⟨hi_15, rfl⟩ := mo_ag_inv hx_15
      by_cases c_16 : ((s_13.2.1 51) ((((7 : Int32) * v4) + w5)).toNatClampNeg) < (0 : Int32)
      · have hf := mo_pos hf c_16
        refine mm_adv 18 (cs' := P_X12_rowsOf.drop 76) (l' := [(6, .int ((s_13.2.1 51) ((((7 : Int32) * v4) + w5)).toNatClampNeg)), (0, .ref 0), (1, .int v1), (2, .int v2), (3, .int v3), (4, .int v4), (5, .int w5)]) (st' := []) (h' := ms_H s_13) (bc' := 0) (bs' := 0) (fun n g => (And.intro (fun q => absurd q c_12) (fun _ => (h_isStanding s (v4) v_13 s_13 _ hr_13 (And.intro (fun q => absurd q c_14) (fun _ => (And.intro hi_15 (And.intro (fun _ => g) (fun q => absurd c_16 q))))))))) ?_
        refine mm_re (l' := [(0, .ref 0), (1, .int v1), (2, .int v2), (3, .int v3), (4, .int v4), (5, .int w5)]) (c := [(0, .ref 0), (1, .int v1), (2, .int v2), (3, .int v3), (4, .int v4), (5, .int w5)]) ?_ rfl rfl
        exact mb_rowsOf_j76 h_copies h_fillsThen h_isCalm h_isStanding h_keepsMore h_numberNow s_13 (v1) (v2) (v3) (v4) (w5) _ hf hK
      · have hf := mo_neg hf c_16
        obtain ⟨x_17, hx_17, hf⟩ := mo_bind hf
        obtain ⟨hi_17, rfl⟩ := mo_ag_inv hx_17
        by_cases c_18 : v2 = (0 : Int32)
        · have hf := mo_pos hf c_18
          refine mm_adv 25 (cs' := P_X12_rowsOf.drop 70) (l' := [(6, .int ((s_13.2.1 51) ((((7 : Int32) * v4) + w5)).toNatClampNeg)), (0, .ref 0), (1, .int v1), (2, .int v2), (3, .int v3), (4, .int v4), (5, .int w5)]) (st' := [.int ((s_13.2.1 57) (v4).toNatClampNeg), .int v4, .ref 37]) (h' := ms_H s_13) (bc' := 0) (bs' := 0) (fun n g => (And.intro (fun q => absurd q c_12) (fun _ => (h_isStanding s (v4) v_13 s_13 _ hr_13 (And.intro (fun q => absurd q c_14) (fun _ => (And.intro hi_15 (And.intro (fun q => absurd q c_16) (fun _ => (And.intro hi_17 (And.intro (fun _ => g) (fun q => absurd c_18 q)))))))))))) ?_
          refine mm_re (l' := [(0, .ref 0), (1, .int v1), (2, .int v2), (3, .int v3), (4, .int v4), (5, .int w5), (6, .int ((s_13.2.1 51) ((((7 : Int32) * v4) + w5)).toNatClampNeg))]) (c := [(0, .ref 0), (1, .int v1), (2, .int v2), (3, .int v3), (4, .int v4), (5, .int w5), (6, .int ((s_13.2.1 51) ((((7 : Int32) * v4) + w5)).toNatClampNeg))]) ?_ rfl rfl
          exact mb_rowsOf_j70 h_copies h_fillsThen h_isCalm h_isStanding h_keepsMore h_numberNow s_13 (v1) (v2) (v3) (v4) (w5) (((s_13.2.1 51) ((((7 : Int32) * v4) + w5)).toNatClampNeg)) (((s_13.2.1 57) (v4).toNatClampNeg)) (v4) _ hf hK
        · have hf := mo_neg hf c_18
          obtain ⟨v_21, hr_21, hf⟩ := mo_bind hf
          by_cases c_22 : v_21 = (0 : Int32)
          · have hf := mo_pos hf c_22
            refine mm_adv 30 (cs' := P_X12_rowsOf.drop 74) (l' := [(6, .int ((s_13.2.1 51) ((((7 : Int32) * v4) + w5)).toNatClampNeg)), (0, .ref 0), (1, .int v1), (2, .int v2), (3, .int v3), (4, .int v4), (5, .int w5)]) (st' := [.int (1 : Int32), .int ((s_13.2.1 57) (v4).toNatClampNeg), .int v4, .ref 37]) (h' := ms_H s_13) (bc' := 0) (bs' := 0) (fun n g => (And.intro (fun q => absurd q c_12) (fun _ => (h_isStanding s (v4) v_13 s_13 _ hr_13 (And.intro (fun q => absurd q c_14) (fun _ => (And.intro hi_15 (And.intro (fun q => absurd q c_16) (fun _ => (And.intro hi_17 (And.intro (fun q => absurd q c_18) (fun _ => (h_isCalm _ (((s_13.2.1 51) ((((7 : Int32) * v4) + w5)).toNatClampNeg)) v_21 _ hr_21 (And.intro (fun q => absurd c_22 q) (fun _ => g))))))))))))))) ?_
            refine mm_re (l' := [(0, .ref 0), (1, .int v1), (2, .int v2), (3, .int v3), (4, .int v4), (5, .int w5)]) (c := [(0, .ref 0), (1, .int v1), (2, .int v2), (3, .int v3), (4, .int v4), (5, .int w5)]) ?_ rfl rfl
            exact mb_rowsOf_j74 h_copies h_fillsThen h_isCalm h_isStanding h_keepsMore h_numberNow s_13 (v1) (v2) (v3) (v4) (w5) ((1 : Int32)) (((s_13.2.1 57) (v4).toNatClampNeg)) (v4) _ hf hK
          · have hf := mo_neg hf c_22
            refine mm_adv 28 (cs' := P_X12_rowsOf.drop 70) (l' := [(6, .int ((s_13.2.1 51) ((((7 : Int32) * v4) + w5)).toNatClampNeg)), (0, .ref 0), (1, .int v1), (2, .int v2), (3, .int v3), (4, .int v4), (5, .int w5)]) (st' := [.int ((s_13.2.1 57) (v4).toNatClampNeg), .int v4, .ref 37]) (h' := ms_H s_13) (bc' := 0) (bs' := 0) (fun n g => (And.intro (fun q => absurd q c_12) (fun _ => (h_isStanding s (v4) v_13 s_13 _ hr_13 (And.intro (fun q => absurd q c_14) (fun _ => (And.intro hi_15 (And.intro (fun q => absurd q c_16) (fun _ => (And.intro hi_17 (And.intro (fun q => absurd q c_18) (fun _ => (h_isCalm _ (((s_13.2.1 51) ((((7 : Int32) * v4) + w5)).toNatClampNeg)) v_21 _ hr_21 (And.intro (fun _ => g) (fun q => absurd c_22 q))))))))))))))) ?_
            refine mm_re (l' := [(0, .ref 0), (1, .int v1), (2, .int v2), (3, .int v3), (4, .int v4), (5, .int w5), (6, .int ((s_13.2.1 51) ((((7 : Int32) * v4) + w5)).toNatClampNeg))]) (c := [(0, .ref 0), (1, .int v1), (2, .int v2), (3, .int v3), (4, .int v4), (5, .int w5), (6, .int ((s_13.2.1 51) ((((7 : Int32) * v4) + w5)).toNatClampNeg))]) ?_ rfl rfl
            exact mb_rowsOf_j70 h_copies h_fillsThen h_isCalm h_isStanding h_keepsMore h_numberNow s_13 (v1) (v2) (v3) (v4) (w5) (((s_13.2.1 51) ((((7 : Int32) * v4) + w5)).toNatClampNeg)) (((s_13.2.1 57) (v4).toNatClampNeg)) (v4) _ hf hK
noncomputable def mf_rowsOf_j78 (s : ms_S) (v1 : Int32) (v2 : Int32) (v3 : Int32) (v4 : Int32) : Option ((Int32 × ms_S) ⊕ ((ms_S))) :=
some (.inl ((v4 + (1 : Int32)), s))
set_option maxHeartbeats 4000000 in
theorem mb_rowsOf_j78 {C : mm_C} {Q : mm_R} (h_copies : mk_copies C) (h_fillsThen : mk_fillsThen C) (h_isCalm : mk_isCalm C) (h_isStanding : mk_isStanding C) (h_keepsMore : mk_keepsMore C) (h_numberNow : mk_numberNow C) (s : ms_S) (v1 : Int32) (v2 : Int32) (v3 : Int32) (v4 : Int32) (r : (Int32 × ms_S) ⊕ ((ms_S))) (hf : mf_rowsOf_j78 s v1 v2 v3 v4 = some r) (hK : mo_sum (mo_c2 (fun y4 sy => mm_go C mm_Mk mm_Fk P_X12_rowsOf Q (P_X12_rowsOf.drop 30) [(0, .ref 0), (1, .int v1), (2, .int v2), (3, .int v3), (4, .int y4)] [] (ms_H sy) 0 0))  (fun sy => mm_go C mm_Mk mm_Fk P_X12_rowsOf Q (P_X12_rowsOf.drop 80) [(0, .ref 0), (1, .int v1), (2, .int v2), (3, .int v3)] [] (ms_H sy) 0 0)  r) : mm_go C mm_Mk mm_Fk P_X12_rowsOf Q (P_X12_rowsOf.drop 78) [(0, .ref 0), (1, .int v1), (2, .int v2), (3, .int v3), (4, .int v4)] [] (ms_H s) 0 0 := by
  unfold mf_rowsOf_j78 at hf
  obtain rfl := Option.some.inj hf
  refine mm_adv 2 (cs' := P_X12_rowsOf.drop 30) (l' := [(4, .int (v4 + (1 : Int32))), (0, .ref 0), (1, .int v1), (2, .int v2), (3, .int v3)]) (st' := []) (h' := ms_H s) (bc' := 0) (bs' := 0) (fun n g => g) ?_
  exact mm_re (c := [(0, .ref 0), (1, .int v1), (2, .int v2), (3, .int v3), (4, .int (v4 + (1 : Int32)))]) hK rfl rfl
noncomputable def mf_rowsOf_l30 (v1 : Int32) (v2 : Int32) (v3 : Int32) : (Int32 × ms_S) → Option ((Int32 × ms_S) ⊕ ((ms_S))) := fun (w4, s) =>
(if (294 : Int32) ≤ w4 then
some (.inr (s))
else
(bif mo_in w4 294 then ((mo_loop (mf_rowsOf_l40 (v1) (v2) (v3) (w4)) ((0 : Int32), (ms_sA s 57 (upd (s.2.1 57) (w4).toNatClampNeg ((0 : Int32)))))).bind fun s_23 =>
(mf_rowsOf_j78 (s_23) (v1) (v2) (v3) (w4))) else none))
set_option maxHeartbeats 4000000 in
theorem mb_rowsOf_l30 {C : mm_C} {Q : mm_R} (h_copies : mk_copies C) (h_fillsThen : mk_fillsThen C) (h_isCalm : mk_isCalm C) (h_isStanding : mk_isStanding C) (h_keepsMore : mk_keepsMore C) (h_numberNow : mk_numberNow C) (v1 : Int32) (v2 : Int32) (v3 : Int32) (t : Int32 × ms_S) (x : (ms_S)) (hl : mo_loop (mf_rowsOf_l30 v1 v2 v3) t = some x) (hK : (fun sy => mm_go C mm_Mk mm_Fk P_X12_rowsOf Q (P_X12_rowsOf.drop 80) [(0, .ref 0), (1, .int v1), (2, .int v2), (3, .int v3)] [] (ms_H sy) 0 0) x) : (mo_c2 (fun y4 sy => mm_go C mm_Mk mm_Fk P_X12_rowsOf Q (P_X12_rowsOf.drop 30) [(0, .ref 0), (1, .int v1), (2, .int v2), (3, .int v3), (4, .int y4)] [] (ms_H sy) 0 0)) t := by
  refine mo_loop_go (G := (mo_c2 (fun y4 sy => mm_go C mm_Mk mm_Fk P_X12_rowsOf Q (P_X12_rowsOf.drop 30) [(0, .ref 0), (1, .int v1), (2, .int v2), (3, .int v3), (4, .int y4)] [] (ms_H sy) 0 0)) ) (K := (fun sy => mm_go C mm_Mk mm_Fk P_X12_rowsOf Q (P_X12_rowsOf.drop 80) [(0, .ref 0), (1, .int v1), (2, .int v2), (3, .int v3)] [] (ms_H sy) 0 0) ) ?_ t x hl hK
  intro t r hf hK
  obtain ⟨w4, s⟩ := t
  unfold mf_rowsOf_l30 at hf
  by_cases c_10 : (294 : Int32) ≤ w4
  · have hf := mo_pos hf c_10
    obtain rfl := Option.some.inj hf
    refine mm_adv 3 (cs' := P_X12_rowsOf.drop 80) (l' := [(0, .ref 0), (1, .int v1), (2, .int v2), (3, .int v3), (4, .int w4)]) (st' := []) (h' := ms_H s) (bc' := 0) (bs' := 0) (fun n g => (And.intro (fun _ => g) (fun q => absurd c_10 q))) ?_
    exact mm_re (c := [(0, .ref 0), (1, .int v1), (2, .int v2), (3, .int v3)]) hK rfl rfl
  · have hf := mo_neg hf c_10
    obtain ⟨hi_11, hf⟩ := mo_if hf
    obtain ⟨x_23, hl_23, hf⟩ := mo_bind hf
    refine mm_adv 10 (cs' := P_X12_rowsOf.drop 40) (l' := [(5, .int (0 : Int32)), (0, .ref 0), (1, .int v1), (2, .int v2), (3, .int v3), (4, .int w4)]) (st' := []) (h' := ms_H (ms_sA s 57 (upd (s.2.1 57) (w4).toNatClampNeg ((0 : Int32))))) (bc' := 0) (bs' := 0) (fun n g => (And.intro (fun q => absurd q c_10) (fun _ => (And.intro hi_11 g)))) ?_
    refine mm_re (l' := [(0, .ref 0), (1, .int v1), (2, .int v2), (3, .int v3), (4, .int w4), (5, .int (0 : Int32))]) (c := [(0, .ref 0), (1, .int v1), (2, .int v2), (3, .int v3), (4, .int w4), (5, .int (0 : Int32))]) ?_ rfl rfl
    refine mb_rowsOf_l40 h_copies h_fillsThen h_isCalm h_isStanding h_keepsMore h_numberNow (v1) (v2) (v3) (w4) ((0 : Int32), (ms_sA s 57 (upd (s.2.1 57) (w4).toNatClampNeg ((0 : Int32))))) x_23 hl_23 ?_
    obtain ⟨s_23, rfl⟩ : ∃ q, q = x_23 := ⟨_, rfl⟩
    refine mm_re (l' := [(0, .ref 0), (1, .int v1), (2, .int v2), (3, .int v3), (4, .int w4)]) (c := [(0, .ref 0), (1, .int v1), (2, .int v2), (3, .int v3), (4, .int w4)]) ?_ rfl rfl
    exact mb_rowsOf_j78 h_copies h_fillsThen h_isCalm h_isStanding h_keepsMore h_numberNow s_23 (v1) (v2) (v3) (w4) _ hf hK
noncomputable def mf_rowsOf_l25 (v1 : Int32) (v2 : Int32) : (Int32 × ms_S) → Option ((Int32 × ms_S) ⊕ ((ms_S))) := fun (w3, s) =>
(if v1 ≤ w3 then
some (.inr (s))
else
((mo_loop (mf_rowsOf_l30 (v1) (v2) (w3)) ((0 : Int32), s)).bind fun s_24 =>
((mf_keepsMore s_24 ).bind fun s_25 =>
some (.inl ((w3 + (1 : Int32)), s_25)))))
set_option maxHeartbeats 4000000 in
theorem mb_rowsOf_l25 {C : mm_C} {Q : mm_R} (h_copies : mk_copies C) (h_fillsThen : mk_fillsThen C) (h_isCalm : mk_isCalm C) (h_isStanding : mk_isStanding C) (h_keepsMore : mk_keepsMore C) (h_numberNow : mk_numberNow C) (v1 : Int32) (v2 : Int32) (t : Int32 × ms_S) (x : (ms_S)) (hl : mo_loop (mf_rowsOf_l25 v1 v2) t = some x) (hK : (fun sy => mm_go C mm_Mk mm_Fk P_X12_rowsOf Q (P_X12_rowsOf.drop 84) [(0, .ref 0)] [] (ms_H sy) 0 0) x) : (mo_c2 (fun y3 sy => mm_go C mm_Mk mm_Fk P_X12_rowsOf Q (P_X12_rowsOf.drop 25) [(0, .ref 0), (1, .int v1), (2, .int v2), (3, .int y3)] [] (ms_H sy) 0 0)) t := by
  refine mo_loop_go (G := (mo_c2 (fun y3 sy => mm_go C mm_Mk mm_Fk P_X12_rowsOf Q (P_X12_rowsOf.drop 25) [(0, .ref 0), (1, .int v1), (2, .int v2), (3, .int y3)] [] (ms_H sy) 0 0)) ) (K := (fun sy => mm_go C mm_Mk mm_Fk P_X12_rowsOf Q (P_X12_rowsOf.drop 84) [(0, .ref 0)] [] (ms_H sy) 0 0) ) ?_ t x hl hK
  intro t r hf hK
  obtain ⟨w3, s⟩ := t
  unfold mf_rowsOf_l25 at hf
  by_cases c_9 : v1 ≤ w3
  · have hf := mo_pos hf c_9
    obtain rfl := Option.some.inj hf
    refine mm_adv 3 (cs' := P_X12_rowsOf.drop 84) (l' := [(0, .ref 0), (1, .int v1), (2, .int v2), (3, .int w3)]) (st' := []) (h' := ms_H s) (bc' := 0) (bs' := 0) (fun n g => (And.intro (fun _ => g) (fun q => absurd c_9 q))) ?_
    exact mm_re (c := [(0, .ref 0)]) hK rfl rfl
  · have hf := mo_neg hf c_9
    obtain ⟨x_24, hl_24, hf⟩ := mo_bind hf
    refine mm_adv 5 (cs' := P_X12_rowsOf.drop 30) (l' := [(4, .int (0 : Int32)), (0, .ref 0), (1, .int v1), (2, .int v2), (3, .int w3)]) (st' := []) (h' := ms_H s) (bc' := 0) (bs' := 0) (fun n g => (And.intro (fun q => absurd q c_9) (fun _ => g))) ?_
    refine mm_re (l' := [(0, .ref 0), (1, .int v1), (2, .int v2), (3, .int w3), (4, .int (0 : Int32))]) (c := [(0, .ref 0), (1, .int v1), (2, .int v2), (3, .int w3), (4, .int (0 : Int32))]) ?_ rfl rfl
    refine mb_rowsOf_l30 h_copies h_fillsThen h_isCalm h_isStanding h_keepsMore h_numberNow (v1) (v2) (w3) ((0 : Int32), s) x_24 hl_24 ?_
    obtain ⟨s_24, rfl⟩ : ∃ q, q = x_24 := ⟨_, rfl⟩
    obtain ⟨s_25, hr_25, hf⟩ := mo_bind hf
    obtain rfl := Option.some.inj hf
    refine mm_adv 4 (cs' := P_X12_rowsOf.drop 25) (l' := [(3, .int (w3 + (1 : Int32))), (0, .ref 0), (1, .int v1), (2, .int v2)]) (st' := []) (h' := ms_H s_25) (bc' := 0) (bs' := 0) (fun n g => (h_keepsMore s_24  s_25 _ hr_25 g)) ?_
    exact mm_re (c := [(0, .ref 0), (1, .int v1), (2, .int v2), (3, .int (w3 + (1 : Int32)))]) hK rfl rfl
noncomputable def mf_rowsOf (s : ms_S) (a0 : Int32) (a1 : Int32) : Option (Int32 × ms_S) :=
((mf_copies s ).bind fun s_1 =>
((mf_fillsThen s_1 ).bind fun s_2 =>
((mo_loop (mf_rowsOf_l6 (a0) (a1)) ((0 : Int32), s_2)).bind fun s_8 =>
((mo_loop (mf_rowsOf_l25 (a0) (a1)) ((0 : Int32), s_8)).bind fun s_26 =>
((mf_numberNow s_26 ).bind fun (v_27, s_27) =>
((mo_ag 294 (s_27.2.1 56) v_27).bind fun x_28 =>
some (x_28, s_27)))))))
set_option maxHeartbeats 4000000 in
theorem mb_rowsOf {C : mm_C} {Q : mm_R} (h_copies : mk_copies C) (h_fillsThen : mk_fillsThen C) (h_isCalm : mk_isCalm C) (h_isStanding : mk_isStanding C) (h_keepsMore : mk_keepsMore C) (h_numberNow : mk_numberNow C) (s : ms_S) (a0 : Int32) (a1 : Int32) (v : Int32) (s2 : ms_S) (hf : mf_rowsOf s a0 a1 = some (v, s2)) (hK : Q (some (.int v)) (ms_H s2)) : mm_go C mm_Mk mm_Fk P_X12_rowsOf Q P_X12_rowsOf [(0, .ref 0), (1, .int a0), (2, .int a1)] [] (ms_H s) 0 0 := by
  unfold mf_rowsOf at hf
  obtain ⟨s_1, hr_1, hf⟩ := mo_bind hf
  obtain ⟨s_2, hr_2, hf⟩ := mo_bind hf
  obtain ⟨x_8, hl_8, hf⟩ := mo_bind hf
  refine mm_adv 6 (cs' := P_X12_rowsOf.drop 6) (l' := [(3, .int (0 : Int32)), (0, .ref 0), (1, .int a0), (2, .int a1)]) (st' := []) (h' := ms_H s_2) (bc' := 0) (bs' := 0) (fun n g => (h_copies s  s_1 _ hr_1 (h_fillsThen s_1  s_2 _ hr_2 g))) ?_
  refine mm_re (l' := [(0, .ref 0), (1, .int a0), (2, .int a1), (3, .int (0 : Int32))]) (c := [(0, .ref 0), (1, .int a0), (2, .int a1), (3, .int (0 : Int32))]) ?_ rfl rfl
  refine mb_rowsOf_l6 h_copies h_fillsThen h_isCalm h_isStanding h_keepsMore h_numberNow (a0) (a1) ((0 : Int32), s_2) x_8 hl_8 ?_
  obtain ⟨s_8, rfl⟩ : ∃ q, q = x_8 := ⟨_, rfl⟩
  obtain ⟨x_26, hl_26, hf⟩ := mo_bind hf
  refine mm_adv 2 (cs' := P_X12_rowsOf.drop 25) (l' := [(3, .int (0 : Int32)), (0, .ref 0), (1, .int a0), (2, .int a1)]) (st' := []) (h' := ms_H s_8) (bc' := 0) (bs' := 0) (fun n g => g) ?_
  refine mm_re (l' := [(0, .ref 0), (1, .int a0), (2, .int a1), (3, .int (0 : Int32))]) (c := [(0, .ref 0), (1, .int a0), (2, .int a1), (3, .int (0 : Int32))]) ?_ rfl rfl
  refine mb_rowsOf_l25 h_copies h_fillsThen h_isCalm h_isStanding h_keepsMore h_numberNow (a0) (a1) ((0 : Int32), s_8) x_26 hl_26 ?_
  obtain ⟨s_26, rfl⟩ : ∃ q, q = x_26 := ⟨_, rfl⟩
  obtain ⟨r_27, hr_27, hf⟩ := mo_bind hf
  obtain ⟨v_27, s_27⟩ := r_27
  obtain ⟨x_28, hx_28, hf⟩ := mo_bind hf
  obtain ⟨hi_28, rfl⟩ := mo_ag_inv hx_28
  obtain ⟨rfl, rfl⟩ := mo_pair hf
  exact ⟨6, (h_numberNow s_26  v_27 s_27 _ hr_27 (And.intro hi_28 hK))⟩
def mk_rowsOf (C : mm_C) : Prop := ∀ (s : ms_S) (a0 : Int32) (a1 : Int32) (v : Int32) (s2 : ms_S) (Q : mm_R), mf_rowsOf s a0 a1 = some (v, s2) → Q (some (.int v)) (ms_H s2) → C 92 [.ref 0, .int a0, .int a1] (ms_H s) Q
set_option maxRecDepth 100000 in
theorem mt_rowsOf (B : mm_C) (d : Nat) : mk_rowsOf (mm_ct B mm_Mk mm_Fk mm_PC (d + 8)) := fun s a0 a1 v s2 Q hf hK => Or.inr (mb_rowsOf (mt_copies B (d + 6)) (mt_fillsThen B (d + 0)) (mt_isCalm B (d + 6)) (mt_isStanding B (d + 6)) (mt_keepsMore B (d + 6)) (mt_numberNow B (d + 5)) s a0 a1 v s2 hf hK)
