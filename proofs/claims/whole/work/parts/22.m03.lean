/-! the reference, method by method, 3 -/
-- X12_place
noncomputable def mf_place (s : ms_S)  : Option (Int32 × ms_S) :=
some ((s.1 17), s)
set_option maxHeartbeats 4000000 in
theorem mb_place {C : mm_C} {Q : mm_R}  (s : ms_S)  (v : Int32) (s2 : ms_S) (hf : mf_place s = some (v, s2)) (hK : Q (some (.int v)) (ms_H s2)) : mm_go C mm_Mk mm_Fk P_X12_place Q P_X12_place [(0, .ref 0)] [] (ms_H s) 0 0 := by
  unfold mf_place at hf
  obtain ⟨rfl, rfl⟩ := mo_pair hf
  exact ⟨3, hK⟩
def mk_place (C : mm_C) : Prop := ∀ (s : ms_S)  (v : Int32) (s2 : ms_S) (Q : mm_R), mf_place s = some (v, s2) → Q (some (.int v)) (ms_H s2) → C 19 [.ref 0] (ms_H s) Q
set_option maxRecDepth 100000 in
theorem mt_place (B : mm_C) (d : Nat) : mk_place (mm_ct B mm_Mk mm_Fk mm_PC (d + 1)) := fun s v s2 Q hf hK => Or.inr (mb_place  s v s2 hf hK)
-- X12_termOf
noncomputable def mf_termOf_j88 (s : ms_S) (v2 : Int32) (v3 : Int32) (v4 : Int32) : Option ((Int32 × Int32 × ms_S) ⊕ ((ms_S) ⊕ (ms_S))) :=
some (.inl (v3, (v4 + (1 : Int32)), s))
set_option maxHeartbeats 4000000 in
theorem mb_termOf_j88 {C : mm_C} {Q : mm_R}  (s : ms_S) (v2 : Int32) (v3 : Int32) (v4 : Int32) (r : (Int32 × Int32 × ms_S) ⊕ ((ms_S) ⊕ (ms_S))) (hf : mf_termOf_j88 s v2 v3 v4 = some r) (hK : mo_sum (mo_c2 (fun y3 => (mo_c2 (fun y4 sy => mm_go C mm_Mk mm_Fk P_X12_termOf Q (P_X12_termOf.drop 4) [(0, .ref 0), (2, .int v2), (3, .int y3), (4, .int y4)] [] (ms_H sy) 0 0))))  (mo_sum (fun sy => mm_go C mm_Mk mm_Fk P_X12_termOf Q (P_X12_termOf.drop 53) [(0, .ref 0)] [] (ms_H sy) 0 0) (fun sy => mm_go C mm_Mk mm_Fk P_X12_termOf Q (P_X12_termOf.drop 90) [(0, .ref 0)] [] (ms_H sy) 0 0))  r) : mm_go C mm_Mk mm_Fk P_X12_termOf Q (P_X12_termOf.drop 88) [(0, .ref 0), (2, .int v2), (3, .int v3), (4, .int v4)] [] (ms_H s) 0 0 := by
  unfold mf_termOf_j88 at hf
  obtain rfl := Option.some.inj hf
  refine mm_adv 2 (cs' := P_X12_termOf.drop 4) (l' := [(4, .int (v4 + (1 : Int32))), (0, .ref 0), (2, .int v2), (3, .int v3)]) (st' := []) (h' := ms_H s) (bc' := 0) (bs' := 0) (fun n g => g) ?_
  exact mm_re (c := [(0, .ref 0), (2, .int v2), (3, .int v3), (4, .int (v4 + (1 : Int32)))]) hK rfl rfl
noncomputable def mf_termOf_j87 (s : ms_S) (v2 : Int32) (v3 : Int32) (v4 : Int32) (k0 : Int32) (k1 : Int32) : Option ((Int32 × Int32 × ms_S) ⊕ ((ms_S) ⊕ (ms_S))) :=
(bif mo_in k1 400 then (mf_termOf_j88 ((ms_sA s 45 (upd (s.2.1 45) (k1).toNatClampNeg (k0)))) (v2) (v3) (v4)) else none)
set_option maxHeartbeats 4000000 in
theorem mb_termOf_j87 {C : mm_C} {Q : mm_R}  (s : ms_S) (v2 : Int32) (v3 : Int32) (v4 : Int32) (k0 : Int32) (k1 : Int32) (r : (Int32 × Int32 × ms_S) ⊕ ((ms_S) ⊕ (ms_S))) (hf : mf_termOf_j87 s v2 v3 v4 k0 k1 = some r) (hK : mo_sum (mo_c2 (fun y3 => (mo_c2 (fun y4 sy => mm_go C mm_Mk mm_Fk P_X12_termOf Q (P_X12_termOf.drop 4) [(0, .ref 0), (2, .int v2), (3, .int y3), (4, .int y4)] [] (ms_H sy) 0 0))))  (mo_sum (fun sy => mm_go C mm_Mk mm_Fk P_X12_termOf Q (P_X12_termOf.drop 53) [(0, .ref 0)] [] (ms_H sy) 0 0) (fun sy => mm_go C mm_Mk mm_Fk P_X12_termOf Q (P_X12_termOf.drop 90) [(0, .ref 0)] [] (ms_H sy) 0 0))  r) : mm_go C mm_Mk mm_Fk P_X12_termOf Q (P_X12_termOf.drop 87) [(0, .ref 0), (2, .int v2), (3, .int v3), (4, .int v4)] [.int k0, .int k1, .ref 29] (ms_H s) 0 0 := by
  unfold mf_termOf_j87 at hf
  obtain ⟨hi_9, hf⟩ := mo_if hf
  refine mm_adv 1 (cs' := P_X12_termOf.drop 88) (l' := [(0, .ref 0), (2, .int v2), (3, .int v3), (4, .int v4)]) (st' := []) (h' := ms_H (ms_sA s 45 (upd (s.2.1 45) (k1).toNatClampNeg (k0)))) (bc' := 0) (bs' := 0) (fun n g => (And.intro hi_9 g)) ?_
  refine mm_re (l' := [(0, .ref 0), (2, .int v2), (3, .int v3), (4, .int v4)]) (c := [(0, .ref 0), (2, .int v2), (3, .int v3), (4, .int v4)]) ?_ rfl rfl
  exact mb_termOf_j88  (ms_sA s 45 (upd (s.2.1 45) (k1).toNatClampNeg (k0))) (v2) (v3) (v4) _ hf hK
noncomputable def mf_termOf_j58 (s : ms_S) (v2 : Int32) (v3 : Int32) (v4 : Int32) (v5 : Int32) (v6 : Int32) (v7 : Int32) : Option ((Int32 × Int32 × ms_S) ⊕ ((ms_S) ⊕ (ms_S))) :=
(if v5 = (2 : Int32) then
(mf_termOf_j87 (s) (v2) (v3) (v4) ((v6 + v7)) ((v3 - (1 : Int32))))
else
(if v5 = (3 : Int32) then
(mf_termOf_j87 (s) (v2) (v3) (v4) ((v6 - v7)) ((v3 - (1 : Int32))))
else
(if v5 = (4 : Int32) then
(mf_termOf_j87 (s) (v2) (v3) (v4) ((v6 * v7)) ((v3 - (1 : Int32))))
else
(if v7 = 0 then none else (mf_termOf_j87 (s) (v2) (v3) (v4) ((v6 / v7)) ((v3 - (1 : Int32))))))))
set_option maxHeartbeats 4000000 in
theorem mb_termOf_j58 {C : mm_C} {Q : mm_R}  (s : ms_S) (v2 : Int32) (v3 : Int32) (v4 : Int32) (v5 : Int32) (v6 : Int32) (v7 : Int32) (r : (Int32 × Int32 × ms_S) ⊕ ((ms_S) ⊕ (ms_S))) (hf : mf_termOf_j58 s v2 v3 v4 v5 v6 v7 = some r) (hK : mo_sum (mo_c2 (fun y3 => (mo_c2 (fun y4 sy => mm_go C mm_Mk mm_Fk P_X12_termOf Q (P_X12_termOf.drop 4) [(0, .ref 0), (2, .int v2), (3, .int y3), (4, .int y4)] [] (ms_H sy) 0 0))))  (mo_sum (fun sy => mm_go C mm_Mk mm_Fk P_X12_termOf Q (P_X12_termOf.drop 53) [(0, .ref 0)] [] (ms_H sy) 0 0) (fun sy => mm_go C mm_Mk mm_Fk P_X12_termOf Q (P_X12_termOf.drop 90) [(0, .ref 0)] [] (ms_H sy) 0 0))  r) : mm_go C mm_Mk mm_Fk P_X12_termOf Q (P_X12_termOf.drop 58) [(0, .ref 0), (2, .int v2), (3, .int v3), (4, .int v4), (5, .int v5), (6, .int v6), (7, .int v7)] [] (ms_H s) 0 0 := by
  unfold mf_termOf_j58 at hf
  by_cases c_8 : v5 = (2 : Int32)
  · have hf := mo_pos hf c_8
    refine mm_adv 12 (cs' := P_X12_termOf.drop 87) (l' := [(0, .ref 0), (2, .int v2), (3, .int v3), (4, .int v4), (5, .int v5), (6, .int v6), (7, .int v7)]) (st' := [.int (v6 + v7), .int (v3 - (1 : Int32)), .ref 29]) (h' := ms_H s) (bc' := 0) (bs' := 0) (fun n g => (And.intro (fun q => absurd c_8 q) (fun _ => g))) ?_
    refine mm_re (l' := [(0, .ref 0), (2, .int v2), (3, .int v3), (4, .int v4)]) (c := [(0, .ref 0), (2, .int v2), (3, .int v3), (4, .int v4)]) ?_ rfl rfl
    exact mb_termOf_j87  s (v2) (v3) (v4) ((v6 + v7)) ((v3 - (1 : Int32))) _ hf hK
  · have hf := mo_neg hf c_8
    by_cases c_10 : v5 = (3 : Int32)
    · have hf := mo_pos hf c_10
      refine mm_adv 15 (cs' := P_X12_termOf.drop 87) (l' := [(0, .ref 0), (2, .int v2), (3, .int v3), (4, .int v4), (5, .int v5), (6, .int v6), (7, .int v7)]) (st' := [.int (v6 - v7), .int (v3 - (1 : Int32)), .ref 29]) (h' := ms_H s) (bc' := 0) (bs' := 0) (fun n g => (And.intro (fun _ => (And.intro (fun q => absurd c_10 q) (fun _ => g))) (fun q => absurd c_8 q))) ?_
      refine mm_re (l' := [(0, .ref 0), (2, .int v2), (3, .int v3), (4, .int v4)]) (c := [(0, .ref 0), (2, .int v2), (3, .int v3), (4, .int v4)]) ?_ rfl rfl
      exact mb_termOf_j87  s (v2) (v3) (v4) ((v6 - v7)) ((v3 - (1 : Int32))) _ hf hK
    · have hf := mo_neg hf c_10
      by_cases c_11 : v5 = (4 : Int32)
      · have hf := mo_pos hf c_11
        refine mm_adv 18 (cs' := P_X12_termOf.drop 87) (l' := [(0, .ref 0), (2, .int v2), (3, .int v3), (4, .int v4), (5, .int v5), (6, .int v6), (7, .int v7)]) (st' := [.int (v6 * v7), .int (v3 - (1 : Int32)), .ref 29]) (h' := ms_H s) (bc' := 0) (bs' := 0) (fun n g => (And.intro (fun _ => (And.intro (fun _ => (And.intro (fun q => absurd c_11 q) (fun _ => g))) (fun q => absurd c_10 q))) (fun q => absurd c_8 q))) ?_
        refine mm_re (l' := [(0, .ref 0), (2, .int v2), (3, .int v3), (4, .int v4)]) (c := [(0, .ref 0), (2, .int v2), (3, .int v3), (4, .int v4)]) ?_ rfl rfl
        exact mb_termOf_j87  s (v2) (v3) (v4) ((v6 * v7)) ((v3 - (1 : Int32))) _ hf hK
      · have hf := mo_neg hf c_11
        obtain ⟨hz_12, hf⟩ := mo_nz hf
        refine mm_adv 17 (cs' := P_X12_termOf.drop 87) (l' := [(0, .ref 0), (2, .int v2), (3, .int v3), (4, .int v4), (5, .int v5), (6, .int v6), (7, .int v7)]) (st' := [.int (v6 / v7), .int (v3 - (1 : Int32)), .ref 29]) (h' := ms_H s) (bc' := 0) (bs' := 0) (fun n g => (And.intro (fun _ => (And.intro (fun _ => (And.intro (fun _ => (And.intro hz_12 g)) (fun q => absurd c_11 q))) (fun q => absurd c_10 q))) (fun q => absurd c_8 q))) ?_
        refine mm_re (l' := [(0, .ref 0), (2, .int v2), (3, .int v3), (4, .int v4)]) (c := [(0, .ref 0), (2, .int v2), (3, .int v3), (4, .int v4)]) ?_ rfl rfl
        exact mb_termOf_j87  s (v2) (v3) (v4) ((v6 / v7)) ((v3 - (1 : Int32))) _ hf hK
noncomputable def mf_termOf_j32 (s : ms_S) (v2 : Int32) (v3 : Int32) (v4 : Int32) (k0 : Int32) (k1 : Int32) : Option ((Int32 × Int32 × ms_S) ⊕ ((ms_S) ⊕ (ms_S))) :=
(bif mo_in k1 400 then (mf_termOf_j88 ((ms_sA s 45 (upd (s.2.1 45) (k1).toNatClampNeg (k0)))) (v2) ((v3 + (1 : Int32))) (v4)) else none)
set_option maxHeartbeats 4000000 in
theorem mb_termOf_j32 {C : mm_C} {Q : mm_R}  (s : ms_S) (v2 : Int32) (v3 : Int32) (v4 : Int32) (k0 : Int32) (k1 : Int32) (r : (Int32 × Int32 × ms_S) ⊕ ((ms_S) ⊕ (ms_S))) (hf : mf_termOf_j32 s v2 v3 v4 k0 k1 = some r) (hK : mo_sum (mo_c2 (fun y3 => (mo_c2 (fun y4 sy => mm_go C mm_Mk mm_Fk P_X12_termOf Q (P_X12_termOf.drop 4) [(0, .ref 0), (2, .int v2), (3, .int y3), (4, .int y4)] [] (ms_H sy) 0 0))))  (mo_sum (fun sy => mm_go C mm_Mk mm_Fk P_X12_termOf Q (P_X12_termOf.drop 53) [(0, .ref 0)] [] (ms_H sy) 0 0) (fun sy => mm_go C mm_Mk mm_Fk P_X12_termOf Q (P_X12_termOf.drop 90) [(0, .ref 0)] [] (ms_H sy) 0 0))  r) : mm_go C mm_Mk mm_Fk P_X12_termOf Q (P_X12_termOf.drop 32) [(0, .ref 0), (2, .int v2), (3, .int v3), (4, .int v4)] [.int k0, .int k1, .ref 29] (ms_H s) 0 0 := by
  unfold mf_termOf_j32 at hf
  obtain ⟨hi_15, hf⟩ := mo_if hf
  refine mm_adv 3 (cs' := P_X12_termOf.drop 88) (l' := [(3, .int (v3 + (1 : Int32))), (0, .ref 0), (2, .int v2), (4, .int v4)]) (st' := []) (h' := ms_H (ms_sA s 45 (upd (s.2.1 45) (k1).toNatClampNeg (k0)))) (bc' := 0) (bs' := 0) (fun n g => (And.intro hi_15 g)) ?_
  refine mm_re (l' := [(0, .ref 0), (2, .int v2), (3, .int (v3 + (1 : Int32))), (4, .int v4)]) (c := [(0, .ref 0), (2, .int v2), (3, .int (v3 + (1 : Int32))), (4, .int v4)]) ?_ rfl rfl
  exact mb_termOf_j88  (ms_sA s 45 (upd (s.2.1 45) (k1).toNatClampNeg (k0))) (v2) ((v3 + (1 : Int32))) (v4) _ hf hK
noncomputable def mf_termOf_l4 (v2 : Int32) : (Int32 × Int32 × ms_S) → Option ((Int32 × Int32 × ms_S) ⊕ ((ms_S) ⊕ (ms_S))) := fun (w3, w4, s) =>
(if v2 ≤ w4 then
some (.inr (.inr (s)))
else
((mo_ag 840 (s.2.1 40) w4).bind fun x_2 =>
(if (2 : Int32) ≤ x_2 then
((mo_ag 400 (s.2.1 45) ((w3 + (-1 : Int32)) - (1 : Int32))).bind fun x_4 =>
((mo_ag 400 (s.2.1 45) (w3 + (-1 : Int32))).bind fun x_5 =>
(if x_2 = (5 : Int32) then
(if x_5 = (0 : Int32) then
some (.inr (.inl (s)))
else
(mf_termOf_j58 (s) (v2) ((w3 + (-1 : Int32))) (w4) (x_2) (x_4) (x_5)))
else
(mf_termOf_j58 (s) (v2) ((w3 + (-1 : Int32))) (w4) (x_2) (x_4) (x_5)))))
else
(if x_2 = (0 : Int32) then
((mo_ag 840 (s.2.1 41) w4).bind fun x_14 =>
(mf_termOf_j32 (s) (v2) (w3) (w4) (x_14) (w3)))
else
((mo_ag 840 (s.2.1 41) w4).bind fun x_16 =>
((mo_ag 9 (s.2.1 44) x_16).bind fun x_17 =>
(mf_termOf_j32 (s) (v2) (w3) (w4) (x_17) (w3))))))))
set_option maxHeartbeats 4000000 in
theorem mb_termOf_l4 {C : mm_C} {Q : mm_R}  (v2 : Int32) (t : Int32 × Int32 × ms_S) (x : (ms_S) ⊕ (ms_S)) (hl : mo_loop (mf_termOf_l4 v2) t = some x) (hK : (mo_sum (fun sy => mm_go C mm_Mk mm_Fk P_X12_termOf Q (P_X12_termOf.drop 53) [(0, .ref 0)] [] (ms_H sy) 0 0) (fun sy => mm_go C mm_Mk mm_Fk P_X12_termOf Q (P_X12_termOf.drop 90) [(0, .ref 0)] [] (ms_H sy) 0 0)) x) : (mo_c2 (fun y3 => (mo_c2 (fun y4 sy => mm_go C mm_Mk mm_Fk P_X12_termOf Q (P_X12_termOf.drop 4) [(0, .ref 0), (2, .int v2), (3, .int y3), (4, .int y4)] [] (ms_H sy) 0 0)))) t := by
  refine mo_loop_go (G := (mo_c2 (fun y3 => (mo_c2 (fun y4 sy => mm_go C mm_Mk mm_Fk P_X12_termOf Q (P_X12_termOf.drop 4) [(0, .ref 0), (2, .int v2), (3, .int y3), (4, .int y4)] [] (ms_H sy) 0 0)))) ) (K := (mo_sum (fun sy => mm_go C mm_Mk mm_Fk P_X12_termOf Q (P_X12_termOf.drop 53) [(0, .ref 0)] [] (ms_H sy) 0 0) (fun sy => mm_go C mm_Mk mm_Fk P_X12_termOf Q (P_X12_termOf.drop 90) [(0, .ref 0)] [] (ms_H sy) 0 0)) ) ?_ t x hl hK
  intro t r hf hK
  obtain ⟨w3, w4, s⟩ := t
  unfold mf_termOf_l4 at hf
  by_cases c_1 : v2 ≤ w4
  · have hf := mo_pos hf c_1
    obtain rfl := Option.some.inj hf
    refine mm_adv 3 (cs' := P_X12_termOf.drop 90) (l' := [(0, .ref 0), (2, .int v2), (3, .int w3), (4, .int w4)]) (st' := []) (h' := ms_H s) (bc' := 0) (bs' := 0) (fun n g => (And.intro (fun _ => g) (fun q => absurd c_1 q))) ?_
    exact mm_re (c := [(0, .ref 0)]) hK rfl rfl
  · have hf := mo_neg hf c_1
    obtain ⟨x_2, hx_2, hf⟩ := mo_bind hf
    obtain ⟨hi_2, rfl⟩ := mo_ag_inv hx_2
    by_cases c_3 : (2 : Int32) ≤ ((s.2.1 40) (w4).toNatClampNeg)
    · have hf := mo_pos hf c_3
      obtain ⟨x_4, hx_4, hf⟩ := mo_bind hf
      obtain ⟨hi_4, rfl⟩ := mo_ag_inv hx_4
      obtain ⟨x_5, hx_5, hf⟩ := mo_bind hf
      obtain ⟨hi_5, rfl⟩ := mo_ag_inv hx_5
      by_cases c_6 : ((s.2.1 40) (w4).toNatClampNeg) = (5 : Int32)
      · have hf := mo_pos hf c_6
        by_cases c_7 : ((s.2.1 45) ((w3 + (-1 : Int32))).toNatClampNeg) = (0 : Int32)
        · have hf := mo_pos hf c_7
          obtain rfl := Option.some.inj hf
          refine mm_adv 29 (cs' := P_X12_termOf.drop 53) (l' := [(7, .int ((s.2.1 45) ((w3 + (-1 : Int32))).toNatClampNeg)), (6, .int ((s.2.1 45) (((w3 + (-1 : Int32)) - (1 : Int32))).toNatClampNeg)), (3, .int (w3 + (-1 : Int32))), (5, .int ((s.2.1 40) (w4).toNatClampNeg)), (0, .ref 0), (2, .int v2), (4, .int w4)]) (st' := []) (h' := ms_H s) (bc' := 0) (bs' := 0) (fun n g => (And.intro (fun q => absurd q c_1) (fun _ => (And.intro hi_2 (And.intro (fun _ => (And.intro hi_4 (And.intro hi_5 (And.intro (fun q => absurd c_6 q) (fun _ => (And.intro (fun q => absurd c_7 q) (fun _ => g))))))) (fun q => absurd c_3 q)))))) ?_
          exact mm_re (c := [(0, .ref 0)]) hK rfl rfl
        · have hf := mo_neg hf c_7
          refine mm_adv 29 (cs' := P_X12_termOf.drop 58) (l' := [(7, .int ((s.2.1 45) ((w3 + (-1 : Int32))).toNatClampNeg)), (6, .int ((s.2.1 45) (((w3 + (-1 : Int32)) - (1 : Int32))).toNatClampNeg)), (3, .int (w3 + (-1 : Int32))), (5, .int ((s.2.1 40) (w4).toNatClampNeg)), (0, .ref 0), (2, .int v2), (4, .int w4)]) (st' := []) (h' := ms_H s) (bc' := 0) (bs' := 0) (fun n g => (And.intro (fun q => absurd q c_1) (fun _ => (And.intro hi_2 (And.intro (fun _ => (And.intro hi_4 (And.intro hi_5 (And.intro (fun q => absurd c_6 q) (fun _ => (And.intro (fun _ => g) (fun q => absurd c_7 q))))))) (fun q => absurd c_3 q)))))) ?_
          refine mm_re (l' := [(0, .ref 0), (2, .int v2), (3, .int (w3 + (-1 : Int32))), (4, .int w4), (5, .int ((s.2.1 40) (w4).toNatClampNeg)), (6, .int ((s.2.1 45) (((w3 + (-1 : Int32)) - (1 : Int32))).toNatClampNeg)), (7, .int ((s.2.1 45) ((w3 + (-1 : Int32))).toNatClampNeg))]) (c := [(0, .ref 0), (2, .int v2), (3, .int (w3 + (-1 : Int32))), (4, .int w4), (5, .int ((s.2.1 40) (w4).toNatClampNeg)), (6, .int ((s.2.1 45) (((w3 + (-1 : Int32)) - (1 : Int32))).toNatClampNeg)), (7, .int ((s.2.1 45) ((w3 + (-1 : Int32))).toNatClampNeg))]) ?_ rfl rfl
          exact mb_termOf_j58  s (v2) ((w3 + (-1 : Int32))) (w4) (((s.2.1 40) (w4).toNatClampNeg)) (((s.2.1 45) (((w3 + (-1 : Int32)) - (1 : Int32))).toNatClampNeg)) (((s.2.1 45) ((w3 + (-1 : Int32))).toNatClampNeg)) _ hf hK
      · have hf := mo_neg hf c_6
        refine mm_adv 27 (cs' := P_X12_termOf.drop 58) (l' := [(7, .int ((s.2.1 45) ((w3 + (-1 : Int32))).toNatClampNeg)), (6, .int ((s.2.1 45) (((w3 + (-1 : Int32)) - (1 : Int32))).toNatClampNeg)), (3, .int (w3 + (-1 : Int32))), (5, .int ((s.2.1 40) (w4).toNatClampNeg)), (0, .ref 0), (2, .int v2), (4, .int w4)]) (st' := []) (h' := ms_H s) (bc' := 0) (bs' := 0) (fun n g => (And.intro (fun q => absurd q c_1) (fun _ => (And.intro hi_2 (And.intro (fun _ => (And.intro hi_4 (And.intro hi_5 (And.intro (fun _ => g) (fun q => absurd c_6 q))))) (fun q => absurd c_3 q)))))) ?_
        refine mm_re (l' := [(0, .ref 0), (2, .int v2), (3, .int (w3 + (-1 : Int32))), (4, .int w4), (5, .int ((s.2.1 40) (w4).toNatClampNeg)), (6, .int ((s.2.1 45) (((w3 + (-1 : Int32)) - (1 : Int32))).toNatClampNeg)), (7, .int ((s.2.1 45) ((w3 + (-1 : Int32))).toNatClampNeg))]) (c := [(0, .ref 0), (2, .int v2), (3, .int (w3 + (-1 : Int32))), (4, .int w4), (5, .int ((s.2.1 40) (w4).toNatClampNeg)), (6, .int ((s.2.1 45) (((w3 + (-1 : Int32)) - (1 : Int32))).toNatClampNeg)), (7, .int ((s.2.1 45) ((w3 + (-1 : Int32))).toNatClampNeg))]) ?_ rfl rfl
        exact mb_termOf_j58  s (v2) ((w3 + (-1 : Int32))) (w4) (((s.2.1 40) (w4).toNatClampNeg)) (((s.2.1 45) (((w3 + (-1 : Int32)) - (1 : Int32))).toNatClampNeg)) (((s.2.1 45) ((w3 + (-1 : Int32))).toNatClampNeg)) _ hf hK
    · have hf := mo_neg hf c_3
      by_cases c_13 : ((s.2.1 40) (w4).toNatClampNeg) = (0 : Int32)
      · have hf := mo_pos hf c_13
        obtain ⟨x_14, hx_14, hf⟩ := mo_bind hf
        obtain ⟨hi_14, rfl⟩ := mo_ag_inv hx_14
        refine mm_adv 21 (cs' := P_X12_termOf.drop 32) (l' := [(5, .int ((s.2.1 40) (w4).toNatClampNeg)), (0, .ref 0), (2, .int v2), (3, .int w3), (4, .int w4)]) (st' := [.int ((s.2.1 41) (w4).toNatClampNeg), .int w3, .ref 29]) (h' := ms_H s) (bc' := 0) (bs' := 0) (fun n g => (And.intro (fun q => absurd q c_1) (fun _ => (And.intro hi_2 (And.intro (fun q => absurd q c_3) (fun _ => (And.intro (fun q => absurd c_13 q) (fun _ => (And.intro hi_14 g))))))))) ?_
        refine mm_re (l' := [(0, .ref 0), (2, .int v2), (3, .int w3), (4, .int w4)]) (c := [(0, .ref 0), (2, .int v2), (3, .int w3), (4, .int w4)]) ?_ rfl rfl
        exact mb_termOf_j32  s (v2) (w3) (w4) (((s.2.1 41) (w4).toNatClampNeg)) (w3) _ hf hK
      · have hf := mo_neg hf c_13
        obtain ⟨x_16, hx_16, hf⟩ := mo_bind hf
        obtain ⟨hi_16, rfl⟩ := mo_ag_inv hx_16
        obtain ⟨x_17, hx_17, hf⟩ := mo_bind hf
        obtain ⟨hi_17, rfl⟩ := mo_ag_inv hx_17
        refine mm_adv 23 (cs' := P_X12_termOf.drop 32) (l' := [(5, .int ((s.2.1 40) (w4).toNatClampNeg)), (0, .ref 0), (2, .int v2), (3, .int w3), (4, .int w4)]) (st' := [.int ((s.2.1 44) (((s.2.1 41) (w4).toNatClampNeg)).toNatClampNeg), .int w3, .ref 29]) (h' := ms_H s) (bc' := 0) (bs' := 0) (fun n g => (And.intro (fun q => absurd q c_1) (fun _ => (And.intro hi_2 (And.intro (fun q => absurd q c_3) (fun _ => (And.intro (fun _ => (And.intro hi_16 (And.intro hi_17 g))) (fun q => absurd c_13 q)))))))) ?_
        refine mm_re (l' := [(0, .ref 0), (2, .int v2), (3, .int w3), (4, .int w4)]) (c := [(0, .ref 0), (2, .int v2), (3, .int w3), (4, .int w4)]) ?_ rfl rfl
        exact mb_termOf_j32  s (v2) (w3) (w4) (((s.2.1 44) (((s.2.1 41) (w4).toNatClampNeg)).toNatClampNeg)) (w3) _ hf hK
noncomputable def mf_termOf (s : ms_S) (a0 : Int32) (a1 : Int32) : Option (Int32 × ms_S) :=
((mo_loop (mf_termOf_l4 (a1)) ((0 : Int32), a0, s)).bind fun x_18 =>
match x_18 with
| (.inl s_18) => some ((0 : Int32), (ms_sI s_18 46 ((1 : Int32))))
| (.inr s_18) => some ((s_18.2.1 45 0), s_18)
)
set_option maxHeartbeats 4000000 in
theorem mb_termOf {C : mm_C} {Q : mm_R}  (s : ms_S) (a0 : Int32) (a1 : Int32) (v : Int32) (s2 : ms_S) (hf : mf_termOf s a0 a1 = some (v, s2)) (hK : Q (some (.int v)) (ms_H s2)) : mm_go C mm_Mk mm_Fk P_X12_termOf Q P_X12_termOf [(0, .ref 0), (1, .int a0), (2, .int a1)] [] (ms_H s) 0 0 := by
  unfold mf_termOf at hf
  obtain ⟨x_18, hl_18, hf⟩ := mo_bind hf
  refine mm_adv 4 (cs' := P_X12_termOf.drop 4) (l' := [(4, .int a0), (3, .int (0 : Int32)), (0, .ref 0), (1, .int a0), (2, .int a1)]) (st' := []) (h' := ms_H s) (bc' := 0) (bs' := 0) (fun n g => g) ?_
  refine mm_re (l' := [(0, .ref 0), (2, .int a1), (3, .int (0 : Int32)), (4, .int a0)]) (c := [(0, .ref 0), (2, .int a1), (3, .int (0 : Int32)), (4, .int a0)]) ?_ rfl rfl
  refine mb_termOf_l4  (a1) ((0 : Int32), a0, s) x_18 hl_18 ?_
  cases x_18 with
  | inl y_18 =>
    obtain ⟨s_18, rfl⟩ : ∃ q, q = y_18 := ⟨_, rfl⟩
    obtain ⟨rfl, rfl⟩ := mo_pair hf
    exact ⟨5, (And.intro rfl hK)⟩
  | inr z_18_0 =>
    obtain ⟨s_18, rfl⟩ : ∃ q, q = z_18_0 := ⟨_, rfl⟩
    obtain ⟨rfl, rfl⟩ := mo_pair hf
    exact ⟨5, (And.intro (mm_vi rfl) hK)⟩
def mk_termOf (C : mm_C) : Prop := ∀ (s : ms_S) (a0 : Int32) (a1 : Int32) (v : Int32) (s2 : ms_S) (Q : mm_R), mf_termOf s a0 a1 = some (v, s2) → Q (some (.int v)) (ms_H s2) → C 32 [.ref 0, .int a0, .int a1] (ms_H s) Q
set_option maxRecDepth 100000 in
theorem mt_termOf (B : mm_C) (d : Nat) : mk_termOf (mm_ct B mm_Mk mm_Fk mm_PC (d + 1)) := fun s a0 a1 v s2 Q hf hK => Or.inr (mb_termOf  s a0 a1 v s2 hf hK)
-- X12_in
noncomputable def mf_in (a0 : Int32) (a1 : Int32) (a2 : Int32) : Option (Int32) :=
(if a0 < a1 then
some ((0 : Int32))
else
(if a2 < a0 then
some ((0 : Int32))
else
some ((1 : Int32))))
set_option maxHeartbeats 4000000 in
theorem mb_in {C : mm_C} {Q : mm_R}  {h : mm_H} (a0 : Int32) (a1 : Int32) (a2 : Int32) (v : Int32) (hf : mf_in a0 a1 a2 = some v) (hK : Q (some (.int v)) h) : mm_go C mm_Mk mm_Fk P_X12_in Q P_X12_in [(0, .int a0), (1, .int a1), (2, .int a2)] [] h 0 0 := by
  unfold mf_in at hf
  by_cases c_1 : a0 < a1
  · have hf := mo_pos hf c_1
    obtain rfl := Option.some.inj hf
    exact ⟨5, (And.intro (fun _ => (And.intro rfl hK)) (fun q => absurd c_1 q))⟩
  · have hf := mo_neg hf c_1
    by_cases c_2 : a2 < a0
    · have hf := mo_pos hf c_2
      obtain rfl := Option.some.inj hf
      exact ⟨8, (And.intro (fun q => absurd q c_1) (fun _ => (And.intro (fun _ => (And.intro rfl hK)) (fun q => absurd c_2 q))))⟩
    · have hf := mo_neg hf c_2
      obtain rfl := Option.some.inj hf
      exact ⟨9, (And.intro (fun q => absurd q c_1) (fun _ => (And.intro (fun q => absurd q c_2) (fun _ => (And.intro rfl hK)))))⟩
def mk_in (C : mm_C) : Prop := ∀ (h : mm_H) (a0 : Int32) (a1 : Int32) (a2 : Int32) (v : Int32) (Q : mm_R), mf_in a0 a1 a2 = some v → Q (some (.int v)) h → C 33 [.int a0, .int a1, .int a2] h Q
set_option maxRecDepth 100000 in
theorem mt_in (B : mm_C) (d : Nat) : mk_in (mm_ct B mm_Mk mm_Fk mm_PC (d + 1)) := fun h a0 a1 a2 v Q hf hK => Or.inr (mb_in  a0 a1 a2 v hf hK)
-- X12_within
noncomputable def mf_within (a0 : Int32) (a1 : Int32) (a2 : Int32) : Option (Int32) :=
(if a1 ≤ a0 then
(if a0 ≤ a2 then
some (a0)
else
some (a2))
else
some (a1))
set_option maxHeartbeats 4000000 in
theorem mb_within {C : mm_C} {Q : mm_R}  {h : mm_H} (a0 : Int32) (a1 : Int32) (a2 : Int32) (v : Int32) (hf : mf_within a0 a1 a2 = some v) (hK : Q (some (.int v)) h) : mm_go C mm_Mk mm_Fk P_X12_within Q P_X12_within [(0, .int a0), (1, .int a1), (2, .int a2)] [] h 0 0 := by
  unfold mf_within at hf
  by_cases c_1 : a1 ≤ a0
  · have hf := mo_pos hf c_1
    by_cases c_2 : a0 ≤ a2
    · have hf := mo_pos hf c_2
      obtain rfl := Option.some.inj hf
      exact ⟨8, (And.intro (fun _ => (And.intro (fun _ => hK) (fun q => absurd c_2 q))) (fun q => absurd c_1 q))⟩
    · have hf := mo_neg hf c_2
      obtain rfl := Option.some.inj hf
      exact ⟨9, (And.intro (fun _ => (And.intro (fun q => absurd q c_2) (fun _ => hK))) (fun q => absurd c_1 q))⟩
  · have hf := mo_neg hf c_1
    obtain rfl := Option.some.inj hf
    exact ⟨6, (And.intro (fun q => absurd q c_1) (fun _ => hK))⟩
def mk_within (C : mm_C) : Prop := ∀ (h : mm_H) (a0 : Int32) (a1 : Int32) (a2 : Int32) (v : Int32) (Q : mm_R), mf_within a0 a1 a2 = some v → Q (some (.int v)) h → C 34 [.int a0, .int a1, .int a2] h Q
set_option maxRecDepth 100000 in
theorem mt_within (B : mm_C) (d : Nat) : mk_within (mm_ct B mm_Mk mm_Fk mm_PC (d + 1)) := fun h a0 a1 a2 v Q hf hK => Or.inr (mb_within  a0 a1 a2 v hf hK)
-- X12_bits
noncomputable def mf_bits_l4 (v0 : Int32) : (Int32 × Int32) → Option ((Int32 × Int32) ⊕ ((Int32))) := fun (w1, w2) =>
(if (6 : Int32) ≤ w2 then
some (.inr (w1))
else
some (.inl ((w1 + ((v0 >>> (w2 &&& 31)) &&& (1 : Int32))), (w2 + (1 : Int32)))))
set_option maxHeartbeats 4000000 in
theorem mb_bits_l4 {C : mm_C} {Q : mm_R}  (h : mm_H) (v0 : Int32) (t : Int32 × Int32) (x : (Int32)) (hl : mo_loop (mf_bits_l4 v0) t = some x) (hK : (fun y1 => mm_go C mm_Mk mm_Fk P_X12_bits Q (P_X12_bits.drop 17) [(1, .int y1)] [] h 0 0) x) : (mo_c2 (fun y1 y2 => mm_go C mm_Mk mm_Fk P_X12_bits Q (P_X12_bits.drop 4) [(0, .int v0), (1, .int y1), (2, .int y2)] [] h 0 0)) t := by
  refine mo_loop_go (G := (mo_c2 (fun y1 y2 => mm_go C mm_Mk mm_Fk P_X12_bits Q (P_X12_bits.drop 4) [(0, .int v0), (1, .int y1), (2, .int y2)] [] h 0 0)) ) (K := (fun y1 => mm_go C mm_Mk mm_Fk P_X12_bits Q (P_X12_bits.drop 17) [(1, .int y1)] [] h 0 0) ) ?_ t x hl hK
  intro t r hf hK
  obtain ⟨w1, w2⟩ := t
  unfold mf_bits_l4 at hf
  by_cases c_1 : (6 : Int32) ≤ w2
  · have hf := mo_pos hf c_1
    obtain rfl := Option.some.inj hf
    refine mm_adv 3 (cs' := P_X12_bits.drop 17) (l' := [(0, .int v0), (1, .int w1), (2, .int w2)]) (st' := []) (h' := h) (bc' := 0) (bs' := 0) (fun n g => (And.intro (fun _ => g) (fun q => absurd c_1 q))) ?_
    exact mm_re (c := [(1, .int w1)]) hK rfl rfl
  · have hf := mo_neg hf c_1
    obtain rfl := Option.some.inj hf
    refine mm_adv 13 (cs' := P_X12_bits.drop 4) (l' := [(2, .int (w2 + (1 : Int32))), (1, .int (w1 + ((v0 >>> (w2 &&& 31)) &&& (1 : Int32)))), (0, .int v0)]) (st' := []) (h' := h) (bc' := 0) (bs' := 0) (fun n g => (And.intro (fun q => absurd q c_1) (fun _ => g))) ?_
    exact mm_re (c := [(0, .int v0), (1, .int (w1 + ((v0 >>> (w2 &&& 31)) &&& (1 : Int32)))), (2, .int (w2 + (1 : Int32)))]) hK rfl rfl
noncomputable def mf_bits (a0 : Int32) : Option (Int32) :=
((mo_loop (mf_bits_l4 (a0)) ((0 : Int32), (0 : Int32))).bind fun e1_2 =>
some (e1_2))
set_option maxHeartbeats 4000000 in
theorem mb_bits {C : mm_C} {Q : mm_R}  {h : mm_H} (a0 : Int32) (v : Int32) (hf : mf_bits a0 = some v) (hK : Q (some (.int v)) h) : mm_go C mm_Mk mm_Fk P_X12_bits Q P_X12_bits [(0, .int a0)] [] h 0 0 := by
  unfold mf_bits at hf
  obtain ⟨x_2, hl_2, hf⟩ := mo_bind hf
  refine mm_adv 4 (cs' := P_X12_bits.drop 4) (l' := [(2, .int (0 : Int32)), (1, .int (0 : Int32)), (0, .int a0)]) (st' := []) (h' := h) (bc' := 0) (bs' := 0) (fun n g => g) ?_
  refine mm_re (l' := [(0, .int a0), (1, .int (0 : Int32)), (2, .int (0 : Int32))]) (c := [(0, .int a0), (1, .int (0 : Int32)), (2, .int (0 : Int32))]) ?_ rfl rfl
  refine mb_bits_l4  _ (a0) ((0 : Int32), (0 : Int32)) x_2 hl_2 ?_
  obtain ⟨e1_2, rfl⟩ : ∃ q, q = x_2 := ⟨_, rfl⟩
  obtain rfl := Option.some.inj hf
  exact ⟨2, hK⟩
def mk_bits (C : mm_C) : Prop := ∀ (h : mm_H) (a0 : Int32) (v : Int32) (Q : mm_R), mf_bits a0 = some v → Q (some (.int v)) h → C 35 [.int a0] h Q
set_option maxRecDepth 100000 in
theorem mt_bits (B : mm_C) (d : Nat) : mk_bits (mm_ct B mm_Mk mm_Fk mm_PC (d + 1)) := fun h a0 v Q hf hK => Or.inr (mb_bits  a0 v hf hK)
-- X12_off
noncomputable def mf_off (a0 : Int32) (a1 : Int32) : Option (Int32) :=
(if a1 ≤ a0 then
some ((a0 - a1))
else
some ((a1 - a0)))
set_option maxHeartbeats 4000000 in
theorem mb_off {C : mm_C} {Q : mm_R}  {h : mm_H} (a0 : Int32) (a1 : Int32) (v : Int32) (hf : mf_off a0 a1 = some v) (hK : Q (some (.int v)) h) : mm_go C mm_Mk mm_Fk P_X12_off Q P_X12_off [(0, .int a0), (1, .int a1)] [] h 0 0 := by
  unfold mf_off at hf
  by_cases c_1 : a1 ≤ a0
  · have hf := mo_pos hf c_1
    obtain rfl := Option.some.inj hf
    exact ⟨7, (And.intro (fun _ => hK) (fun q => absurd c_1 q))⟩
  · have hf := mo_neg hf c_1
    obtain rfl := Option.some.inj hf
    exact ⟨8, (And.intro (fun q => absurd q c_1) (fun _ => hK))⟩
def mk_off (C : mm_C) : Prop := ∀ (h : mm_H) (a0 : Int32) (a1 : Int32) (v : Int32) (Q : mm_R), mf_off a0 a1 = some v → Q (some (.int v)) h → C 36 [.int a0, .int a1] h Q
set_option maxRecDepth 100000 in
theorem mt_off (B : mm_C) (d : Nat) : mk_off (mm_ct B mm_Mk mm_Fk mm_PC (d + 1)) := fun h a0 a1 v Q hf hK => Or.inr (mb_off  a0 a1 v hf hK)
-- X12_isSpeaker
noncomputable def mf_isSpeaker (s : ms_S) (a0 : Int32) : Option (Int32 × ms_S) :=
((mo_ag 2 (s.2.1 23) (s.1 18)).bind fun x_1 =>
((mf_in (a0) ((0 : Int32)) ((x_1 - (1 : Int32)))).bind fun v_2 =>
(if v_2 &&& 1 = v_2 then some (v_2, s) else none)))
set_option maxHeartbeats 4000000 in
theorem mb_isSpeaker {C : mm_C} {Q : mm_R} (h_in : mk_in C) (s : ms_S) (a0 : Int32) (v : Int32) (s2 : ms_S) (hf : mf_isSpeaker s a0 = some (v, s2)) (hK : Q (some (.int v)) (ms_H s2)) : mm_go C mm_Mk mm_Fk P_X12_isSpeaker Q P_X12_isSpeaker [(0, .ref 0), (1, .int a0)] [] (ms_H s) 0 0 := by
  unfold mf_isSpeaker at hf
  obtain ⟨x_1, hx_1, hf⟩ := mo_bind hf
  obtain ⟨hi_1, rfl⟩ := mo_ag_inv hx_1
  obtain ⟨v_2, hr_2, hf⟩ := mo_bind hf
  obtain ⟨hb_3, hf⟩ := mo_ite hf
  obtain ⟨rfl, rfl⟩ := mo_pair hf
  exact ⟨11, (And.intro hi_1 (h_in _ (a0) ((0 : Int32)) ((((s.2.1 23) ((s.1 18)).toNatClampNeg) - (1 : Int32))) v_2 _ hr_2 (And.intro hb_3 hK)))⟩
def mk_isSpeaker (C : mm_C) : Prop := ∀ (s : ms_S) (a0 : Int32) (v : Int32) (s2 : ms_S) (Q : mm_R), mf_isSpeaker s a0 = some (v, s2) → Q (some (.int v)) (ms_H s2) → C 37 [.ref 0, .int a0] (ms_H s) Q
set_option maxRecDepth 100000 in
theorem mt_isSpeaker (B : mm_C) (d : Nat) : mk_isSpeaker (mm_ct B mm_Mk mm_Fk mm_PC (d + 2)) := fun s a0 v s2 Q hf hK => Or.inr (mb_isSpeaker (mt_in B (d + 0)) s a0 v s2 hf hK)
-- X12_isWord
noncomputable def mf_isWord (s : ms_S) (a0 : Int32) : Option (Int32 × ms_S) :=
((mo_ag 2 (s.2.1 25) (s.1 18)).bind fun x_1 =>
((mf_in (a0) ((0 : Int32)) ((x_1 - (1 : Int32)))).bind fun v_2 =>
(if v_2 &&& 1 = v_2 then some (v_2, s) else none)))
set_option maxHeartbeats 4000000 in
theorem mb_isWord {C : mm_C} {Q : mm_R} (h_in : mk_in C) (s : ms_S) (a0 : Int32) (v : Int32) (s2 : ms_S) (hf : mf_isWord s a0 = some (v, s2)) (hK : Q (some (.int v)) (ms_H s2)) : mm_go C mm_Mk mm_Fk P_X12_isWord Q P_X12_isWord [(0, .ref 0), (1, .int a0)] [] (ms_H s) 0 0 := by
  unfold mf_isWord at hf
  obtain ⟨x_1, hx_1, hf⟩ := mo_bind hf
  obtain ⟨hi_1, rfl⟩ := mo_ag_inv hx_1
  obtain ⟨v_2, hr_2, hf⟩ := mo_bind hf
  obtain ⟨hb_3, hf⟩ := mo_ite hf
  obtain ⟨rfl, rfl⟩ := mo_pair hf
  exact ⟨11, (And.intro hi_1 (h_in _ (a0) ((0 : Int32)) ((((s.2.1 25) ((s.1 18)).toNatClampNeg) - (1 : Int32))) v_2 _ hr_2 (And.intro hb_3 hK)))⟩
def mk_isWord (C : mm_C) : Prop := ∀ (s : ms_S) (a0 : Int32) (v : Int32) (s2 : ms_S) (Q : mm_R), mf_isWord s a0 = some (v, s2) → Q (some (.int v)) (ms_H s2) → C 38 [.ref 0, .int a0] (ms_H s) Q
set_option maxRecDepth 100000 in
theorem mt_isWord (B : mm_C) (d : Nat) : mk_isWord (mm_ct B mm_Mk mm_Fk mm_PC (d + 2)) := fun s a0 v s2 Q hf hK => Or.inr (mb_isWord (mt_in B (d + 0)) s a0 v s2 hf hK)
-- X12_copies
noncomputable def mf_copies_l2  : (Int32 × ms_S) → Option ((Int32 × ms_S) ⊕ ((ms_S))) := fun (w1, s) =>
(if (12 : Int32) ≤ w1 then
some (.inr (s))
else
((mo_ag 12 (s.2.1 47) w1).bind fun x_2 =>
(bif mo_in w1 12 then some (.inl ((w1 + (1 : Int32)), (ms_sA s 48 (upd (s.2.1 48) (w1).toNatClampNeg (x_2))))) else none)))
set_option maxHeartbeats 4000000 in
theorem mb_copies_l2 {C : mm_C} {Q : mm_R}   (t : Int32 × ms_S) (x : (ms_S)) (hl : mo_loop (mf_copies_l2 ) t = some x) (hK : (fun sy => mm_go C mm_Mk mm_Fk P_X12_copies Q (P_X12_copies.drop 15) [(0, .ref 0)] [] (ms_H sy) 0 0) x) : (mo_c2 (fun y1 sy => mm_go C mm_Mk mm_Fk P_X12_copies Q (P_X12_copies.drop 2) [(0, .ref 0), (1, .int y1)] [] (ms_H sy) 0 0)) t := by
  refine mo_loop_go (G := (mo_c2 (fun y1 sy => mm_go C mm_Mk mm_Fk P_X12_copies Q (P_X12_copies.drop 2) [(0, .ref 0), (1, .int y1)] [] (ms_H sy) 0 0)) ) (K := (fun sy => mm_go C mm_Mk mm_Fk P_X12_copies Q (P_X12_copies.drop 15) [(0, .ref 0)] [] (ms_H sy) 0 0) ) ?_ t x hl hK
  intro t r hf hK
  obtain ⟨w1, s⟩ := t
  unfold mf_copies_l2 at hf
  by_cases c_1 : (12 : Int32) ≤ w1
  · have hf := mo_pos hf c_1
    obtain rfl := Option.some.inj hf
    refine mm_adv 3 (cs' := P_X12_copies.drop 15) (l' := [(0, .ref 0), (1, .int w1)]) (st' := []) (h' := ms_H s) (bc' := 0) (bs' := 0) (fun n g => (And.intro (fun _ => g) (fun q => absurd c_1 q))) ?_
    exact mm_re (c := [(0, .ref 0)]) hK rfl rfl
  · have hf := mo_neg hf c_1
    obtain ⟨x_2, hx_2, hf⟩ := mo_bind hf
    obtain ⟨hi_2, rfl⟩ := mo_ag_inv hx_2
    obtain ⟨hi_3, hf⟩ := mo_if hf
    obtain rfl := Option.some.inj hf
    refine mm_adv 13 (cs' := P_X12_copies.drop 2) (l' := [(1, .int (w1 + (1 : Int32))), (0, .ref 0)]) (st' := []) (h' := ms_H (ms_sA s 48 (upd (s.2.1 48) (w1).toNatClampNeg (((s.2.1 47) (w1).toNatClampNeg))))) (bc' := 0) (bs' := 0) (fun n g => (And.intro (fun q => absurd q c_1) (fun _ => (And.intro hi_2 (And.intro hi_3 g))))) ?_
    exact mm_re (c := [(0, .ref 0), (1, .int (w1 + (1 : Int32)))]) hK rfl rfl
noncomputable def mf_copies (s : ms_S)  : Option (ms_S) :=
((mo_loop (mf_copies_l2 ) ((0 : Int32), s)).bind fun s_4 =>
((mo_ag 2 (s_4.2.1 30) (s_4.1 18)).bind fun x_5 =>
some (ms_sI (ms_sI s_4 49 (x_5)) 50 ((0 : Int32)))))
set_option maxHeartbeats 4000000 in
theorem mb_copies {C : mm_C} {Q : mm_R}  (s : ms_S)  (s2 : ms_S) (hf : mf_copies s = some s2) (hK : Q (none) (ms_H s2)) : mm_go C mm_Mk mm_Fk P_X12_copies Q P_X12_copies [(0, .ref 0)] [] (ms_H s) 0 0 := by
  unfold mf_copies at hf
  obtain ⟨x_4, hl_4, hf⟩ := mo_bind hf
  refine mm_adv 2 (cs' := P_X12_copies.drop 2) (l' := [(1, .int (0 : Int32)), (0, .ref 0)]) (st' := []) (h' := ms_H s) (bc' := 0) (bs' := 0) (fun n g => g) ?_
  refine mm_re (l' := [(0, .ref 0), (1, .int (0 : Int32))]) (c := [(0, .ref 0), (1, .int (0 : Int32))]) ?_ rfl rfl
  refine mb_copies_l2   ((0 : Int32), s) x_4 hl_4 ?_
  obtain ⟨s_4, rfl⟩ : ∃ q, q = x_4 := ⟨_, rfl⟩
  obtain ⟨x_5, hx_5, hf⟩ := mo_bind hf
  obtain ⟨hi_5, rfl⟩ := mo_ag_inv hx_5
  obtain rfl := Option.some.inj hf
  exact ⟨11, (And.intro hi_5 (And.intro trivial (And.intro trivial hK)))⟩
def mk_copies (C : mm_C) : Prop := ∀ (s : ms_S)  (s2 : ms_S) (Q : mm_R), mf_copies s = some s2 → Q (none) (ms_H s2) → C 42 [.ref 0] (ms_H s) Q
set_option maxRecDepth 100000 in
theorem mt_copies (B : mm_C) (d : Nat) : mk_copies (mm_ct B mm_Mk mm_Fk mm_PC (d + 1)) := fun s s2 Q hf hK => Or.inr (mb_copies  s s2 hf hK)
-- X12_mixed
noncomputable def mf_mixed (a0 : Int32) (a1 : Int32) : Option (Int32) :=
some (((((a0 ^^^ a1) * (1103515245 : Int32)) + (12345 : Int32)) ^^^ (((((a0 ^^^ a1) * (1103515245 : Int32)) + (12345 : Int32))).toUInt32 >>> (((15 : Int32)).toUInt32 &&& Int32.toUInt32 31)).toInt32))
set_option maxHeartbeats 4000000 in
theorem mb_mixed {C : mm_C} {Q : mm_R}  {h : mm_H} (a0 : Int32) (a1 : Int32) (v : Int32) (hf : mf_mixed a0 a1 = some v) (hK : Q (some (.int v)) h) : mm_go C mm_Mk mm_Fk P_X12_mixed Q P_X12_mixed [(0, .int a0), (1, .int a1)] [] h 0 0 := by
  unfold mf_mixed at hf
  obtain rfl := Option.some.inj hf
  exact ⟨14, hK⟩
def mk_mixed (C : mm_C) : Prop := ∀ (h : mm_H) (a0 : Int32) (a1 : Int32) (v : Int32) (Q : mm_R), mf_mixed a0 a1 = some v → Q (some (.int v)) h → C 43 [.int a0, .int a1] h Q
set_option maxRecDepth 100000 in
theorem mt_mixed (B : mm_C) (d : Nat) : mk_mixed (mm_ct B mm_Mk mm_Fk mm_PC (d + 1)) := fun h a0 a1 v Q hf hK => Or.inr (mb_mixed  a0 a1 v hf hK)
-- X12_lotOf
noncomputable def mf_lotOf (s : ms_S) (a0 : Int32) (a1 : Int32) : Option (Int32 × ms_S) :=
((mf_mixed ((s.1 49)) ((199 : Int32))).bind fun v_1 =>
((mf_mixed (v_1) (a0)).bind fun v_2 =>
(if a1 = 0 then none else some ((((v_2).toUInt32 >>> (((1 : Int32)).toUInt32 &&& Int32.toUInt32 31)).toInt32 - ((v_2).toUInt32 >>> (((1 : Int32)).toUInt32 &&& Int32.toUInt32 31)).toInt32 / a1 * a1), s))))
set_option maxHeartbeats 4000000 in
theorem mb_lotOf {C : mm_C} {Q : mm_R} (h_mixed : mk_mixed C) (s : ms_S) (a0 : Int32) (a1 : Int32) (v : Int32) (s2 : ms_S) (hf : mf_lotOf s a0 a1 = some (v, s2)) (hK : Q (some (.int v)) (ms_H s2)) : mm_go C mm_Mk mm_Fk P_X12_lotOf Q P_X12_lotOf [(0, .ref 0), (1, .int a0), (2, .int a1)] [] (ms_H s) 0 0 := by
  unfold mf_lotOf at hf
  obtain ⟨v_1, hr_1, hf⟩ := mo_bind hf
  obtain ⟨v_2, hr_2, hf⟩ := mo_bind hf
  obtain ⟨hz_3, hf⟩ := mo_nz hf
  obtain ⟨rfl, rfl⟩ := mo_pair hf
  exact ⟨11, (h_mixed _ ((s.1 49)) ((199 : Int32)) v_1 _ hr_1 (h_mixed _ (v_1) (a0) v_2 _ hr_2 (And.intro hz_3 hK)))⟩
def mk_lotOf (C : mm_C) : Prop := ∀ (s : ms_S) (a0 : Int32) (a1 : Int32) (v : Int32) (s2 : ms_S) (Q : mm_R), mf_lotOf s a0 a1 = some (v, s2) → Q (some (.int v)) (ms_H s2) → C 44 [.ref 0, .int a0, .int a1] (ms_H s) Q
set_option maxRecDepth 100000 in
theorem mt_lotOf (B : mm_C) (d : Nat) : mk_lotOf (mm_ct B mm_Mk mm_Fk mm_PC (d + 2)) := fun s a0 a1 v s2 Q hf hK => Or.inr (mb_lotOf (mt_mixed B (d + 0)) s a0 a1 v s2 hf hK)
-- X12_lawTells
noncomputable def mf_lawTells_l26 (v3 : Int32) : (Int32 × ms_S) → Option ((Int32 × ms_S) ⊕ ((ms_S) ⊕ (Int32 × ms_S) ⊕ (ms_S))) := fun (w4, s) =>
((mo_ag 8 (s.2.1 32) v3).bind fun x_5 =>
(if x_5 ≤ w4 then
some (.inr (.inr (.inr (s))))
else
((mo_ag 260 (s.2.1 34) w4).bind fun x_7 =>
(if x_7 = (0 : Int32) then
some (.inr (.inr (.inl (w4, s))))
else
((mo_ag 260 (s.2.1 35) w4).bind fun x_9 =>
((mo_ag 260 (s.2.1 36) w4).bind fun x_10 =>
((mf_termOf s (x_9) (x_10)).bind fun (v_11, s_11) =>
((mo_ag 260 (s_11.2.1 36) w4).bind fun x_12 =>
((mo_ag 260 (s_11.2.1 37) w4).bind fun x_13 =>
((mf_termOf s_11 (x_12) (x_13)).bind fun (v_14, s_14) =>
(if (s_14.1 46) = (0 : Int32) then
(if v_11 < v_14 then
some (.inr (.inr (.inl (w4, s_14))))
else
some (.inl ((w4 + (1 : Int32)), s_14)))
else
some (.inr (.inl (s_14))))))))))))))
set_option maxHeartbeats 4000000 in
theorem mb_lawTells_l26 {C : mm_C} {Q : mm_R} (h_termOf : mk_termOf C) (v3 : Int32) (t : Int32 × ms_S) (x : (ms_S) ⊕ (Int32 × ms_S) ⊕ (ms_S)) (hl : mo_loop (mf_lawTells_l26 v3) t = some x) (hK : (mo_sum (fun sy => mm_go C mm_Mk mm_Fk P_X12_lawTells Q (P_X12_lawTells.drop 62) [] [] (ms_H sy) 0 0) (mo_sum (mo_c2 (fun y4 sy => mm_go C mm_Mk mm_Fk P_X12_lawTells Q (P_X12_lawTells.drop 68) [(0, .ref 0), (4, .int y4)] [] (ms_H sy) 0 0)) (fun sy => mm_go C mm_Mk mm_Fk P_X12_lawTells Q (P_X12_lawTells.drop 88) [] [] (ms_H sy) 0 0))) x) : (mo_c2 (fun y4 sy => mm_go C mm_Mk mm_Fk P_X12_lawTells Q (P_X12_lawTells.drop 26) [(0, .ref 0), (3, .int v3), (4, .int y4)] [] (ms_H sy) 0 0)) t := by
  refine mo_loop_go (G := (mo_c2 (fun y4 sy => mm_go C mm_Mk mm_Fk P_X12_lawTells Q (P_X12_lawTells.drop 26) [(0, .ref 0), (3, .int v3), (4, .int y4)] [] (ms_H sy) 0 0)) ) (K := (mo_sum (fun sy => mm_go C mm_Mk mm_Fk P_X12_lawTells Q (P_X12_lawTells.drop 62) [] [] (ms_H sy) 0 0) (mo_sum (mo_c2 (fun y4 sy => mm_go C mm_Mk mm_Fk P_X12_lawTells Q (P_X12_lawTells.drop 68) [(0, .ref 0), (4, .int y4)] [] (ms_H sy) 0 0)) (fun sy => mm_go C mm_Mk mm_Fk P_X12_lawTells Q (P_X12_lawTells.drop 88) [] [] (ms_H sy) 0 0))) ) ?_ t x hl hK
  intro t r hf hK
  obtain ⟨w4, s⟩ := t
  unfold mf_lawTells_l26 at hf
  obtain ⟨x_5, hx_5, hf⟩ := mo_bind hf
  obtain ⟨hi_5, rfl⟩ := mo_ag_inv hx_5
  by_cases c_6 : ((s.2.1 32) (v3).toNatClampNeg) ≤ w4
  · have hf := mo_pos hf c_6
    obtain rfl := Option.some.inj hf
    refine mm_adv 6 (cs' := P_X12_lawTells.drop 88) (l' := [(0, .ref 0), (3, .int v3), (4, .int w4)]) (st' := []) (h' := ms_H s) (bc' := 0) (bs' := 0) (fun n g => (And.intro hi_5 (And.intro (fun _ => g) (fun q => absurd c_6 q)))) ?_
    exact mm_re (c := []) hK rfl rfl
  · have hf := mo_neg hf c_6
    obtain ⟨x_7, hx_7, hf⟩ := mo_bind hf
    obtain ⟨hi_7, rfl⟩ := mo_ag_inv hx_7
    by_cases c_8 : ((s.2.1 34) (w4).toNatClampNeg) = (0 : Int32)
    · have hf := mo_pos hf c_8
      obtain rfl := Option.some.inj hf
      refine mm_adv 11 (cs' := P_X12_lawTells.drop 68) (l' := [(0, .ref 0), (3, .int v3), (4, .int w4)]) (st' := []) (h' := ms_H s) (bc' := 0) (bs' := 0) (fun n g => (And.intro hi_5 (And.intro (fun q => absurd q c_6) (fun _ => (And.intro hi_7 (And.intro (fun _ => g) (fun q => absurd c_8 q))))))) ?_
      exact mm_re (c := [(0, .ref 0), (4, .int w4)]) hK rfl rfl
    · have hf := mo_neg hf c_8
      obtain ⟨x_9, hx_9, hf⟩ := mo_bind hf
      obtain ⟨hi_9, rfl⟩ := mo_ag_inv hx_9
      obtain ⟨x_10, hx_10, hf⟩ := mo_bind hf
      obtain ⟨hi_10, rfl⟩ := mo_ag_inv hx_10
      obtain ⟨r_11, hr_11, hf⟩ := mo_bind hf
      obtain ⟨v_11, s_11⟩ := r_11
      obtain ⟨x_12, hx_12, hf⟩ := mo_bind hf
      obtain ⟨hi_12, rfl⟩ := mo_ag_inv hx_12
      obtain ⟨x_13, hx_13, hf⟩ := mo_bind hf
      obtain ⟨hi_13, rfl⟩ := mo_ag_inv hx_13
      obtain ⟨r_14, hr_14, hf⟩ := mo_bind hf
      obtain ⟨v_14, s_14⟩ := r_14
      by_cases c_15 : (s_14.1 46) = (0 : Int32)
      · have hf := mo_pos hf c_15
        by_cases c_16 : v_11 < v_14
        · have hf := mo_pos hf c_16
          obtain rfl := Option.some.inj hf
          refine mm_adv 39 (cs' := P_X12_lawTells.drop 68) (l' := [(6, .int v_14), (5, .int v_11), (0, .ref 0), (3, .int v3), (4, .int w4)]) (st' := []) (h' := ms_H s_14) (bc' := 0) (bs' := 0) (fun n g => (And.intro hi_5 (And.intro (fun q => absurd q c_6) (fun _ => (And.intro hi_7 (And.intro (fun q => absurd q c_8) (fun _ => (And.intro hi_9 (And.intro hi_10 (h_termOf s (((s.2.1 35) (w4).toNatClampNeg)) (((s.2.1 36) (w4).toNatClampNeg)) v_11 s_11 _ hr_11 (And.intro hi_12 (And.intro hi_13 (h_termOf s_11 (((s_11.2.1 36) (w4).toNatClampNeg)) (((s_11.2.1 37) (w4).toNatClampNeg)) v_14 s_14 _ hr_14 (And.intro (fun _ => (And.intro (fun _ => g) (fun q => absurd c_16 q))) (fun q => absurd c_15 q))))))))))))))) ?_
          exact mm_re (c := [(0, .ref 0), (4, .int w4)]) hK rfl rfl
        · have hf := mo_neg hf c_16
          obtain rfl := Option.some.inj hf
          refine mm_adv 42 (cs' := P_X12_lawTells.drop 26) (l' := [(4, .int (w4 + (1 : Int32))), (6, .int v_14), (5, .int v_11), (0, .ref 0), (3, .int v3)]) (st' := []) (h' := ms_H s_14) (bc' := 0) (bs' := 0) (fun n g => (And.intro hi_5 (And.intro (fun q => absurd q c_6) (fun _ => (And.intro hi_7 (And.intro (fun q => absurd q c_8) (fun _ => (And.intro hi_9 (And.intro hi_10 (h_termOf s (((s.2.1 35) (w4).toNatClampNeg)) (((s.2.1 36) (w4).toNatClampNeg)) v_11 s_11 _ hr_11 (And.intro hi_12 (And.intro hi_13 (h_termOf s_11 (((s_11.2.1 36) (w4).toNatClampNeg)) (((s_11.2.1 37) (w4).toNatClampNeg)) v_14 s_14 _ hr_14 (And.intro (fun _ => (And.intro (fun q => absurd q c_16) (fun _ => g))) (fun q => absurd c_15 q))))))))))))))) ?_
          exact mm_re (c := [(0, .ref 0), (3, .int v3), (4, .int (w4 + (1 : Int32)))]) hK rfl rfl
      · have hf := mo_neg hf c_15
        obtain rfl := Option.some.inj hf
        refine mm_adv 36 (cs' := P_X12_lawTells.drop 62) (l' := [(6, .int v_14), (5, .int v_11), (0, .ref 0), (3, .int v3), (4, .int w4)]) (st' := []) (h' := ms_H s_14) (bc' := 0) (bs' := 0) (fun n g => (And.intro hi_5 (And.intro (fun q => absurd q c_6) (fun _ => (And.intro hi_7 (And.intro (fun q => absurd q c_8) (fun _ => (And.intro hi_9 (And.intro hi_10 (h_termOf s (((s.2.1 35) (w4).toNatClampNeg)) (((s.2.1 36) (w4).toNatClampNeg)) v_11 s_11 _ hr_11 (And.intro hi_12 (And.intro hi_13 (h_termOf s_11 (((s_11.2.1 36) (w4).toNatClampNeg)) (((s_11.2.1 37) (w4).toNatClampNeg)) v_14 s_14 _ hr_14 (And.intro (fun q => absurd q c_15) (fun _ => g))))))))))))))) ?_
        exact mm_re (c := []) hK rfl rfl
noncomputable def mf_lawTells_j68 (s : ms_S) (v4 : Int32) : Option (Int32 × ms_S) :=
((mo_ag 260 (s.2.1 37) v4).bind fun x_18 =>
((mo_ag 260 (s.2.1 38) v4).bind fun x_19 =>
((mf_termOf s (x_18) (x_19)).bind fun (v_20, s_20) =>
(if (s_20.1 46) = (0 : Int32) then
some (v_20, s_20)
else
some ((0 : Int32), s_20)))))
set_option maxHeartbeats 4000000 in
theorem mb_lawTells_j68 {C : mm_C} {Q : mm_R} (h_termOf : mk_termOf C) (s : ms_S) (v4 : Int32) (v : Int32) (s2 : ms_S) (hf : mf_lawTells_j68 s v4 = some (v, s2)) (hK : Q (some (.int v)) (ms_H s2)) : mm_go C mm_Mk mm_Fk P_X12_lawTells Q (P_X12_lawTells.drop 68) [(0, .ref 0), (4, .int v4)] [] (ms_H s) 0 0 := by
  unfold mf_lawTells_j68 at hf
  obtain ⟨x_18, hx_18, hf⟩ := mo_bind hf
  obtain ⟨hi_18, rfl⟩ := mo_ag_inv hx_18
  obtain ⟨x_19, hx_19, hf⟩ := mo_bind hf
  obtain ⟨hi_19, rfl⟩ := mo_ag_inv hx_19
  obtain ⟨r_20, hr_20, hf⟩ := mo_bind hf
  obtain ⟨v_20, s_20⟩ := r_20
  by_cases c_21 : (s_20.1 46) = (0 : Int32)
  · have hf := mo_pos hf c_21
    obtain ⟨rfl, rfl⟩ := mo_pair hf
    exact ⟨16, (And.intro hi_18 (And.intro hi_19 (h_termOf s (((s.2.1 37) (v4).toNatClampNeg)) (((s.2.1 38) (v4).toNatClampNeg)) v_20 s_20 _ hr_20 (And.intro (fun _ => hK) (fun q => absurd c_21 q)))))⟩
  · have hf := mo_neg hf c_21
    obtain ⟨rfl, rfl⟩ := mo_pair hf
    exact ⟨17, (And.intro hi_18 (And.intro hi_19 (h_termOf s (((s.2.1 37) (v4).toNatClampNeg)) (((s.2.1 38) (v4).toNatClampNeg)) v_20 s_20 _ hr_20 (And.intro (fun q => absurd q c_21) (fun _ => hK)))))⟩
noncomputable def mf_lawTells (s : ms_S) (a0 : Int32) (a1 : Int32) : Option (Int32 × ms_S) :=
((mo_ag 8 (s.2.1 31) (((4 : Int32) * (s.1 18)) + a0)).bind fun x_1 =>
((mo_ag 8 (s.2.1 32) (((4 : Int32) * (s.1 18)) + a0)).bind fun x_2 =>
(if x_1 = x_2 then
some (a1, s)
else
((mo_ag 8 (s.2.1 31) (((4 : Int32) * (s.1 18)) + a0)).bind fun x_4 =>
((mo_loop (mf_lawTells_l26 ((((4 : Int32) * (s.1 18)) + a0))) (x_4, (ms_sI s 46 ((0 : Int32))))).bind fun x_17 =>
match x_17 with
| (.inl s_17) => some ((0 : Int32), s_17)
| (.inr (.inl (e4_17, s_17))) => (mf_lawTells_j68 (s_17) (e4_17))
| (.inr (.inr s_17)) => some ((0 : Int32), s_17)
)))))
set_option maxHeartbeats 4000000 in
theorem mb_lawTells {C : mm_C} {Q : mm_R} (h_termOf : mk_termOf C) (s : ms_S) (a0 : Int32) (a1 : Int32) (v : Int32) (s2 : ms_S) (hf : mf_lawTells s a0 a1 = some (v, s2)) (hK : Q (some (.int v)) (ms_H s2)) : mm_go C mm_Mk mm_Fk P_X12_lawTells Q P_X12_lawTells [(0, .ref 0), (1, .int a0), (2, .int a1)] [] (ms_H s) 0 0 := by
  unfold mf_lawTells at hf
  obtain ⟨x_1, hx_1, hf⟩ := mo_bind hf
  obtain ⟨hi_1, rfl⟩ := mo_ag_inv hx_1
  obtain ⟨x_2, hx_2, hf⟩ := mo_bind hf
  obtain ⟨hi_2, rfl⟩ := mo_ag_inv hx_2
  by_cases c_3 : ((s.2.1 31) ((((4 : Int32) * (s.1 18)) + a0)).toNatClampNeg) = ((s.2.1 32) ((((4 : Int32) * (s.1 18)) + a0)).toNatClampNeg)
  · have hf := mo_pos hf c_3
    obtain ⟨rfl, rfl⟩ := mo_pair hf
    exact ⟨18, (And.intro hi_1 (And.intro hi_2 (And.intro (fun q => absurd c_3 q) (fun _ => hK))))⟩
  · have hf := mo_neg hf c_3
    obtain ⟨x_4, hx_4, hf⟩ := mo_bind hf
    obtain ⟨hi_4, rfl⟩ := mo_ag_inv hx_4
    obtain ⟨x_17, hl_17, hf⟩ := mo_bind hf
    refine mm_adv 24 (cs' := P_X12_lawTells.drop 26) (l' := [(4, .int ((s.2.1 31) ((((4 : Int32) * (s.1 18)) + a0)).toNatClampNeg)), (3, .int (((4 : Int32) * (s.1 18)) + a0)), (0, .ref 0), (1, .int a0), (2, .int a1)]) (st' := []) (h' := ms_H (ms_sI s 46 ((0 : Int32)))) (bc' := 0) (bs' := 0) (fun n g => (And.intro hi_1 (And.intro hi_2 (And.intro (fun _ => (And.intro rfl (And.intro hi_4 g))) (fun q => absurd c_3 q))))) ?_
    refine mm_re (l' := [(0, .ref 0), (3, .int (((4 : Int32) * (s.1 18)) + a0)), (4, .int ((s.2.1 31) ((((4 : Int32) * (s.1 18)) + a0)).toNatClampNeg))]) (c := [(0, .ref 0), (3, .int (((4 : Int32) * (s.1 18)) + a0)), (4, .int ((s.2.1 31) ((((4 : Int32) * (s.1 18)) + a0)).toNatClampNeg))]) ?_ rfl rfl
    refine mb_lawTells_l26 h_termOf ((((4 : Int32) * (s.1 18)) + a0)) (((s.2.1 31) ((((4 : Int32) * (s.1 18)) + a0)).toNatClampNeg), (ms_sI s 46 ((0 : Int32)))) x_17 hl_17 ?_
    cases x_17 with
    | inl y_17 =>
      obtain ⟨s_17, rfl⟩ : ∃ q, q = y_17 := ⟨_, rfl⟩
      obtain ⟨rfl, rfl⟩ := mo_pair hf
      exact ⟨2, hK⟩
    | inr z_17_0 =>
      cases z_17_0 with
      | inl y_17 =>
        obtain ⟨e4_17, s_17⟩ := y_17
        refine mm_re (l' := [(0, .ref 0), (4, .int e4_17)]) (c := [(0, .ref 0), (4, .int e4_17)]) ?_ rfl rfl
        exact mb_lawTells_j68 h_termOf s_17 (e4_17) _ _ hf hK
      | inr z_17_1 =>
        obtain ⟨s_17, rfl⟩ : ∃ q, q = z_17_1 := ⟨_, rfl⟩
        obtain ⟨rfl, rfl⟩ := mo_pair hf
        exact ⟨2, hK⟩
def mk_lawTells (C : mm_C) : Prop := ∀ (s : ms_S) (a0 : Int32) (a1 : Int32) (v : Int32) (s2 : ms_S) (Q : mm_R), mf_lawTells s a0 a1 = some (v, s2) → Q (some (.int v)) (ms_H s2) → C 45 [.ref 0, .int a0, .int a1] (ms_H s) Q
set_option maxRecDepth 100000 in
theorem mt_lawTells (B : mm_C) (d : Nat) : mk_lawTells (mm_ct B mm_Mk mm_Fk mm_PC (d + 2)) := fun s a0 a1 v s2 Q hf hK => Or.inr (mb_lawTells (mt_termOf B (d + 0)) s a0 a1 v s2 hf hK)
-- X12_forceAt
noncomputable def mf_forceAt (s : ms_S) (a0 : Int32) : Option (Int32 × ms_S) :=
((mo_ag 12 (s.2.1 26) (((6 : Int32) * (s.1 18)) + a0)).bind fun x_1 =>
some (x_1, s))
set_option maxHeartbeats 4000000 in
theorem mb_forceAt {C : mm_C} {Q : mm_R}  (s : ms_S) (a0 : Int32) (v : Int32) (s2 : ms_S) (hf : mf_forceAt s a0 = some (v, s2)) (hK : Q (some (.int v)) (ms_H s2)) : mm_go C mm_Mk mm_Fk P_X12_forceAt Q P_X12_forceAt [(0, .ref 0), (1, .int a0)] [] (ms_H s) 0 0 := by
  unfold mf_forceAt at hf
  obtain ⟨x_1, hx_1, hf⟩ := mo_bind hf
  obtain ⟨hi_1, rfl⟩ := mo_ag_inv hx_1
  obtain ⟨rfl, rfl⟩ := mo_pair hf
  exact ⟨10, (And.intro hi_1 hK)⟩
def mk_forceAt (C : mm_C) : Prop := ∀ (s : ms_S) (a0 : Int32) (v : Int32) (s2 : ms_S) (Q : mm_R), mf_forceAt s a0 = some (v, s2) → Q (some (.int v)) (ms_H s2) → C 46 [.ref 0, .int a0] (ms_H s) Q
set_option maxRecDepth 100000 in
theorem mt_forceAt (B : mm_C) (d : Nat) : mk_forceAt (mm_ct B mm_Mk mm_Fk mm_PC (d + 1)) := fun s a0 v s2 Q hf hK => Or.inr (mb_forceAt  s a0 v s2 hf hK)
-- X12_looks
noncomputable def mf_looks_j48 (s : ms_S) (v1 : Int32) (k0 : Int32) (k1 : Int32) : Option (ms_S) :=
(bif mo_in k1 9 then ((mo_ag 12 (s.2.1 48) ((4 : Int32) - v1)).bind fun x_5 =>
((mo_ag 10 (s.2.1 24) (((5 : Int32) * (s.1 18)) + x_5)).bind fun x_6 =>
((mo_ag 2 (s.2.1 25) (s.1 18)).bind fun x_7 =>
some (ms_sA s 44 (upd (upd (upd (upd (upd (upd (s.2.1 44) (k1).toNatClampNeg (k0)) 4 (v1)) 5 ((0 : Int32))) 6 (x_6)) 7 (x_7)) 8 ((0 : Int32))))))) else none)
set_option maxHeartbeats 4000000 in
theorem mb_looks_j48 {C : mm_C} {Q : mm_R}  (s : ms_S) (v1 : Int32) (k0 : Int32) (k1 : Int32) (s2 : ms_S) (hf : mf_looks_j48 s v1 k0 k1 = some s2) (hK : Q (none) (ms_H s2)) : mm_go C mm_Mk mm_Fk P_X12_looks Q (P_X12_looks.drop 48) [(0, .ref 0), (1, .int v1)] [.int k0, .int k1, .ref 28] (ms_H s) 0 0 := by
  unfold mf_looks_j48 at hf
  obtain ⟨hi_4, hf⟩ := mo_if hf
  obtain ⟨x_5, hx_5, hf⟩ := mo_bind hf
  obtain ⟨hi_5, rfl⟩ := mo_ag_inv hx_5
  obtain ⟨x_6, hx_6, hf⟩ := mo_bind hf
  obtain ⟨hi_6, rfl⟩ := mo_ag_inv hx_6
  obtain ⟨x_7, hx_7, hf⟩ := mo_bind hf
  obtain ⟨hi_7, rfl⟩ := mo_ag_inv hx_7
  obtain rfl := Option.some.inj hf
  exact ⟨44, (And.intro hi_4 (And.intro (mm_vi rfl) (And.intro (mm_vi rfl) (And.intro hi_5 (And.intro hi_6 (And.intro (mm_vi rfl) (And.intro hi_7 (And.intro (mm_vi rfl) (And.intro (mm_vi rfl) hK)))))))))⟩
noncomputable def mf_looks (s : ms_S) (a0 : Int32) : Option (ms_S) :=
((mo_ag 12 (s.2.1 48) ((3 : Int32) + a0)).bind fun x_1 =>
((mo_ag 10 (s.2.1 24) (((5 : Int32) * (s.1 18)) + x_1)).bind fun x_2 =>
(if (s.2.1 48 2) = (6 : Int32) then
(mf_looks_j48 ((ms_sA s 44 (upd (upd (upd (s.2.1 44) 0 ((0 : Int32))) 1 (x_2)) 2 ((s.2.1 48 0))))) (a0) ((0 : Int32)) ((3 : Int32)))
else
(mf_looks_j48 ((ms_sA s 44 (upd (upd (upd (s.2.1 44) 0 ((0 : Int32))) 1 (x_2)) 2 ((s.2.1 48 0))))) (a0) (((s.2.1 48 2) + (1 : Int32))) ((3 : Int32))))))
set_option maxHeartbeats 4000000 in
theorem mb_looks {C : mm_C} {Q : mm_R}  (s : ms_S) (a0 : Int32) (s2 : ms_S) (hf : mf_looks s a0 = some s2) (hK : Q (none) (ms_H s2)) : mm_go C mm_Mk mm_Fk P_X12_looks Q P_X12_looks [(0, .ref 0), (1, .int a0)] [] (ms_H s) 0 0 := by
  unfold mf_looks at hf
  obtain ⟨x_1, hx_1, hf⟩ := mo_bind hf
  obtain ⟨hi_1, rfl⟩ := mo_ag_inv hx_1
  obtain ⟨x_2, hx_2, hf⟩ := mo_bind hf
  obtain ⟨hi_2, rfl⟩ := mo_ag_inv hx_2
  by_cases c_3 : (s.2.1 48 2) = (6 : Int32)
  · have hf := mo_pos hf c_3
    refine mm_adv 42 (cs' := P_X12_looks.drop 48) (l' := [(0, .ref 0), (1, .int a0)]) (st' := [.int (0 : Int32), .int (3 : Int32), .ref 28]) (h' := ms_H (ms_sA s 44 (upd (upd (upd (s.2.1 44) 0 ((0 : Int32))) 1 (((s.2.1 24) ((((5 : Int32) * (s.1 18)) + ((s.2.1 48) (((3 : Int32) + a0)).toNatClampNeg))).toNatClampNeg))) 2 ((s.2.1 48 0))))) (bc' := 0) (bs' := 0) (fun n g => (And.intro (mm_vi rfl) (And.intro hi_1 (And.intro hi_2 (And.intro (mm_vi rfl) (And.intro (mm_vi rfl) (And.intro (mm_vi rfl) (And.intro (mm_vi rfl) (And.intro (fun q => absurd c_3 q) (fun _ => g)))))))))) ?_
    refine mm_re (l' := [(0, .ref 0), (1, .int a0)]) (c := [(0, .ref 0), (1, .int a0)]) ?_ rfl rfl
    exact mb_looks_j48  (ms_sA s 44 (upd (upd (upd (s.2.1 44) 0 ((0 : Int32))) 1 (((s.2.1 24) ((((5 : Int32) * (s.1 18)) + ((s.2.1 48) (((3 : Int32) + a0)).toNatClampNeg))).toNatClampNeg))) 2 ((s.2.1 48 0)))) (a0) ((0 : Int32)) ((3 : Int32)) _ hf hK
  · have hf := mo_neg hf c_3
    refine mm_adv 46 (cs' := P_X12_looks.drop 48) (l' := [(0, .ref 0), (1, .int a0)]) (st' := [.int ((s.2.1 48 2) + (1 : Int32)), .int (3 : Int32), .ref 28]) (h' := ms_H (ms_sA s 44 (upd (upd (upd (s.2.1 44) 0 ((0 : Int32))) 1 (((s.2.1 24) ((((5 : Int32) * (s.1 18)) + ((s.2.1 48) (((3 : Int32) + a0)).toNatClampNeg))).toNatClampNeg))) 2 ((s.2.1 48 0))))) (bc' := 0) (bs' := 0) (fun n g => (And.intro (mm_vi rfl) (And.intro hi_1 (And.intro hi_2 (And.intro (mm_vi rfl) (And.intro (mm_vi rfl) (And.intro (mm_vi rfl) (And.intro (mm_vi rfl) (And.intro (fun _ => (And.intro (mm_vi rfl) g)) (fun q => absurd c_3 q)))))))))) ?_
    refine mm_re (l' := [(0, .ref 0), (1, .int a0)]) (c := [(0, .ref 0), (1, .int a0)]) ?_ rfl rfl
    exact mb_looks_j48  (ms_sA s 44 (upd (upd (upd (s.2.1 44) 0 ((0 : Int32))) 1 (((s.2.1 24) ((((5 : Int32) * (s.1 18)) + ((s.2.1 48) (((3 : Int32) + a0)).toNatClampNeg))).toNatClampNeg))) 2 ((s.2.1 48 0)))) (a0) (((s.2.1 48 2) + (1 : Int32))) ((3 : Int32)) _ hf hK
def mk_looks (C : mm_C) : Prop := ∀ (s : ms_S) (a0 : Int32) (s2 : ms_S) (Q : mm_R), mf_looks s a0 = some s2 → Q (none) (ms_H s2) → C 47 [.ref 0, .int a0] (ms_H s) Q
set_option maxRecDepth 100000 in
theorem mt_looks (B : mm_C) (d : Nat) : mk_looks (mm_ct B mm_Mk mm_Fk mm_PC (d + 1)) := fun s a0 s2 Q hf hK => Or.inr (mb_looks  s a0 s2 hf hK)
-- X12_looksAt
noncomputable def mf_looksAt (s : ms_S) (a0 : Int32) : Option (ms_S) :=
((mf_looks s ((s.2.1 48 1))).bind fun s_1 =>
((mf_forceAt s_1 (a0)).bind fun (v_2, s_2) =>
(if (6 : Int32) ≤ (s_2.2.1 48 2) then
some (ms_sA s_2 44 (upd (upd (s_2.2.1 44) 0 (v_2)) 5 (a0)))
else
((mf_forceAt (ms_sA s_2 44 (upd (upd (s_2.2.1 44) 0 (v_2)) 5 (a0))) ((s_2.2.1 48 2))).bind fun (v_4, s_4) =>
((mf_forceAt s_4 (a0)).bind fun (v_5, s_5) =>
(if v_4 = v_5 then
some (ms_sA s_5 44 (upd (s_5.2.1 44) 8 ((1 : Int32))))
else
some s_5))))))
set_option maxHeartbeats 4000000 in
theorem mb_looksAt {C : mm_C} {Q : mm_R} (h_looks : mk_looks C) (h_forceAt : mk_forceAt C) (s : ms_S) (a0 : Int32) (s2 : ms_S) (hf : mf_looksAt s a0 = some s2) (hK : Q (none) (ms_H s2)) : mm_go C mm_Mk mm_Fk P_X12_looksAt Q P_X12_looksAt [(0, .ref 0), (1, .int a0)] [] (ms_H s) 0 0 := by
  unfold mf_looksAt at hf
  obtain ⟨s_1, hr_1, hf⟩ := mo_bind hf
  obtain ⟨r_2, hr_2, hf⟩ := mo_bind hf
  obtain ⟨v_2, s_2⟩ := r_2
  by_cases c_3 : (6 : Int32) ≤ (s_2.2.1 48 2)
  · have hf := mo_pos hf c_3
    obtain rfl := Option.some.inj hf
    exact ⟨25, (And.intro (mm_vi rfl) (h_looks s ((s.2.1 48 1)) s_1 _ hr_1 (h_forceAt s_1 (a0) v_2 s_2 _ hr_2 (And.intro (mm_vi rfl) (And.intro (mm_vi rfl) (And.intro (mm_vi rfl) (And.intro (fun _ => hK) (fun q => absurd c_3 q))))))))⟩
  · have hf := mo_neg hf c_3
    obtain ⟨r_4, hr_4, hf⟩ := mo_bind hf
    obtain ⟨v_4, s_4⟩ := r_4
    obtain ⟨r_5, hr_5, hf⟩ := mo_bind hf
    obtain ⟨v_5, s_5⟩ := r_5
    by_cases c_6 : v_4 = v_5
    · have hf := mo_pos hf c_6
      obtain rfl := Option.some.inj hf
      exact ⟨40, (And.intro (mm_vi rfl) (h_looks s ((s.2.1 48 1)) s_1 _ hr_1 (h_forceAt s_1 (a0) v_2 s_2 _ hr_2 (And.intro (mm_vi rfl) (And.intro (mm_vi rfl) (And.intro (mm_vi rfl) (And.intro (fun q => absurd q c_3) (fun _ => (And.intro (mm_vi rfl) (h_forceAt (ms_sA s_2 44 (upd (upd (s_2.2.1 44) 0 (v_2)) 5 (a0))) ((s_2.2.1 48 2)) v_4 s_4 _ hr_4 (h_forceAt s_4 (a0) v_5 s_5 _ hr_5 (And.intro (fun q => absurd c_6 q) (fun _ => (And.intro (mm_vi rfl) hK))))))))))))))⟩
    · have hf := mo_neg hf c_6
      obtain rfl := Option.some.inj hf
      exact ⟨35, (And.intro (mm_vi rfl) (h_looks s ((s.2.1 48 1)) s_1 _ hr_1 (h_forceAt s_1 (a0) v_2 s_2 _ hr_2 (And.intro (mm_vi rfl) (And.intro (mm_vi rfl) (And.intro (mm_vi rfl) (And.intro (fun q => absurd q c_3) (fun _ => (And.intro (mm_vi rfl) (h_forceAt (ms_sA s_2 44 (upd (upd (s_2.2.1 44) 0 (v_2)) 5 (a0))) ((s_2.2.1 48 2)) v_4 s_4 _ hr_4 (h_forceAt s_4 (a0) v_5 s_5 _ hr_5 (And.intro (fun _ => hK) (fun q => absurd c_6 q)))))))))))))⟩
def mk_looksAt (C : mm_C) : Prop := ∀ (s : ms_S) (a0 : Int32) (s2 : ms_S) (Q : mm_R), mf_looksAt s a0 = some s2 → Q (none) (ms_H s2) → C 48 [.ref 0, .int a0] (ms_H s) Q
set_option maxRecDepth 100000 in
theorem mt_looksAt (B : mm_C) (d : Nat) : mk_looksAt (mm_ct B mm_Mk mm_Fk mm_PC (d + 2)) := fun s a0 s2 Q hf hK => Or.inr (mb_looksAt (mt_looks B (d + 0)) (mt_forceAt B (d + 0)) s a0 s2 hf hK)
-- X12_pushesOf
noncomputable def mf_pushesOf (s : ms_S) (a0 : Int32) : Option (Int32 × ms_S) :=
((mf_looksAt s (a0)).bind fun s_1 =>
((mf_lawTells s_1 ((0 : Int32)) ((s_1.2.1 44 0))).bind fun (v_2, s_2) =>
((mf_within (v_2) ((0 : Int32)) ((9 : Int32))).bind fun v_3 =>
some (v_3, s_2))))
set_option maxHeartbeats 4000000 in
theorem mb_pushesOf {C : mm_C} {Q : mm_R} (h_looksAt : mk_looksAt C) (h_lawTells : mk_lawTells C) (h_within : mk_within C) (s : ms_S) (a0 : Int32) (v : Int32) (s2 : ms_S) (hf : mf_pushesOf s a0 = some (v, s2)) (hK : Q (some (.int v)) (ms_H s2)) : mm_go C mm_Mk mm_Fk P_X12_pushesOf Q P_X12_pushesOf [(0, .ref 0), (1, .int a0)] [] (ms_H s) 0 0 := by
  unfold mf_pushesOf at hf
  obtain ⟨s_1, hr_1, hf⟩ := mo_bind hf
  obtain ⟨r_2, hr_2, hf⟩ := mo_bind hf
  obtain ⟨v_2, s_2⟩ := r_2
  obtain ⟨v_3, hr_3, hf⟩ := mo_bind hf
  obtain ⟨rfl, rfl⟩ := mo_pair hf
  exact ⟨14, (h_looksAt s (a0) s_1 _ hr_1 (And.intro (mm_vi rfl) (h_lawTells s_1 ((0 : Int32)) ((s_1.2.1 44 0)) v_2 s_2 _ hr_2 (h_within _ (v_2) ((0 : Int32)) ((9 : Int32)) v_3 _ hr_3 hK))))⟩
def mk_pushesOf (C : mm_C) : Prop := ∀ (s : ms_S) (a0 : Int32) (v : Int32) (s2 : ms_S) (Q : mm_R), mf_pushesOf s a0 = some (v, s2) → Q (some (.int v)) (ms_H s2) → C 49 [.ref 0, .int a0] (ms_H s) Q
set_option maxRecDepth 100000 in
theorem mt_pushesOf (B : mm_C) (d : Nat) : mk_pushesOf (mm_ct B mm_Mk mm_Fk mm_PC (d + 3)) := fun s a0 v s2 Q hf hK => Or.inr (mb_pushesOf (mt_looksAt B (d + 0)) (mt_lawTells B (d + 0)) (mt_within B (d + 1)) s a0 v s2 hf hK)
-- X12_isBarred
noncomputable def mf_isBarred (s : ms_S) (a0 : Int32) : Option (Int32 × ms_S) :=
((mf_looksAt s (a0)).bind fun s_1 =>
((mf_lawTells s_1 ((3 : Int32)) ((0 : Int32))).bind fun (v_2, s_2) =>
(if v_2 ≤ (0 : Int32) then
some ((0 : Int32), s_2)
else
some ((1 : Int32), s_2))))
set_option maxHeartbeats 4000000 in
theorem mb_isBarred {C : mm_C} {Q : mm_R} (h_looksAt : mk_looksAt C) (h_lawTells : mk_lawTells C) (s : ms_S) (a0 : Int32) (v : Int32) (s2 : ms_S) (hf : mf_isBarred s a0 = some (v, s2)) (hK : Q (some (.int v)) (ms_H s2)) : mm_go C mm_Mk mm_Fk P_X12_isBarred Q P_X12_isBarred [(0, .ref 0), (1, .int a0)] [] (ms_H s) 0 0 := by
  unfold mf_isBarred at hf
  obtain ⟨s_1, hr_1, hf⟩ := mo_bind hf
  obtain ⟨r_2, hr_2, hf⟩ := mo_bind hf
  obtain ⟨v_2, s_2⟩ := r_2
  by_cases c_3 : v_2 ≤ (0 : Int32)
  · have hf := mo_pos hf c_3
    obtain ⟨rfl, rfl⟩ := mo_pair hf
    exact ⟨10, (h_looksAt s (a0) s_1 _ hr_1 (h_lawTells s_1 ((3 : Int32)) ((0 : Int32)) v_2 s_2 _ hr_2 (And.intro (fun _ => (And.intro rfl hK)) (fun q => absurd c_3 q))))⟩
  · have hf := mo_neg hf c_3
    obtain ⟨rfl, rfl⟩ := mo_pair hf
    exact ⟨11, (h_looksAt s (a0) s_1 _ hr_1 (h_lawTells s_1 ((3 : Int32)) ((0 : Int32)) v_2 s_2 _ hr_2 (And.intro (fun q => absurd q c_3) (fun _ => (And.intro rfl hK)))))⟩
def mk_isBarred (C : mm_C) : Prop := ∀ (s : ms_S) (a0 : Int32) (v : Int32) (s2 : ms_S) (Q : mm_R), mf_isBarred s a0 = some (v, s2) → Q (some (.int v)) (ms_H s2) → C 50 [.ref 0, .int a0] (ms_H s) Q
set_option maxRecDepth 100000 in
theorem mt_isBarred (B : mm_C) (d : Nat) : mk_isBarred (mm_ct B mm_Mk mm_Fk mm_PC (d + 3)) := fun s a0 v s2 Q hf hK => Or.inr (mb_isBarred (mt_looksAt B (d + 0)) (mt_lawTells B (d + 0)) s a0 v s2 hf hK)
-- X12_restsNow
noncomputable def mf_restsNow (s : ms_S)  : Option (Int32 × ms_S) :=
((mf_looks s ((s.2.1 48 1))).bind fun s_1 =>
((mf_lawTells s_1 ((2 : Int32)) ((0 : Int32))).bind fun (v_2, s_2) =>
((mf_within (v_2) ((0 : Int32)) ((9 : Int32))).bind fun v_3 =>
some (v_3, s_2))))
set_option maxHeartbeats 4000000 in
theorem mb_restsNow {C : mm_C} {Q : mm_R} (h_looks : mk_looks C) (h_lawTells : mk_lawTells C) (h_within : mk_within C) (s : ms_S)  (v : Int32) (s2 : ms_S) (hf : mf_restsNow s = some (v, s2)) (hK : Q (some (.int v)) (ms_H s2)) : mm_go C mm_Mk mm_Fk P_X12_restsNow Q P_X12_restsNow [(0, .ref 0)] [] (ms_H s) 0 0 := by
  unfold mf_restsNow at hf
  obtain ⟨s_1, hr_1, hf⟩ := mo_bind hf
  obtain ⟨r_2, hr_2, hf⟩ := mo_bind hf
  obtain ⟨v_2, s_2⟩ := r_2
  obtain ⟨v_3, hr_3, hf⟩ := mo_bind hf
  obtain ⟨rfl, rfl⟩ := mo_pair hf
  exact ⟨14, (And.intro (mm_vi rfl) (h_looks s ((s.2.1 48 1)) s_1 _ hr_1 (h_lawTells s_1 ((2 : Int32)) ((0 : Int32)) v_2 s_2 _ hr_2 (h_within _ (v_2) ((0 : Int32)) ((9 : Int32)) v_3 _ hr_3 hK))))⟩
def mk_restsNow (C : mm_C) : Prop := ∀ (s : ms_S)  (v : Int32) (s2 : ms_S) (Q : mm_R), mf_restsNow s = some (v, s2) → Q (some (.int v)) (ms_H s2) → C 51 [.ref 0] (ms_H s) Q
set_option maxRecDepth 100000 in
theorem mt_restsNow (B : mm_C) (d : Nat) : mk_restsNow (mm_ct B mm_Mk mm_Fk mm_PC (d + 3)) := fun s v s2 Q hf hK => Or.inr (mb_restsNow (mt_looks B (d + 1)) (mt_lawTells B (d + 0)) (mt_within B (d + 1)) s v s2 hf hK)
